/-! CLIMBING in the reference: level 3, and all levels -/
theorem RWk.fr {M M' : Mw} {wok : Nat → Nat} {I : Nat} (h : RWk M wok I) (h51 : M'.1 51 = M.1 51) (h84 : M'.1 84 = M.1 84) : RWk M' wok I := by
  intro i hi w x hw hx hr
  rw [h84]
  refine h i hi w x hw hx ?_
  unfold rowR at hr ⊢
  rw [← h51]
  exact hr
def wkA (D : Nat → Bool) (k n : Nat) (wok : Nat → Nat) : Nat → Nat := fun j => if j < n ∧ D j = true then k + 1 else wok j
abbrev S50 : Nat → Nat → Prop := fun κ _ => κ = 50
theorem r_climb3 {M : Mw} {β : Bw} {L : Lw} {V : Vw} {H : Hw} {I k : Nat} (hg : GB β L) (h : RBd M β L) (hI : I ≤ 19) (hnI : M.1 51 0 0 5 + M.1 51 0 0 6 + M.1 50 0 0 27 = nI I) (hrow : ∀ i, i < I → GRow β (rowR M i)) (hT : RTs M β V) (hR : RWk M H.1 I) (hm : ∀ j, H.1 j ≤ k + 1) (hk : k ≤ 200) (h57 : M.1 50 0 0 57 = nI H.2.2.2.1) (h59 : M.1 50 0 0 59 = nI H.2.2.2.2.1 + (-1)) (hb : H.2.2.2.1 ≤ 2) :
    ∃ M', it (fun _ _ => none) (B_X10_climbs_76 (nI k)) FU 0 M = some M' ∧ RTs M' β (clG (fun _ => true) β k V (β 0 0 5)) ∧ RWk M' (wkA (fun _ => true) k (β 0 0 4) H.1) I ∧ M'.1 50 0 0 57 = nI (H.2.2.2.1 + 1) ∧ M'.1 50 0 0 58 = 1 ∧ M'.1 50 0 0 59 = (if H.2.2.2.1 + 1 = 3 then nI k else nI H.2.2.2.2.1 + (-1)) ∧ (∀ j, j ≠ 57 → j ≠ 58 → j ≠ 59 → M'.1 50 0 0 j = M.1 50 0 0 j) ∧ Fr (fun κ b => STs κ b ∨ S84 κ b ∨ S50 κ b) M M' := by
  have h5 := hg.1.2.2.2.2
  have h3 := hg.1.2.2.2.1
  have key : ∃ M', it (fun _ _ => none) (B_X10_climbs_76 (nI k)) FU (nI 0) M = some M' ∧ RTs M' β (clG (fun _ => true) β k V (β 0 0 5)) ∧ RWk M' (wkA (fun _ => true) k (β 0 0 4) H.1) I ∧ M'.1 50 0 0 57 = nI (H.2.2.2.1 + 1) ∧ M'.1 50 0 0 58 = 1 ∧ M'.1 50 0 0 59 = (if H.2.2.2.1 + 1 = 3 then nI k else nI H.2.2.2.2.1 + (-1)) ∧ (∀ j, j ≠ 57 → j ≠ 58 → j ≠ 59 → M'.1 50 0 0 j = M.1 50 0 0 j) ∧ Fr (fun κ b => STs κ b ∨ S84 κ b ∨ S50 κ b) M M' := it_for (n := β 0 0 5) (P := fun n M1 => RTs M1 β (clG (fun _ => true) β k V n) ∧ Fr STs M M1) (Q := fun o => ∃ M', o = some M' ∧ RTs M' β (clG (fun _ => true) β k V (β 0 0 5)) ∧ RWk M' (wkA (fun _ => true) k (β 0 0 4) H.1) I ∧ M'.1 50 0 0 57 = nI (H.2.2.2.1 + 1) ∧ M'.1 50 0 0 58 = 1 ∧ M'.1 50 0 0 59 = (if H.2.2.2.1 + 1 = 3 then nI k else nI H.2.2.2.2.1 + (-1)) ∧ (∀ j, j ≠ 57 → j ≠ 58 → j ≠ 59 → M'.1 50 0 0 j = M.1 50 0 0 j) ∧ Fr (fun κ b => STs κ b ∨ S84 κ b ∨ S50 κ b) M M') (fun kk n M1 hn hP => by
    obtain ⟨hT1, hF1⟩ := hP
    left
    have h1 := h.frS hF1 (fun b => by omega) (fun b => by omega)
    have e4 : M1.1 51 0 0 4 = nI (β 0 0 5) := h1.1.2.2.2.2
    unfold B_X10_climbs_76
    rw [e4, if_neg (nI_ge hn (by omega))]
    obtain ⟨M', e, hT', hF'⟩ := r_go hg h hn hk hF1 hT1 rfl
    rw [e, Option.bind_some]
    simp only [bd_eq, nI_1]
    exact ⟨M', Eq.refl _, hT', hF'⟩) (fun kk M1 hP => by
    obtain ⟨hT1, hF1⟩ := hP
    have h1 := h.frS hF1 (fun b => by omega) (fun b => by omega)
    have e4 : M1.1 51 0 0 4 = nI (β 0 0 5) := h1.1.2.2.2.2
    have e51 : M1.1 51 = M.1 51 := hF1.k1 (fun b => by omega)
    have e50 : M1.1 50 = M.1 50 := hF1.k1 (fun b => by omega)
    have e84 : M1.1 84 = M.1 84 := hF1.k1 (fun b => by omega)
    have hrow1 : ∀ i, i < I → GRow β (rowR M1 i) := fun i hi => by
      have := hrow i hi
      unfold rowR at this ⊢
      rw [e51]
      exact this
    have hR1 : RWk M1 H.1 I := hR.fr e51 e84
    unfold B_X10_climbs_76
    rw [e4, if_pos (nI_le (Nat.le_refl _) (by omega))]
    have k2 : ∃ M', it (fun _ _ => none) (B_X10_climbs_104 (nI k)) FU (nI 0) M1 = some M' ∧ RWk M' (wkA (fun _ => true) k (β 0 0 4) H.1) I ∧ M'.1 50 0 0 57 = nI (H.2.2.2.1 + 1) ∧ M'.1 50 0 0 58 = 1 ∧ M'.1 50 0 0 59 = (if H.2.2.2.1 + 1 = 3 then nI k else nI H.2.2.2.2.1 + (-1)) ∧ (∀ j, j ≠ 57 → j ≠ 58 → j ≠ 59 → M'.1 50 0 0 j = M.1 50 0 0 j) ∧ Fr (fun κ b => S84 κ b ∨ S50 κ b) M1 M' := it_for (n := β 0 0 4) (P := fun n M2 => RWk M2 (wkA (fun _ => true) k n H.1) I ∧ Fr S84 M1 M2) (Q := fun o => ∃ M', o = some M' ∧ RWk M' (wkA (fun _ => true) k (β 0 0 4) H.1) I ∧ M'.1 50 0 0 57 = nI (H.2.2.2.1 + 1) ∧ M'.1 50 0 0 58 = 1 ∧ M'.1 50 0 0 59 = (if H.2.2.2.1 + 1 = 3 then nI k else nI H.2.2.2.2.1 + (-1)) ∧ (∀ j, j ≠ 57 → j ≠ 58 → j ≠ 59 → M'.1 50 0 0 j = M.1 50 0 0 j) ∧ Fr (fun κ b => S84 κ b ∨ S50 κ b) M1 M') (fun kk n M2 hn hP => by
      obtain ⟨hR2, hF2⟩ := hP
      left
      have h2 := h1.frS hF2 (fun b => by omega) (fun b => by omega)
      have e3 : M2.1 51 0 0 3 = nI (β 0 0 4) := h2.1.2.2.2.1
      unfold B_X10_climbs_104
      rw [e3, if_neg (nI_ge hn (by omega))]
      obtain ⟨M', e, hR', hF'⟩ := r_wakeAll (D := fun _ => true) hg h1 hI (by rw [e51, e50]; exact hnI) hrow1 hn hk hF2 hR2 hm rfl
      rw [e, Option.bind_some]
      simp only [bd_eq, nI_1]
      exact ⟨M', Eq.refl _, hR', hF'⟩) (fun kk M2 hP => by
      obtain ⟨hR2, hF2⟩ := hP
      have h2 := h1.frS hF2 (fun b => by omega) (fun b => by omega)
      have e3 : M2.1 51 0 0 3 = nI (β 0 0 4) := h2.1.2.2.2.1
      have f50 : M2.1 50 = M.1 50 := (hF2.k1 (fun b => by omega)).trans e50
      unfold B_X10_climbs_104
      rw [e3, if_pos (nI_le (Nat.le_refl _) (by omega))]
      simp only [bd_eq]
      have g57 : (uIw M2 50 0 0 58 1).1 50 0 0 57 = nI H.2.2.2.1 := by
        rw [uI1, if_neg (by omega), f50, h57]
      rw [g57, nI_1]
      have g572 : (uIw (uIw M2 50 0 0 58 1) 50 0 0 57 (nI (H.2.2.2.1 + 1))).1 50 0 0 57 = nI (H.2.2.2.1 + 1) := by
        rw [uI1, if_pos ⟨rfl, rfl, rfl, rfl⟩]
      rw [g572]
      by_cases c3 : H.2.2.2.1 + 1 = 3
      · rw [if_pos (show nI (H.2.2.2.1 + 1) = 3 by rw [c3]; rfl), if_pos c3]
        refine ⟨_, Eq.refl _, hR2.fr ?_ ?_, ?_, ?_, ?_, fun j j1 j2 j3 => ?_, ?_⟩
        · rw [uI_k (by omega), uI_k (by omega), uI_k (by omega)]
        · rw [uI_k (by omega), uI_k (by omega), uI_k (by omega)]
        · rw [uI1, if_neg (by omega), g572]
        · rw [uI1, if_neg (by omega), uI1, if_neg (by omega), uI1, if_pos ⟨rfl, rfl, rfl, rfl⟩]
        · rw [uI1, if_pos ⟨rfl, rfl, rfl, rfl⟩]
        · rw [uI1, if_neg (by omega), uI1, if_neg (by omega), uI1, if_neg (by omega), f50]
        · exact (hF2.mono (fun κ b q => Or.inl q)).trans (((Fr.uI (Or.inr rfl)).trans (Fr.uI (Or.inr rfl))).trans (Fr.uI (Or.inr rfl)))
      · rw [if_neg (show ¬ nI (H.2.2.2.1 + 1) = 3 from mt (nI_eq (b := 3) (by omega) (by omega)).mp c3), if_neg c3]
        refine ⟨_, Eq.refl _, hR2.fr ?_ ?_, g572, ?_, ?_, fun j j1 j2 j3 => ?_, ?_⟩
        · rw [uI_k (by omega), uI_k (by omega)]
        · rw [uI_k (by omega), uI_k (by omega)]
        · rw [uI1, if_neg (by omega), uI1, if_pos ⟨rfl, rfl, rfl, rfl⟩]
        · rw [uI1, if_neg (by omega), uI1, if_neg (by omega), f50, h59]
        · rw [uI1, if_neg (by omega), uI1, if_neg (by omega), f50]
        · exact (hF2.mono (fun κ b q => Or.inl q)).trans ((Fr.uI (Or.inr rfl)).trans (Fr.uI (Or.inr rfl)))) FU 0 M1 (Nat.zero_le _) (by unfold FU; omega) ⟨by
      have ef : (wkA (fun _ => true) k 0 H.1) = H.1 := by
        funext j
        exact if_neg (fun q => Nat.not_lt_zero _ q.1)
      rw [ef]
      exact hR1, Fr.rfl⟩
    rw [nI_0] at k2
    obtain ⟨M', e, hR', a57, a58, a59, aj, hF'⟩ := k2
    exact ⟨M', e, fun t ht => (hT1 t ht).frS hF' (fun κ b _ _ => by omega), hR', a57, a58, a59, aj, (hF1.mono (fun κ b q => Or.inl q)).trans (hF'.mono (fun κ b q => Or.inr q))⟩) FU 0 M (Nat.zero_le _) (by unfold FU; omega) ⟨clG_0 hT, Fr.rfl⟩
  rw [nI_0] at key
  exact key
