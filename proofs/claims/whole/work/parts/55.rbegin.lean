/-! A TICK'S BEGIN, the reference -/
def On3 (S : Nat → Prop) (t : Nat) (M M' : Mw) : Prop := ∀ κ b i j : Nat, ¬ ((64 ≤ κ ∧ κ ≤ 81 ∧ j = t) ∨ S κ) → M'.1 κ b i j = M.1 κ b i j ∧ M'.2.1 κ b i j = M.2.1 κ b i j ∧ M'.2.2 κ b i j = M.2.2 κ b i j
theorem OnR.o3 {S : Nat → Prop} {t : Nat} {M M' : Mw} (h : OnR t M M') : On3 S t M M' := fun κ b i j hn => h κ b i j (fun q => hn (Or.inl q))
theorem On3.trans {S : Nat → Prop} {t : Nat} {M M1 M2 : Mw} (h : On3 S t M M1) (h2 : On3 S t M1 M2) : On3 S t M M2 := fun κ b i j hn => ⟨(h2 κ b i j hn).1.trans (h κ b i j hn).1, (h2 κ b i j hn).2.1.trans (h κ b i j hn).2.1, (h2 κ b i j hn).2.2.trans (h κ b i j hn).2.2⟩
theorem On3.uI {S : Nat → Prop} {t κ i j : Nat} {M : Mw} {v : Int32} (h : S κ) : On3 S t M (uIw M κ 0 i j v) := by
  intro κ' b' i' j' hn
  refine ⟨?_, Eq.refl _, Eq.refl _⟩
  rw [uI1, if_neg]
  rintro ⟨rfl, rfl, rfl, rfl⟩
  exact hn (Or.inr h)
theorem On3.fr {S : Nat → Prop} {t : Nat} {M M' : Mw} (h : On3 S t M M') : Fr (fun κ _ => (64 ≤ κ ∧ κ ≤ 81) ∨ S κ) M M' := by
  intro κ b hn
  have q : ∀ _ j : Nat, ¬ ((64 ≤ κ ∧ κ ≤ 81 ∧ j = t) ∨ S κ) := fun i j w => hn (w.elim (fun z => Or.inl ⟨z.1, z.2.1⟩) Or.inr)
  exact ⟨funext fun i => funext fun j => (h κ b i j (q i j)).1, funext fun i => funext fun j => (h κ b i j (q i j)).2.1, funext fun i => funext fun j => (h κ b i j (q i j)).2.2⟩
theorem RT.on3 {S : Nat → Prop} {M M' : Mw} {V V' : Vw} {t t' : Nat} (h : RT M V t') (ho : On3 S t M M') (hS : ∀ κ, 64 ≤ κ → κ ≤ 81 → ¬ S κ) (hne : t' ≠ t) (hV : VE V V' t') : RT M' V' t' := by
  obtain ⟨e1, e2, e3, e4⟩ := hV
  have q : ∀ κ, 64 ≤ κ → κ ≤ 81 → M'.1 κ 0 0 t' = M.1 κ 0 0 t' ∧ M'.2.1 κ 0 0 t' = M.2.1 κ 0 0 t' ∧ M'.2.2 κ 0 0 t' = M.2.2 κ 0 0 t' := fun κ z1 z2 => ho κ 0 0 t' (fun z => z.elim (fun w => hne w.2.2) (hS κ z1 z2))
  unfold RT at h ⊢
  rw [(q 64 (by decide) (by decide)).1, (q 66 (by decide) (by decide)).1, (q 65 (by decide) (by decide)).1, (q 67 (by decide) (by decide)).1, (q 68 (by decide) (by decide)).1, (q 70 (by decide) (by decide)).1, (q 71 (by decide) (by decide)).1, (q 69 (by decide) (by decide)).1, (q 73 (by decide) (by decide)).1, (q 75 (by decide) (by decide)).1, (q 76 (by decide) (by decide)).1, (q 72 (by decide) (by decide)).1, (q 77 (by decide) (by decide)).1, (q 78 (by decide) (by decide)).1, (q 81 (by decide) (by decide)).1, (q 74 (by decide) (by decide)).2.1, (q 79 (by decide) (by decide)).2.1, (q 80 (by decide) (by decide)).2.2, e1, e2, e3, e4]
  exact h
/-- a task of which all but its place, its node, its units, its count of jobs stands -/
theorem r_begun {M M' : Mw} {V : Vw} {t : Nat} (hR : RT M V t) (h65 : M'.1 65 0 0 t = nI (V.1 t 1)) (h66 : M'.1 66 0 0 t = nI (V.1 t 1 + 1)) (h67 : M'.1 67 0 0 t = 0) (h68 : M'.1 68 0 0 t = 0)
    (ho : ∀ κ, 64 ≤ κ → κ ≤ 81 → κ ≠ 65 → κ ≠ 66 → κ ≠ 67 → κ ≠ 68 → M'.1 κ 0 0 t = M.1 κ 0 0 t) (hf : ∀ κ, M'.2.1 κ 0 0 t = M.2.1 κ 0 0 t ∧ M'.2.2 κ 0 0 t = M.2.2 κ 0 0 t) : RT M' (vs V t (enF (bgF (V.1 t)) 0)) t := by
  obtain ⟨h0, h1, h2, h3, h70, h71, h6, h7, h8, h9, h10, h12, h13, h14, h11, h15, h16⟩ := hR
  have q := fun κ a b c d e f => ho κ a b c d e f
  have eo : ∀ f, f ≠ 1 → f ≠ 2 → f ≠ 3 → enF (bgF (V.1 t)) 0 f = V.1 t f := by
    intro f f1 f2 f3
    unfold enF
    rw [if_neg f2, if_neg f3]
    exact if_neg f1
  have e1 : enF (bgF (V.1 t)) 0 1 = V.1 t 1 + 1 := rfl
  have e2 : enF (bgF (V.1 t)) 0 2 = 1 := rfl
  have e3 : enF (bgF (V.1 t)) 0 3 = 0 := rfl
  unfold RT
  rw [vs_at, eo 0 (by decide) (by decide) (by decide), e1, e2, e3, eo 5 (by decide) (by decide) (by decide), eo 6 (by decide) (by decide) (by decide), eo 7 (by decide) (by decide) (by decide), eo 8 (by decide) (by decide) (by decide), eo 9 (by decide) (by decide) (by decide), eo 10 (by decide) (by decide) (by decide), eo 12 (by decide) (by decide) (by decide), eo 13 (by decide) (by decide) (by decide), eo 14 (by decide) (by decide) (by decide), h65, h66, h67, h68, (hf 74).1, (hf 79).1, (hf 80).2]
  rw [ho 64 (by decide) (by decide) (by decide) (by decide) (by decide) (by decide), ho 70 (by decide) (by decide) (by decide) (by decide) (by decide) (by decide), ho 71 (by decide) (by decide) (by decide) (by decide) (by decide) (by decide), ho 69 (by decide) (by decide) (by decide) (by decide) (by decide) (by decide), ho 73 (by decide) (by decide) (by decide) (by decide) (by decide) (by decide), ho 75 (by decide) (by decide) (by decide) (by decide) (by decide) (by decide), ho 76 (by decide) (by decide) (by decide) (by decide) (by decide) (by decide), ho 72 (by decide) (by decide) (by decide) (by decide) (by decide) (by decide), ho 77 (by decide) (by decide) (by decide) (by decide) (by decide) (by decide), ho 78 (by decide) (by decide) (by decide) (by decide) (by decide) (by decide), ho 81 (by decide) (by decide) (by decide) (by decide) (by decide) (by decide)]
  exact ⟨h0, rfl, rfl, fun _ => ⟨rfl, rfl⟩, h70, h71, h6, h7, h8, h9, h10, h12, h13, h14, h11, h15, h16⟩
theorem r_beg1 {M : Mw} {β : Bw} {L : Lw} {V : Vw} {t k : Nat} {k2 : Int32 → Mw → Option Mw} (hg : GB β L) (h : RBd M β L) (hR : RT M V t) (hk : k ≤ 200) (ht : t < β 0 0 5) (hb0 : V.1 t 0 ≤ 1000) (hb1 : V.1 t 1 ≤ 1000) :
    ∃ M', B_X10_begins_2 (nI k) k2 (nI t) M = k2 (nI (t + 1)) M' ∧ RT M' (vs V t (beG β false k V t)) t ∧ On3 (fun κ => κ = 83) t M M' ∧ ∀ x, M'.1 83 0 0 x = if beB β k V t = true ∧ V.1 t 1 ≤ 50 ∧ x = 51 * t + V.1 t 1 then nI k else M.1 83 0 0 x := by
  have h5 := hg.1.2.2.2.2
  have hp := (hg.2.2.2.1 t ht).2.1
  have hp2 := (hg.2.2.2.1 t ht).2.2.1
  have hin : inb (nI t) 5 = true := inb_nI (by omega) (by omega)
  have hcl : (nI t).toNatClampNeg = t := clampI (by omega)
  have e0 : M.1 64 0 0 t = nI (V.1 t 0) := hR.1
  have e1 : M.1 66 0 0 t = nI (V.1 t 1) := hR.2.1
  have e2 : M.1 65 0 0 t = (if V.1 t 2 = 0 then -1 else nI (V.1 t 1 - 1)) := hR.2.2.1
  have hno : beB β k V t ≠ true → ∃ M', k2 (nI (t + 1)) M = k2 (nI (t + 1)) M' ∧ RT M' (vs V t (beG β false k V t)) t ∧ On3 (fun κ => κ = 83) t M M' ∧ ∀ x, M'.1 83 0 0 x = if beB β k V t = true ∧ V.1 t 1 ≤ 50 ∧ x = 51 * t + V.1 t 1 then nI k else M.1 83 0 0 x := by
    intro q
    refine ⟨M, rfl, hR.ve ⟨?_, rfl, rfl, rfl⟩, OnR.rfl.o3, fun x => by rw [if_neg (fun w => q w.1)]⟩
    rw [vs_at]
    unfold beG
    rw [if_neg q, fgF_f]
  unfold B_X10_begins_2
  rw [h.1.2.2.2.2, if_neg (nI_ge ht (by omega)), if_pos hin, hcl, e0]
  by_cases c0 : V.1 t 0 ≤ k
  case neg =>
    rw [if_pos (nI_lt (by omega) (by omega)), bd_eq, nI_1]
    exact hno (fun q => by unfold beB at q; simp [c0] at q)
  rw [if_neg (nI_nlt c0 (by omega)), r_period hg h ht, Option.bind_some, if_neg (nI_ne0 (by omega) (by omega)), pk_rem (by omega) (by omega) (by omega)]
  by_cases c1 : k % β 4 t 1 = 0
  case neg =>
    rw [if_neg (nI_ne0 (by omega) (by have := Nat.mod_lt k (show β 4 t 1 > 0 by omega); omega)), bd_eq, nI_1]
    exact hno (fun q => by unfold beB at q; simp [c1] at q)
  rw [if_pos (show nI (k % β 4 t 1) = 0 by rw [c1]; rfl), if_pos hin, e2]
  by_cases c2 : V.1 t 2 = 0
  case neg =>
    rw [if_neg c2, if_neg (nI_nm1 (by omega)), bd_eq, nI_1]
    exact hno (fun q => by unfold beB at q; simp [c2] at q)
  have hyes : beB β k V t = true := by unfold beB; simp [c0, c1, c2]
  have eG : beG β false k V t = enF (bgF (V.1 t)) 0 := by unfold beG; rw [if_pos hyes, fgF_f]
  rw [if_pos c2, if_pos rfl, if_pos hin, if_pos hin, e1, bd_eq, if_pos hin]
  have e66 : (uIw M 65 0 0 t (nI (V.1 t 1))).1 66 0 0 t = nI (V.1 t 1) := by rw [uI1, if_neg (by omega), e1]
  rw [e66]
  by_cases cj : 51 ≤ V.1 t 1
  · rw [if_pos (show (51 : Int32) ≤ nI (V.1 t 1) from nI_le (a := 51) cj (by omega))]
    unfold B_X10_begins_85
    rw [if_pos hin, if_pos hin, hcl, e66]
    simp only [bd_eq, if_pos hin, nI_1]
    refine ⟨_, Eq.refl _, ?_, ?_, fun x => ?_⟩
    · rw [eG]
      refine r_begun hR ?_ ?_ ?_ ?_ (fun κ a b c d e f => ?_) (fun κ => ⟨rfl, rfl⟩)
      · simp [uI1]
      · simp [uI1]
      · simp [uI1]
      · simp [uI1]
      · simp [uI1, c, d, e, f]
    · exact (((OnR.uI (by omega) (by omega)).trans (OnR.uI (by omega) (by omega))).trans ((OnR.uI (by omega) (by omega)).trans (OnR.uI (by omega) (by omega)))).o3
    · rw [if_neg (fun w => by omega)]
      simp [uI1]
  · have ea : (51 * nI t) + nI (V.1 t 1) = nI (51 * t + V.1 t 1) := by
      rw [show (51 : Int32) = nI 51 from rfl, pk_mul, nI_add]
    rw [if_neg (show ¬ (51 : Int32) ≤ nI (V.1 t 1) from nI_ge (b := 51) (by omega) (by omega)), if_pos hin, ea, if_pos (inb_nI (by omega) (by omega)), clampI (by omega), bd_eq]
    unfold B_X10_begins_85
    have e66' : (uIw (uIw M 65 0 0 t (nI (V.1 t 1))) 83 0 0 (51 * t + V.1 t 1) (nI k)).1 66 0 0 t = nI (V.1 t 1) := by rw [uI1, if_neg (by omega), e66]
    rw [if_pos hin, if_pos hin, hcl, e66']
    simp only [bd_eq, if_pos hin, nI_1]
    refine ⟨_, Eq.refl _, ?_, ?_, fun x => ?_⟩
    · rw [eG]
      refine r_begun hR ?_ ?_ ?_ ?_ (fun κ a b c d e f => ?_) (fun κ => ⟨rfl, rfl⟩)
      · simp [uI1]
      · simp [uI1]
      · simp [uI1]
      · simp [uI1]
      · have g : κ ≠ 83 := by omega
        simp [uI1, c, d, e, f, g]
    · exact (((OnR.uI (κ := 65) (by decide) (by decide)).o3.trans (On3.uI (S := fun κ => κ = 83) (κ := 83) rfl)).trans ((OnR.uI (κ := 66) (by decide) (by decide)).trans (OnR.uI (κ := 67) (by decide) (by decide))).o3).trans (OnR.uI (κ := 68) (by decide) (by decide)).o3
    · by_cases w : x = 51 * t + V.1 t 1
      · rw [if_pos (show beB β k V t = true ∧ V.1 t 1 ≤ 50 ∧ x = 51 * t + V.1 t 1 from ⟨hyes, by omega, w⟩)]
        simp [uI1, w]
      · rw [if_neg (show ¬ (beB β k V t = true ∧ V.1 t 1 ≤ 50 ∧ x = 51 * t + V.1 t 1) from fun z => w z.2.2)]
        simp [uI1, w]
def RA (M : Mw) (β : Bw) (V : Vw) (A : Nat → Nat → Nat) : Prop := ∀ t, t < β 0 0 5 → ∀ j, j ≤ 50 → M.1 83 0 0 (51 * t + j) = if j < V.1 t 1 then nI (A t j) else -1
theorem r_begins {M : Mw} {β : Bw} {L : Lw} {V : Vw} {A : Nat → Nat → Nat} {k : Nat} (hg : GB β L) (h : RBd M β L) (hT : RTs M β V) (hA : RA M β V A) (hk : k ≤ 200) (hv : VB β V) :
    ∃ M', F_X10_begins (nI k) M = some M' ∧ RTs M' β (beV β false k V (β 0 0 5)) ∧ RA M' β (beV β false k V (β 0 0 5)) (beA β k V A (β 0 0 5)) ∧ Fr (fun κ _ => (64 ≤ κ ∧ κ ≤ 81) ∨ κ = 83) M M' := by
  have h5 := hg.1.2.2.2.2
  unfold F_X10_begins
  have key := it_for (z := fun _ _ => none) (B := B_X10_begins_2 (nI k)) (n := β 0 0 5) (P := fun n M1 => (∀ t, t < β 0 0 5 → RT M1 (beV β false k V n) t) ∧ (∀ t, t < β 0 0 5 → ∀ j, j ≤ 50 → M1.1 83 0 0 (51 * t + j) = if t < n ∧ beB β k V t = true ∧ j = V.1 t 1 then nI k else M.1 83 0 0 (51 * t + j)) ∧ Fr (fun κ _ => (64 ≤ κ ∧ κ ≤ 81) ∨ κ = 83) M M1) (Q := fun o => ∃ M', o = some M' ∧ RTs M' β (beV β false k V (β 0 0 5)) ∧ RA M' β (beV β false k V (β 0 0 5)) (beA β k V A (β 0 0 5)) ∧ Fr (fun κ _ => (64 ≤ κ ∧ κ ≤ 81) ∨ κ = 83) M M') (fun k2 n M1 hn hP => by
    obtain ⟨hT1, hA1, hF1⟩ := hP
    left
    have h1 : RBd M1 β L := h.frS hF1 (fun b => by omega) (fun b => by omega)
    have h0 : RT M1 V n := (hT1 n hn).ve ⟨(beV_ge (Nat.le_refl n)).1.symm, rfl, rfl, rfl⟩
    obtain ⟨v0, v1, v2⟩ := hv n hn
    obtain ⟨M3, r1, r2, r3, r4⟩ := r_beg1 (k2 := k2) hg h1 h0 hk hn v0 v1
    refine ⟨M3, r1, fun t ht => ?_, fun t ht j hj => ?_, hF1.trans r3.fr⟩
    · by_cases w : t = n
      · subst w
        exact r2.ve beV_at
      · exact (hT1 t ht).on3 r3 (fun κ a b q => by omega) w (beV_s w)
    · rw [r4, hA1 t ht j hj]
      by_cases w : t = n
      · subst w
        rw [if_neg (show ¬ (t < t ∧ beB β k V t = true ∧ j = V.1 t 1) from fun q => by omega)]
        by_cases z : beB β k V t = true ∧ j = V.1 t 1
        · rw [if_pos ⟨z.1, by omega, by omega⟩, if_pos ⟨Nat.lt_succ_self t, z⟩]
        · rw [if_neg (fun q => z ⟨q.1, by omega⟩), if_neg (fun q => z q.2)]
      · rw [if_neg (show ¬ (beB β k V n = true ∧ V.1 n 1 ≤ 50 ∧ 51 * t + j = 51 * n + V.1 n 1) from fun q => by omega)]
        by_cases z : t < n ∧ beB β k V t = true ∧ j = V.1 t 1
        · rw [if_pos z, if_pos ⟨by omega, z.2⟩]
        · rw [if_neg z, if_neg (fun q => z ⟨by omega, q.2⟩)])
    (fun k2 M1 hP => by
      obtain ⟨hT1, hA1, hF1⟩ := hP
      have h1 : RBd M1 β L := h.frS hF1 (fun b => by omega) (fun b => by omega)
      unfold B_X10_begins_2
      rw [h1.1.2.2.2.2, if_pos (Int32.le_refl _)]
      refine ⟨M1, rfl, hT1, fun t ht j hj => ?_, hF1⟩
      rw [hA1 t ht j hj, hA t ht j hj]
      have e1 : (beV β false k V (β 0 0 5)).1 t = beG β false k V t := if_pos ht
      rw [e1]
      unfold beA beG
      by_cases y : beB β k V t = true
      · have e2 : enF (bgF (fgF false (V.1 t))) 0 1 = V.1 t 1 + 1 := by
          rw [fgF_f]
          rfl
        rw [if_pos y, e2]
        by_cases z : j = V.1 t 1
        · rw [if_pos (show t < β 0 0 5 ∧ beB β k V t = true ∧ j = V.1 t 1 from ⟨ht, y, z⟩), if_pos (show j < V.1 t 1 + 1 by omega), if_pos (show t < β 0 0 5 ∧ beB β k V t = true ∧ j = V.1 t 1 from ⟨ht, y, z⟩)]
        · rw [if_neg (show ¬ (t < β 0 0 5 ∧ beB β k V t = true ∧ j = V.1 t 1) from fun q => z q.2.2), if_neg (show ¬ (t < β 0 0 5 ∧ beB β k V t = true ∧ j = V.1 t 1) from fun q => z q.2.2)]
          by_cases w : j < V.1 t 1
          · rw [if_pos w, if_pos (by omega)]
          · rw [if_neg w, if_neg (by omega)]
      · rw [if_neg y, fgF_f, if_neg (show ¬ (t < β 0 0 5 ∧ beB β k V t = true ∧ j = V.1 t 1) from fun q => y q.2.1), if_neg (show ¬ (t < β 0 0 5 ∧ beB β k V t = true ∧ j = V.1 t 1) from fun q => y q.2.1)])
    FU 0 M (Nat.zero_le _) (by unfold FU; omega) ⟨fun t ht => (hT t ht).ve (beV_ge (Nat.zero_le t)), fun t ht j hj => by rw [if_neg (fun q => by omega)], Fr.rfl⟩
  exact key
