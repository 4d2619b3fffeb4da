/-! CLIMBING in the reference: level by level -/
theorem sel_RTs {M : Mw} {β : Bw} {V : Vw} {D : Nat → Bool} {lev task w k : Nat} (hT : RTs M β (clG D β k V (β 0 0 5))) (h : ∀ t, t < β 0 0 5 → D t = dR β lev task w t) : RTs M β (clV β lev task w k V (β 0 0 5)) := by
  rw [clV_G]
  exact clG_D hT h
/-- no watcher wakes up below level 2 -/
theorem clH_low {β : Bw} {lev w k : Nat} {H : Hw} (h : lev < 2) : clH β lev w k H = H := by
  have e : clK β lev w k H.1 (β 0 0 4) = H.1 := by
    funext j
    refine if_neg (fun q => ?_)
    have := q.2
    unfold dW at this
    simp at this
    omega
  unfold clH
  rw [e, if_neg (by omega)]
theorem r_climb1 {M : Mw} {β : Bw} {L : Lw} {V : Vw} {k w : Nat} (hg : GB β L) (h : RBd M β L) (hT : RTs M β V) (hk : k ≤ 200) (hw : w < β 0 0 4) :
    ∃ M', it (fun _ _ => none) (B_X10_climbs_19 1 (nI w) (nI k)) FU 0 M = some M' ∧ RTs M' β (clG (fun t => decide (β 4 t 0 = w)) β k V (β 0 0 5)) ∧ Fr STs M M' := by
  have h5 := hg.1.2.2.2.2
  have h3 := hg.1.2.2.2.1
  have key : ∃ M', it (fun _ _ => none) (B_X10_climbs_19 1 (nI w) (nI k)) FU (nI 0) M = some M' ∧ RTs M' β (clG (fun t => decide (β 4 t 0 = w)) β k V (β 0 0 5)) ∧ Fr STs M M' := it_for (n := β 0 0 5) (P := fun n M1 => RTs M1 β (clG (fun t => decide (β 4 t 0 = w)) β k V n) ∧ Fr STs M M1) (Q := fun o => ∃ M', o = some M' ∧ RTs M' β (clG (fun t => decide (β 4 t 0 = w)) β k V (β 0 0 5)) ∧ Fr STs M M') (fun kk n M1 hn hP => by
    obtain ⟨hT1, hF1⟩ := hP
    left
    have h1 := h.frS hF1 (fun b => by omega) (fun b => by omega)
    obtain ⟨g0, -⟩ := hg.2.2.2.1 n hn
    have e4 : M1.1 51 0 0 4 = nI (β 0 0 5) := h1.1.2.2.2.2
    have et : F_X10_toldOf (nI n) 0 M1 = some (nI (β 4 n 0)) := by
      have := r_told (M := M1) (t := n) (p := 0) (by omega) (by omega)
      rw [h1.2.1 n hn 0 (by omega) (by omega) (by omega)] at this
      exact this
    unfold B_X10_climbs_19
    rw [e4, if_neg (nI_ge hn (by omega)), et, Option.bind_some]
    by_cases c : β 4 n 0 = w
    · rw [if_pos (by rw [c])]
      obtain ⟨M', e, hT', hF'⟩ := r_go hg h hn hk hF1 hT1 (decide_eq_true c)
      rw [e, Option.bind_some]
      simp only [bd_eq, nI_1]
      exact ⟨M', Eq.refl _, hT', hF'⟩
    · rw [if_neg (mt (nI_eq (by omega) (by omega)).mp c)]
      simp only [bd_eq, nI_1]
      exact ⟨M1, Eq.refl _, r_skip hT1 (by simpa using c), hF1⟩) (fun kk M1 hP => by
    obtain ⟨hT1, hF1⟩ := hP
    have h1 := h.frS hF1 (fun b => by omega) (fun b => by omega)
    have e4 : M1.1 51 0 0 4 = nI (β 0 0 5) := h1.1.2.2.2.2
    unfold B_X10_climbs_19 B_X10_climbs_55 B_X10_climbs_67
    rw [e4, if_pos (nI_le (Nat.le_refl _) (by omega)), if_neg (by decide), if_neg (by decide)]
    exact ⟨M1, Eq.refl _, hT1, hF1⟩) FU 0 M (Nat.zero_le _) (by unfold FU; omega) ⟨clG_0 hT, Fr.rfl⟩
  rw [nI_0] at key
  exact key
/-- the watchers of a set wake up, a loop's end -/
abbrev S84 : Nat → Nat → Prop := fun κ b => κ = 84 ∧ b = 0
theorem r_climb2 {M : Mw} {β : Bw} {L : Lw} {V : Vw} {wok : Nat → Nat} {I k w : Nat} (hg : GB β L) (h : RBd M β L) (hI : I ≤ 19) (hnI : M.1 51 0 0 5 + M.1 51 0 0 6 + M.1 50 0 0 27 = nI I) (hrow : ∀ i, i < I → GRow β (rowR M i)) (hT : RTs M β V) (hR : RWk M wok I) (hm : ∀ j, wok j ≤ k + 1) (hk : k ≤ 200) (hw : w < β 0 0 4) :
    ∃ M', F_X10_resets (nI w) (nI k) M = some M' ∧ RTs M' β (clG (fun t => und β (β 4 t 0) w) β k V (β 0 0 5)) ∧ RWk M' (fun j => if j < β 0 0 4 ∧ und β j w = true then k + 1 else wok j) I ∧ Fr (fun κ b => STs κ b ∨ S84 κ b) M M' := by
  have h5 := hg.1.2.2.2.2
  have h3 := hg.1.2.2.2.1
  have key : ∃ M', it (fun _ _ => none) (B_X10_resets_2 (nI w) (nI k)) FU (nI 0) M = some M' ∧ RTs M' β (clG (fun t => und β (β 4 t 0) w) β k V (β 0 0 5)) ∧ RWk M' (fun j => if j < β 0 0 4 ∧ und β j w = true then k + 1 else wok j) I ∧ Fr (fun κ b => STs κ b ∨ S84 κ b) M M' := it_for (n := β 0 0 5) (P := fun n M1 => RTs M1 β (clG (fun t => und β (β 4 t 0) w) β k V n) ∧ Fr STs M M1) (Q := fun o => ∃ M', o = some M' ∧ RTs M' β (clG (fun t => und β (β 4 t 0) w) β k V (β 0 0 5)) ∧ RWk M' (fun j => if j < β 0 0 4 ∧ und β j w = true then k + 1 else wok j) I ∧ Fr (fun κ b => STs κ b ∨ S84 κ b) M M') (fun kk n M1 hn hP => by
    obtain ⟨hT1, hF1⟩ := hP
    left
    have h1 := h.frS hF1 (fun b => by omega) (fun b => by omega)
    obtain ⟨g0, -⟩ := hg.2.2.2.1 n hn
    have e4 : M1.1 51 0 0 4 = nI (β 0 0 5) := h1.1.2.2.2.2
    have et : F_X10_toldOf (nI n) 0 M1 = some (nI (β 4 n 0)) := by
      have := r_told (M := M1) (t := n) (p := 0) (by omega) (by omega)
      rw [h1.2.1 n hn 0 (by omega) (by omega) (by omega)] at this
      exact this
    have eu : F_X10_isUnder (nI (β 4 n 0)) (nI w) M1 = some (if und β (β 4 n 0) w = true then 1 else 0) := r_isUnder hg h1 hw FU (β 4 n 0) (by unfold FU; omega) g0
    unfold B_X10_resets_2
    rw [e4, if_neg (nI_ge hn (by omega)), et, Option.bind_some, eu, Option.bind_some]
    by_cases c : und β (β 4 n 0) w = true
    · rw [if_pos c, if_neg (by decide)]
      obtain ⟨M', e, hT', hF'⟩ := r_go hg h hn hk hF1 hT1 c
      rw [e, Option.bind_some]
      simp only [bd_eq, nI_1]
      exact ⟨M', Eq.refl _, hT', hF'⟩
    · rw [if_neg c, if_pos rfl]
      simp only [bd_eq, nI_1]
      exact ⟨M1, Eq.refl _, r_skip hT1 c, hF1⟩) (fun kk M1 hP => by
    obtain ⟨hT1, hF1⟩ := hP
    have h1 := h.frS hF1 (fun b => by omega) (fun b => by omega)
    have e4 : M1.1 51 0 0 4 = nI (β 0 0 5) := h1.1.2.2.2.2
    have e51 : M1.1 51 = M.1 51 := hF1.k1 (fun b => by omega)
    have e50 : M1.1 50 = M.1 50 := hF1.k1 (fun b => by omega)
    have e84 : M1.1 84 = M.1 84 := hF1.k1 (fun b => by omega)
    unfold B_X10_resets_2
    rw [e4, if_pos (nI_le (Nat.le_refl _) (by omega))]
    have hrow1 : ∀ i, i < I → GRow β (rowR M1 i) := fun i hi => by
      have := hrow i hi
      unfold rowR at this ⊢
      rw [e51]
      exact this
    have hR1 : RWk M1 wok I := by
      intro i hi w' x hw' hx hr
      rw [e84]
      refine hR i hi w' x hw' hx ?_
      unfold rowR at hr ⊢
      rw [← e51]
      exact hr
    have k2 : ∃ M', it (fun _ _ => none) (B_X10_resets_40 (nI w) (nI k)) FU (nI 0) M1 = some M' ∧ RWk M' (fun j => if j < β 0 0 4 ∧ und β j w = true then k + 1 else wok j) I ∧ Fr S84 M1 M' := it_for (n := β 0 0 4) (P := fun n M2 => RWk M2 (fun j => if j < n ∧ und β j w = true then k + 1 else wok j) I ∧ Fr S84 M1 M2) (Q := fun o => ∃ M', o = some M' ∧ RWk M' (fun j => if j < β 0 0 4 ∧ und β j w = true then k + 1 else wok j) I ∧ Fr S84 M1 M') (fun kk n M2 hn hP => by
      obtain ⟨hR2, hF2⟩ := hP
      left
      have h2 := h1.frS hF2 (fun b => by omega) (fun b => by omega)
      have e3 : M2.1 51 0 0 3 = nI (β 0 0 4) := h2.1.2.2.2.1
      have eu : F_X10_isUnder (nI n) (nI w) M2 = some (if und β n w = true then 1 else 0) := r_isUnder hg h2 hw FU n (by unfold FU; omega) hn
      unfold B_X10_resets_40
      rw [e3, if_neg (nI_ge hn (by omega)), eu, Option.bind_some]
      by_cases c : und β n w = true
      · rw [if_pos c, if_neg (by decide)]
        obtain ⟨M', e, hR', hF'⟩ := r_wakeAll (D := fun j => und β j w) hg h1 hI (by rw [e51, e50]; exact hnI) hrow1 hn hk hF2 hR2 hm c
        rw [e, Option.bind_some]
        simp only [bd_eq, nI_1]
        exact ⟨M', Eq.refl _, hR', hF'⟩
      · rw [if_neg c, if_pos rfl]
        simp only [bd_eq, nI_1]
        refine ⟨M2, Eq.refl _, ?_, hF2⟩
        have ef : (fun j => if j < n + 1 ∧ und β j w = true then k + 1 else wok j) = (fun j => if j < n ∧ und β j w = true then k + 1 else wok j) := by
          funext j
          by_cases c2 : j < n ∧ und β j w = true
          · rw [if_pos c2, if_pos ⟨by omega, c2.2⟩]
          · rw [if_neg c2, if_neg (fun q => ?_)]
            by_cases c3 : j = n
            · rw [c3] at q
              exact c q.2
            · exact c2 ⟨by omega, q.2⟩
        rw [ef]
        exact hR2) (fun kk M2 hP => by
      obtain ⟨hR2, hF2⟩ := hP
      have h2 := h1.frS hF2 (fun b => by omega) (fun b => by omega)
      have e3 : M2.1 51 0 0 3 = nI (β 0 0 4) := h2.1.2.2.2.1
      unfold B_X10_resets_40
      rw [e3, if_pos (nI_le (Nat.le_refl _) (by omega))]
      exact ⟨M2, Eq.refl _, hR2, hF2⟩) FU 0 M1 (Nat.zero_le _) (by unfold FU; omega) ⟨by
      have ef : (fun j => if j < 0 ∧ und β j w = true then k + 1 else wok j) = wok := by
        funext j
        exact if_neg (fun q => Nat.not_lt_zero _ q.1)
      rw [ef]
      exact hR1, Fr.rfl⟩
    rw [nI_0] at k2
    obtain ⟨M', e, hR', hF'⟩ := k2
    exact ⟨M', e, fun t ht => (hT1 t ht).frS hF' (fun κ b _ _ => by omega), hR', (hF1.mono (fun κ b q => Or.inl q)).trans (hF'.mono (fun κ b q => Or.inr q))⟩) FU 0 M (Nat.zero_le _) (by unfold FU; omega) ⟨clG_0 hT, Fr.rfl⟩
  rw [nI_0] at key
  unfold F_X10_resets
  exact key
