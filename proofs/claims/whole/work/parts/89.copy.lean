/-! A BOARD IS COPIED -/
theorem cpy_in {f g : Nat → Int32} {n j : Nat} (h : j < n) : va_cpy f g 0 0 n j = f j := by
  have := pk_cpy_in (f := f) (g := g) (sp := 0) (dp := 0) (n := n) (j := j) (Nat.zero_le _) (by omega)
  rw [this, Nat.sub_zero, Nat.zero_add]
theorem c_copy182 {b b1 : Nat} {M0 M : Mw} (hne : b ≠ b1) (hF : Fr (fun κ b' => κ ≤ 12 ∧ b' = b) M0 M) : ∃ M', it (fun _ _ => none) (B_X0_copyFrom_182 b b1) FU 0 M = some M' ∧ Fr (fun κ b' => κ ≤ 12 ∧ b' = b) M0 M' ∧ (∀ i, i < 19 → ∀ j, j < 5 → M'.1 12 b i j = M0.1 12 b1 i j) ∧ (∀ κ, κ ≠ 12 → M'.1 κ b = M.1 κ b) := by
  have key := it_for (z := fun _ _ => none) (B := B_X0_copyFrom_182 b b1) (n := 19) (P := fun n M1 => Fr (fun κ b' => κ = 12 ∧ b' = b) M M1 ∧ ∀ i, i < n → ∀ j, j < 5 → M1.1 12 b i j = M0.1 12 b1 i j)
    (Q := fun o => ∃ M', o = some M' ∧ Fr (fun κ b' => κ ≤ 12 ∧ b' = b) M0 M' ∧ (∀ i, i < 19 → ∀ j, j < 5 → M'.1 12 b i j = M0.1 12 b1 i j) ∧ (∀ κ, κ ≠ 12 → M'.1 κ b = M.1 κ b))
    (fun kk n M1 hn hP => by
      obtain ⟨p1, p2⟩ := hP
      left
      have hin : inb (nI n) 19 = true := inb_nI hn (by omega)
      unfold B_X0_copyFrom_182
      rw [if_neg (show ¬ (19 : Int32) ≤ nI n from nI_ge (b := 19) hn (by omega)), if_pos hin, if_pos hin, clampI (by omega), bd_eq, bd_eq, nI_1]
      refine ⟨_, rfl, p1.trans (Fr.rI ⟨rfl, rfl⟩), fun i hi j hj => ?_⟩
      rw [rI1]
      by_cases z : i = n
      · rw [if_pos ⟨rfl, rfl, z⟩, cpy_in hj, (p1 12 b1 (fun q => hne q.2.symm)).1, (hF 12 b1 (fun q => hne q.2.symm)).1, z]
      · rw [if_neg (fun q => z q.2.2)]
        exact p2 i (by omega) j hj)
    (fun kk M1 hP => by
      obtain ⟨p1, p2⟩ := hP
      unfold B_X0_copyFrom_182
      rw [if_pos (show (19 : Int32) ≤ nI 19 by decide)]
      exact ⟨M1, rfl, hF.trans (p1.mono (fun κ b' q => ⟨by omega, q.2⟩)), p2, fun κ hκ => (p1 κ b (fun q => hκ q.1)).1⟩)
    FU 0 M (by omega) (by unfold FU; omega) ⟨Fr.rfl, fun i hi => by omega⟩
  rw [nI_0] at key
  exact key
theorem c_copy94 {b b1 : Nat} {M0 M : Mw} (hne : b ≠ b1) (hF : Fr (fun κ b' => κ ≤ 12 ∧ b' = b) M0 M) : ∃ M', it (fun _ _ => none) (B_X0_copyFrom_94 b b1) FU 0 M = some M' ∧ Fr (fun κ b' => κ ≤ 12 ∧ b' = b) M0 M' ∧ (∀ i, i < 19 → ∀ j, j < 5 → M'.1 12 b i j = M0.1 12 b1 i j) ∧ (∀ t, t < 5 → (∀ j, j < 7 → M'.1 4 b t j = M0.1 4 b1 t j) ∧ (∀ j, j < 6 → M'.1 6 b t j = M0.1 6 b1 t j) ∧ (∀ j, j < 6 → M'.1 8 b t j = M0.1 8 b1 t j) ∧ (∀ j, j < 2 → M'.1 10 b t j = M0.1 10 b1 t j)) ∧ (∀ κ, κ ≤ 2 → M'.1 κ b = M.1 κ b) := by
  have key := it_for (z := fun _ _ => none) (B := B_X0_copyFrom_94 b b1) (n := 5) (P := fun n M1 => Fr (fun κ b' => (κ = 4 ∨ κ = 6 ∨ κ = 8 ∨ κ = 10) ∧ b' = b) M M1 ∧ ∀ t, t < n → (∀ j, j < 7 → M1.1 4 b t j = M0.1 4 b1 t j) ∧ (∀ j, j < 6 → M1.1 6 b t j = M0.1 6 b1 t j) ∧ (∀ j, j < 6 → M1.1 8 b t j = M0.1 8 b1 t j) ∧ (∀ j, j < 2 → M1.1 10 b t j = M0.1 10 b1 t j))
    (Q := fun o => ∃ M', o = some M' ∧ Fr (fun κ b' => κ ≤ 12 ∧ b' = b) M0 M' ∧ (∀ i, i < 19 → ∀ j, j < 5 → M'.1 12 b i j = M0.1 12 b1 i j) ∧ (∀ t, t < 5 → (∀ j, j < 7 → M'.1 4 b t j = M0.1 4 b1 t j) ∧ (∀ j, j < 6 → M'.1 6 b t j = M0.1 6 b1 t j) ∧ (∀ j, j < 6 → M'.1 8 b t j = M0.1 8 b1 t j) ∧ (∀ j, j < 2 → M'.1 10 b t j = M0.1 10 b1 t j)) ∧ (∀ κ, κ ≤ 2 → M'.1 κ b = M.1 κ b))
    (fun kk n M1 hn hP => by
      obtain ⟨p1, p2⟩ := hP
      left
      have hin : inb (nI n) 5 = true := inb_nI hn (by omega)
      have eo : ∀ κ, M1.1 κ b1 = M0.1 κ b1 := fun κ => by rw [(p1 κ b1 (fun q => hne q.2.symm)).1, (hF κ b1 (fun q => hne q.2.symm)).1]
      unfold B_X0_copyFrom_94
      rw [if_neg (show ¬ (5 : Int32) ≤ nI n from nI_ge (b := 5) hn (by omega))]
      simp only [hin, if_true, bd_eq, clampI (show n < 2 ^ 31 by omega), nI_1]
      refine ⟨_, rfl, (((p1.trans (Fr.rI ⟨by omega, rfl⟩)).trans (Fr.rI ⟨by omega, rfl⟩)).trans (Fr.rI ⟨by omega, rfl⟩)).trans (Fr.rI ⟨by omega, rfl⟩), fun t ht => ?_⟩
      by_cases z : t = n
      · subst z
        have nb : ¬ b1 = b := fun q => hne q.symm
        refine ⟨fun j hj => ?_, fun j hj => ?_, fun j hj => ?_, fun j hj => ?_⟩
        · simp [rI1, cpy_in hj, eo]
        · simp [rI1, cpy_in hj, eo]
        · simp [rI1, cpy_in hj, eo]
        · simp [rI1, cpy_in hj, eo]
      · obtain ⟨a1, a2, a3, a4⟩ := p2 t (by omega)
        refine ⟨fun j hj => ?_, fun j hj => ?_, fun j hj => ?_, fun j hj => ?_⟩
        · simp [rI1, z, a1 j hj]
        · simp [rI1, z, a2 j hj]
        · simp [rI1, z, a3 j hj]
        · simp [rI1, z, a4 j hj])
    (fun kk M1 hP => by
      obtain ⟨p1, p2⟩ := hP
      unfold B_X0_copyFrom_94
      rw [if_pos (show (5 : Int32) ≤ nI 5 by decide)]
      obtain ⟨M', q1, q2, q3, q4⟩ := c_copy182 (M0 := M0) (M := M1) hne (hF.trans (p1.mono (fun κ b' q => ⟨by omega, q.2⟩)))
      refine ⟨M', q1, q2, q3, fun t ht => ?_, fun κ hκ => by rw [q4 κ (by omega), (p1 κ b (by omega)).1]⟩
      rw [q4 4 (by decide), q4 6 (by decide), q4 8 (by decide), q4 10 (by decide)]
      exact p2 t ht)
    FU 0 M (by omega) (by unfold FU; omega) ⟨Fr.rfl, fun i hi => by omega⟩
  rw [nI_0] at key
  exact key
theorem c_copy {b b1 : Nat} {M : Mw} {β : Bw} {L : Lw} (hne : b ≠ b1) (hg : GB β L) (h : CBs b1 M β L) : ∃ M', F_X0_copyFrom b b1 M = some M' ∧ CBs b M' β L ∧ Fr (fun κ b' => κ ≤ 12 ∧ b' = b) M M' := by
  obtain ⟨h0, hl, h4, h68, h12, h10, hr⟩ := h.st
  have hT5 := hg.1.2.2.2.2
  have hW3 := hg.1.2.2.2.1
  have hL := hg.2.2.2.2.2.2.2.1
  have nb : ¬ b1 = b := fun q => hne q.symm
  obtain ⟨M1, hM1⟩ : ∃ M1, M1 = rIw (rIw (uIw (uIw (uIw (uIw (uIw (uIw (uIw (uIw M 0 b 0 0 (nI (β 0 0 0))) 0 b 0 1 (nI (β 0 0 1))) 0 b 0 2 (nI (β 0 0 2))) 0 b 0 3 (nI (β 0 0 3))) 0 b 0 4 (nI (β 0 0 4))) 0 b 0 5 (nI (β 0 0 5))) 0 b 0 6 (nI (β 0 0 6))) 0 b 0 7 (nI (β 0 0 7))) 1 b 0 (va_cpy (M.1 1 b1 0) (M.1 1 b 0) 0 0 3)) 2 b 0 (va_cpy (M.1 2 b1 0) (M.1 2 b 0) 0 0 3) := ⟨_, rfl⟩
  have hF1 : Fr (fun κ b' => κ ≤ 12 ∧ b' = b) M M1 := by
    rw [hM1]
    exact ((((((((((Fr.uI ⟨by decide, rfl⟩).trans (Fr.uI ⟨by decide, rfl⟩)).trans (Fr.uI ⟨by decide, rfl⟩)).trans (Fr.uI ⟨by decide, rfl⟩)).trans (Fr.uI ⟨by decide, rfl⟩)).trans (Fr.uI ⟨by decide, rfl⟩)).trans (Fr.uI ⟨by decide, rfl⟩)).trans (Fr.uI ⟨by decide, rfl⟩)).trans (Fr.rI ⟨by decide, rfl⟩)).trans (Fr.rI ⟨by decide, rfl⟩))
  obtain ⟨M2, q1, q2, q3, q4, q5⟩ := c_copy94 (M0 := M) (M := M1) hne hF1
  have e00 := h0 0 (by omega)
  have e01 := h0 1 (by omega)
  have e02 := h0 2 (by omega)
  have e03 := h0 3 (by omega)
  have e04 := h0 4 (by omega)
  have e05 := h0 5 (by omega)
  have e06 := h0 6 (by omega)
  have e07 := h0 7 (by omega)
  refine ⟨M2, ?_, CBs.mk' ⟨fun j hj => ?_, hl, fun t ht j hj => ?_, fun t ht n hn => ?_, fun w hw => ?_, fun t ht j hj => ?_, fun i hi => ?_⟩, q2⟩
  · rw [← q1]
    unfold F_X0_copyFrom
    rw [bd_eq, bd_eq, bd_eq, bd_eq, bd_eq, bd_eq, bd_eq, bd_eq, bd_eq, bd_eq]
    refine congrArg (it (fun _ _ => none) (B_X0_copyFrom_94 b b1) FU 0) ?_
    rw [hM1]
    have k0 : ∀ (M' : Mw) (j j' : Nat) (v : Int32), (uIw M' 0 b 0 j v).1 0 b1 0 j' = M'.1 0 b1 0 j' := fun M' j j' v => by rw [uI1, if_neg (fun q => nb q.2.1)]
    have k1 : ∀ (M' : Mw) (j : Nat) (v : Int32) (κ : Nat), κ ≠ 0 → (uIw M' 0 b 0 j v).1 κ = M'.1 κ := fun M' j v κ hκ => uI_k hκ
    have k2 : ∀ (M' : Mw) (r : Nat → Int32), (rIw M' 1 b 0 r).1 2 = M'.1 2 := fun M' r => by
      funext b' i' j'
      rw [rI1, if_neg (fun q => absurd q.1 (by decide))]
    simp only [k0, k1 _ _ _ 1 (by decide), k1 _ _ _ 2 (by decide), k2, e00, e01, e02, e03, e04, e05, e06, e07]
  · rw [q5 0 (by omega), hM1]
    rcases (by omega : j = 0 ∨ j = 1 ∨ j = 2 ∨ j = 3 ∨ j = 4 ∨ j = 5 ∨ j = 6 ∨ j = 7) with rfl | rfl | rfl | rfl | rfl | rfl | rfl | rfl <;> simp [rI1, uI1]
  · rw [(q4 t (by omega)).1 j hj]
    exact h4 t ht j hj
  · have h6 := (hg.2.2.2.1 t ht).2.2.2.2.2.2.2.2.2
    rw [(q4 t (by omega)).2.1 n (by omega), (q4 t (by omega)).2.2.1 n (by omega)]
    exact h68 t ht n hn
  · rw [q5 1 (by omega), q5 2 (by omega), hM1]
    have e1 : (rIw (rIw (uIw (uIw (uIw (uIw (uIw (uIw (uIw (uIw M 0 b 0 0 (nI (β 0 0 0))) 0 b 0 1 (nI (β 0 0 1))) 0 b 0 2 (nI (β 0 0 2))) 0 b 0 3 (nI (β 0 0 3))) 0 b 0 4 (nI (β 0 0 4))) 0 b 0 5 (nI (β 0 0 5))) 0 b 0 6 (nI (β 0 0 6))) 0 b 0 7 (nI (β 0 0 7))) 1 b 0 (va_cpy (M.1 1 b1 0) (M.1 1 b 0) 0 0 3)) 2 b 0 (va_cpy (M.1 2 b1 0) (M.1 2 b 0) 0 0 3)).1 1 b 0 w = M.1 1 b1 0 w := by
      rw [rI1, if_neg (by omega), rI1, if_pos ⟨rfl, rfl, rfl⟩, cpy_in (by omega)]
    have e2 : (rIw (rIw (uIw (uIw (uIw (uIw (uIw (uIw (uIw (uIw M 0 b 0 0 (nI (β 0 0 0))) 0 b 0 1 (nI (β 0 0 1))) 0 b 0 2 (nI (β 0 0 2))) 0 b 0 3 (nI (β 0 0 3))) 0 b 0 4 (nI (β 0 0 4))) 0 b 0 5 (nI (β 0 0 5))) 0 b 0 6 (nI (β 0 0 6))) 0 b 0 7 (nI (β 0 0 7))) 1 b 0 (va_cpy (M.1 1 b1 0) (M.1 1 b 0) 0 0 3)) 2 b 0 (va_cpy (M.1 2 b1 0) (M.1 2 b 0) 0 0 3)).1 2 b 0 w = M.1 2 b1 0 w := by
      rw [rI1, if_pos ⟨rfl, rfl, rfl⟩, cpy_in (by omega)]
    rw [e1, e2]
    exact h12 w hw
  · rw [(q4 t (by omega)).2.2.2 j hj]
    exact h10 t ht j hj
  · rw [hr i hi]
    show some (M.1 12 b1 i 0, M.1 12 b1 i 1, M.1 12 b1 i 2, M.1 12 b1 i 3, M.1 12 b1 i 4) = some (M2.1 12 b i 0, M2.1 12 b i 1, M2.1 12 b i 2, M2.1 12 b i 3, M2.1 12 b i 4)
    rw [q3 i (by omega) 0 (by omega), q3 i (by omega) 1 (by omega), q3 i (by omega) 2 (by omega), q3 i (by omega) 3 (by omega), q3 i (by omega) 4 (by omega)]
