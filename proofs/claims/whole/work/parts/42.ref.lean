/-! THE REFERENCE'S BOARD -/
abbrev rowR (M : Mw) (i : Nat) : Rw := row5 (fun p => M.1 51 0 0 (106 + 5 * i + p))
def LRf (M : Mw) (i I : Nat) : Lw := ((List.range' i (I - i)).filter (fun k => decide (nI k ≠ M.1 50 0 0 23))).map (rowR M)
/-- the board as the reference's runs see it: with what is left out, the other window, the one injection more -/
def RBd (M : Mw) (β : Bw) (L : Lw) : Prop :=
  (M.1 51 0 0 0 = nI (β 0 0 0) ∧ M.1 51 0 0 1 = nI (β 0 0 1) ∧ M.1 51 0 0 2 = nI (β 0 0 2) ∧ M.1 51 0 0 3 = nI (β 0 0 4) ∧ M.1 51 0 0 4 = nI (β 0 0 5)) ∧
  (∀ t, t < β 0 0 5 → ∀ j, j < 7 → j ≠ 2 → j ≠ 3 → M.1 51 0 0 (11 + 7 * t + j) = nI (β 4 t j)) ∧
  (∀ t, t < β 0 0 5 → (if nI t = M.1 50 0 0 24 then M.1 50 0 0 25 else M.1 51 0 0 (11 + 7 * t + 2)) = nI (β 4 t 2) ∧ (if nI t = M.1 50 0 0 24 then M.1 50 0 0 26 else M.1 51 0 0 (11 + 7 * t + 3)) = nI (β 4 t 3)) ∧
  (∀ t, t < β 0 0 5 → ∀ n, n < β 4 t 6 → M.1 51 0 0 (46 + 2 * (6 * t + n)) = nI (β 6 t n) ∧ ∃ s : Nat, s < 64 ∧ M.1 51 0 0 (46 + 2 * (6 * t + n) + 1) = nI s ∧ ∀ k, s.testBit k = decide (k < n ∧ (β 8 t k).testBit n = true)) ∧
  (∀ w, w < β 0 0 4 → M.1 51 0 0 (8 + w) = nI (β 1 0 w) + (-1)) ∧
  (∃ I : Nat, I ≤ 19 ∧ M.1 51 0 0 5 + M.1 51 0 0 6 + M.1 50 0 0 27 = nI I ∧ LRf M 0 I = L ∧ ∀ i, i < I → GRow β (rowR M i))
/-- bounds as the reference asks them -/
theorem r_in (a l h : Int64) (M : Mw) : F_X10_in a l h M = some (if l ≤ a ∧ a ≤ h then 1 else 0) := by
  unfold F_X10_in
  by_cases h1 : a < l
  · rw [if_pos ((lg_cmp_lt a l).mpr h1), if_neg (fun q => absurd q.1 (Int64.not_le.mpr h1))]
  · rw [if_neg (fun q => h1 ((lg_cmp_lt a l).mp q))]
    by_cases h2 : h < a
    · rw [if_pos ((lg_cmp_gt a h).mpr h2), if_neg (fun q => absurd q.2 (Int64.not_le.mpr h2))]
    · rw [if_neg (fun q => h2 ((lg_cmp_gt a h).mp q)), if_pos ⟨Int64.not_lt.mp h1, Int64.not_lt.mp h2⟩]
theorem i64_le (a b : Int32) : a.toInt64 ≤ b.toInt64 ↔ a ≤ b := by
  rw [Int64.le_iff_toInt_le, Int32.le_iff_toInt_le, Int32.toInt_toInt64, Int32.toInt_toInt64]
theorem r_inI (a l h : Int32) (M : Mw) : F_X10_in a.toInt64 l.toInt64 h.toInt64 M = some (if l ≤ a ∧ a ≤ h then 1 else 0) := by
  rw [r_in]
  simp only [i64_le]
theorem r_inL (a h : Int32) (l : Int64) (l' : Int32) (hl : l = l'.toInt64) (M : Mw) : F_X10_in a.toInt64 l h.toInt64 M = some (if l' ≤ a ∧ a ≤ h then 1 else 0) := by
  rw [hl, r_inI]
theorem r_inLL (a : Int32) (l h : Int64) (l' h' : Int32) (hl : l = l'.toInt64) (hh : h = h'.toInt64) (M : Mw) : F_X10_in a.toInt64 l h M = some (if l' ≤ a ∧ a ≤ h' then 1 else 0) := by
  rw [hl, hh, r_inI]
theorem le_pred (x : Int32) {n : Nat} (hn : n + 1 < 2 ^ 31) : x ≤ nI n ↔ x < nI (n + 1) := by
  rw [Int32.le_iff_toInt_le, Int32.lt_iff_toInt_lt, nI_toInt (by omega), nI_toInt (by omega)]
  omega
theorem r_of {M : Mw} {i p : Nat} (hi : i ≤ 18) (hp : p < 5) : F_X10_of (nI i) (nI p) M = some (M.1 51 0 0 (106 + 5 * i + p)) := by
  unfold F_X10_of
  have e : (106 + 5 * nI i) + nI p = nI (106 + 5 * i + p) := by
    rw [show (106 : Int32) = nI 106 from rfl, show (5 : Int32) = nI 5 from rfl, pk_mul, nI_add, nI_add]
  rw [e, if_pos (inb_nI (by omega) (by omega)), clampI (by omega)]
theorem r_told {M : Mw} {t p : Nat} (ht : t ≤ 4) (hp : p < 7) : F_X10_toldOf (nI t) (nI p) M = some (M.1 51 0 0 (11 + 7 * t + p)) := by
  unfold F_X10_toldOf
  have e : (11 + 7 * nI t) + nI p = nI (11 + 7 * t + p) := by
    rw [show (11 : Int32) = nI 11 from rfl, show (7 : Int32) = nI 7 from rfl, pk_mul, nI_add, nI_add]
  rw [e, if_pos (inb_nI (by omega) (by omega)), clampI (by omega)]
theorem r_units {M : Mw} {t n : Nat} (ht : t ≤ 4) (hn : n < 6) : F_X10_unitsOf (nI t) (nI n) M = some (M.1 51 0 0 (46 + 2 * (6 * t + n))) := by
  unfold F_X10_unitsOf
  have e : 46 + (2 * ((6 * nI t) + nI n)) = nI (46 + 2 * (6 * t + n)) := by
    rw [show (46 : Int32) = nI 46 from rfl, show (2 : Int32) = nI 2 from rfl, show (6 : Int32) = nI 6 from rfl, pk_mul, nI_add, pk_mul, nI_add]
  rw [e, if_pos (inb_nI (by omega) (by omega)), clampI (by omega)]
theorem LRf_step {M : Mw} {i I : Nat} (h : i < I) : LRf M i I = if nI i ≠ M.1 50 0 0 23 then rowR M i :: LRf M (i + 1) I else LRf M (i + 1) I := by
  unfold LRf
  rw [show I - i = (I - (i + 1)) + 1 by omega, List.range'_succ]
  by_cases c : nI i ≠ M.1 50 0 0 23
  · rw [List.filter_cons_of_pos (by simpa using c), if_pos c]
    rfl
  · rw [List.filter_cons_of_neg (by simpa using c), if_neg c]
theorem LRf_end (M : Mw) (I : Nat) : LRf M I I = [] := by
  unfold LRf
  rw [Nat.sub_self]
  rfl
theorem r_chg {M : Mw} {β : Bw} {L : Lw} (h : RBd M β L) {t n : Nat} (ht : t < 5) (hn6 : n < 6) : F_X10_changeAt (nI t) (nI n) M = some (chg L (nI t) (M.1 65 0 0 t) (nI n)) := by
  obtain ⟨-, -, -, -, -, I, hI, hn, hL, hr⟩ := h
  have hinj : F_X10_injections M = some (nI I) := by
    unfold F_X10_injections F_X10_many
    rw [Option.bind_some, hn]
  have key : it (fun _ => none) (B_X10_changeAt_2 (nI t) (nI n) M) FU (nI 0) = some (chg L (nI t) (M.1 65 0 0 t) (nI n)) := it_forN (n := I) (P := fun i => chg (LRf M i I) (nI t) (M.1 65 0 0 t) (nI n) = chg L (nI t) (M.1 65 0 0 t) (nI n)) (Q := fun o => o = some (chg L (nI t) (M.1 65 0 0 t) (nI n))) (fun k i hi hP => by
    have hg := hr i hi
    rw [LRf_step hi] at hP
    unfold B_X10_changeAt_2
    rw [hinj, Option.bind_some, if_neg (nI_ge hi (by omega))]
    by_cases c0 : nI i = M.1 50 0 0 23
    · rw [if_pos c0]
      rw [if_neg (fun q => q c0)] at hP
      exact Or.inl ⟨by simp only [bd_eq, nI_1], hP⟩
    rw [if_neg c0]
    rw [if_pos c0] at hP
    have o0 : F_X10_of (nI i) 0 M = some (M.1 51 0 0 (106 + 5 * i)) := r_of (p := 0) (by omega) (by omega)
    have o1 : F_X10_of (nI i) 1 M = some (M.1 51 0 0 (106 + 5 * i + 1)) := r_of (p := 1) (by omega) (by omega)
    have o2 : F_X10_of (nI i) 2 M = some (M.1 51 0 0 (106 + 5 * i + 2)) := r_of (p := 2) (by omega) (by omega)
    have o3 : F_X10_of (nI i) 3 M = some (M.1 51 0 0 (106 + 5 * i + 3)) := r_of (p := 3) (by omega) (by omega)
    have o4 : F_X10_of (nI i) 4 M = some (M.1 51 0 0 (106 + 5 * i + 4)) := r_of (p := 4) (by omega) (by omega)
    simp only [o0, o1, o2, o3, o4, Option.bind_some, clampI (show t < 2 ^ 31 by omega), inb_nI ht (show 5 ≤ 4000 by omega), bd_eq, nI_1, r_inI, eq_self, if_true]
    rcases hg with ⟨w, x, hw, hx, e⟩ | ⟨t', j, m, ht', hj, hm1, hm2, e⟩ | ⟨kd, t', j, n', m, hk, ht', hj, hn', hm1, hm2, e⟩
    · obtain ⟨e0, e1, e2, e3, e4⟩ : M.1 51 0 0 (106 + 5 * i) = 5 ∧ M.1 51 0 0 (106 + 5 * i + 1) = nI w ∧ M.1 51 0 0 (106 + 5 * i + 2) = nI x ∧ M.1 51 0 0 (106 + 5 * i + 3) = -1 ∧ M.1 51 0 0 (106 + 5 * i + 4) = -1 := by simpa using e
      have er : rowR M i = (5, nI w, nI x, -1, -1) := e
      rw [er, chg_missT (fun q => q.1 rfl)] at hP
      rw [e0, if_pos (by decide)]
      exact Or.inl ⟨rfl, hP⟩
    · obtain ⟨e0, e1, e2, e3, e4⟩ : M.1 51 0 0 (106 + 5 * i) = 4 ∧ M.1 51 0 0 (106 + 5 * i + 1) = nI t' ∧ M.1 51 0 0 (106 + 5 * i + 2) = nI j ∧ M.1 51 0 0 (106 + 5 * i + 3) = -1 ∧ M.1 51 0 0 (106 + 5 * i + 4) = nI m := by simpa using e
      have er : rowR M i = (4, nI t', nI j, -1, nI m) := e
      rw [er, chg_missT (fun q => by
        have := congrArg Int32.toInt q.2.2.1
        rw [nI_toInt (by omega)] at this
        have h1 : (-1 : Int32).toInt = -1 := by decide
        omega)] at hP
      rw [e0, if_pos (by decide)]
      exact Or.inl ⟨rfl, hP⟩
    · obtain ⟨e0, e1, e2, e3, e4⟩ : M.1 51 0 0 (106 + 5 * i) = nI kd ∧ M.1 51 0 0 (106 + 5 * i + 1) = nI t' ∧ M.1 51 0 0 (106 + 5 * i + 2) = nI j ∧ M.1 51 0 0 (106 + 5 * i + 3) = nI n' ∧ M.1 51 0 0 (106 + 5 * i + 4) = nI m := by simpa using e
      have er : rowR M i = (nI kd, nI t', nI j, nI n', nI m) := e
      rw [er] at hP
      simp only [e0, e1, e2, e3, e4]
      have e5 : nI j + nI m - 1 = nI (j + m - 1) := by
        rw [nI_add, show (1 : Int32) = nI 1 from rfl, pk_sub (by omega)]
      have e6 : nI j + nI m = nI (j + m - 1 + 1) := by rw [nI_add, show j + m - 1 + 1 = j + m by omega]
      rw [if_neg (show ¬ 3 < nI kd from nI_nlt (a := 3) (by omega) (by omega))]
      rw [e5]
      by_cases c1 : nI t' = nI t
      case neg =>
        rw [if_neg c1]
        rw [chg_missT (fun q => c1 q.2.1)] at hP
        exact Or.inl ⟨rfl, hP⟩
      rw [if_pos c1]
      by_cases c2 : nI n' = nI n
      case neg =>
        rw [if_neg c2]
        rw [chg_missT (fun q => c2 q.2.2.1)] at hP
        exact Or.inl ⟨rfl, hP⟩
      rw [if_pos c2]
      by_cases c3 : nI j ≤ M.1 65 0 0 t ∧ M.1 65 0 0 t ≤ nI (j + m - 1)
      · rw [if_pos c3, if_neg (by decide)]
        rw [chg_hitT ⟨by
          intro q
          have := congrArg Int32.toInt q
          rw [nI_toInt (by omega)] at this
          have h1 : (5 : Int32).toInt = 5 := by decide
          omega, c1, c2, c3.1, by
          rw [e6]
          exact (le_pred _ (by omega)).mp c3.2⟩] at hP
        exact Or.inr (by rw [hP])
      · rw [if_neg c3, if_pos rfl]
        rw [chg_missT (fun q => c3 ⟨q.2.2.2.1, by
          have q5 := q.2.2.2.2
          rw [e6] at q5
          exact (le_pred _ (by omega)).mpr q5⟩)] at hP
        exact Or.inl ⟨rfl, hP⟩) (fun k hP => by
    unfold B_X10_changeAt_2
    rw [hinj, Option.bind_some, if_pos (nI_le (Nat.le_refl _) (by omega))]
    rw [LRf_end] at hP
    rw [← hP]
    rfl) FU 0 (Nat.zero_le _) (by unfold FU; omega) (by rw [hL])
  rw [nI_0] at key
  unfold F_X10_changeAt
  exact key
