/-! INJECT -/
theorem c_hasNode {b : Nat} {M : Mw} {β : Bw} {L : Lw} (hg : GB β L) (h : CBd b M β L) {t : Nat} (ht : t < β 0 0 5) (p : Int32) : F_X0_hasNode b (nI t) p M = some (if ¬ p < 0 ∧ p < nI (β 4 t 6) then 1 else 0) := by
  have h5 := hg.1.2.2.2.2
  have hN := h.2.2.1 t ht 6 (by omega)
  unfold F_X0_hasNode
  rw [c_hasTask1 (h.1 5 (by omega)) h5 ht, Option.bind_some, if_neg (by decide)]
  by_cases c1 : p < 0
  · rw [if_pos c1, if_neg (fun q => q.1 c1)]
  · rw [if_neg c1, if_pos (inb_nI (by omega) (by omega)), clampI (by omega), hN]
    by_cases c2 : nI (β 4 t 6) ≤ p
    · rw [if_pos c2, if_neg (fun q => absurd q.2 (Int32.not_lt.mpr c2))]
    · rw [if_neg c2, if_pos ⟨c1, Int32.not_le.mp c2⟩]
def row4 (a1 a2 a3 a4 a5 : Int32) : Rw := (a1, a2, a3, if a1 = 4 ∨ a1 = 5 then -1 else a4, if a1 = 5 then -1 else a5)
theorem allow_cases {M : Mw} {β : Bw} {L : Lw} (h : IBd M β L) (a1 a2 a3 a4 a5 : Int32) : (F_X0_allows 1 a1 a2 a3 a4 a5 M = some 0 ∧ ∀ M', RWd (M'.1 51 0 0) β L → F_X10_canInject a1 a2 a3 a4 a5 M' = some 0) ∨ (GRow β (row4 a1 a2 a3 a4 a5) ∧ F_X0_allows 1 a1 a2 a3 a4 a5 M = some 1 ∧ ∀ M', RWd (M'.1 51 0 0) β L → F_X10_canInject a1 a2 a3 a4 a5 M' = some 1) := by
  have hx := h.1
  have hg := hx.1
  have hT5 := hg.1.2.2.2.2
  have hW3 := hg.1.2.2.2.1
  have i3 : ∀ (n : Nat) (p : Int32), n < 1000 → (¬ p < 0 ∧ p < nI (n + 1)) ∨ (p < 0 ∨ nI n < p) := fun n p hn => by
    by_cases c1 : p < 0
    · exact Or.inr (Or.inl c1)
    · by_cases c2 : nI n < p
      · exact Or.inr (Or.inr c2)
      · exact Or.inl ⟨c1, (le_pred p (by omega)).mp (Int32.not_lt.mp c2)⟩
  unfold F_X0_allows
  by_cases c5 : a1 = 5
  · subst c5
    rw [if_pos rfl]
    rcases wat_cases h a2 with ⟨w1, w2⟩ | ⟨w, hw, rfl, w1, w2⟩
    · left
      rw [w1, Option.bind_some, if_pos rfl]
      refine ⟨rfl, fun M' hw' => ?_⟩
      unfold F_X10_canInject
      rw [if_pos rfl, w2 M' hw', Option.bind_some, if_pos rfl]
    rw [w1, Option.bind_some, if_neg (show ¬ (1 : Int32) = 0 by decide)]
    have hr : ∀ M' : Mw, RWd (M'.1 51 0 0) β L → F_X10_canInject 5 (nI w) a3 a4 a5 M' = (if ¬ a3 < 0 ∧ a3 < nI (199 + 1) then (if a4 = 0 then (if a5 = 0 then some 1 else some 0) else some 0) else some (0 : Int32)) := by
      intro M' hw'
      unfold F_X10_canInject
      rw [if_pos rfl, w2 M' hw', Option.bind_some, if_neg (show ¬ (1 : Int32) = 0 by decide), r_in0n a3 (n := 199) (by omega) (by decide), Option.bind_some]
      by_cases c : ¬ a3 < 0 ∧ a3 < nI (199 + 1)
      · rw [if_pos c, if_neg (show ¬ (1 : Int32) = 0 by decide), if_pos c]
      · rw [if_neg c, if_pos rfl, if_neg c]
    rcases i3 199 a3 (by omega) with c3 | c3
    · have h199 : ¬ (199 : Int32) < a3 := fun q => absurd ((le_pred a3 (n := 199) (by omega)).mpr c3.2) (Int32.not_le.mpr q)
      rw [if_neg c3.1, if_neg h199]
      by_cases c4 : a4 = 0
      · by_cases c55 : a5 = 0
        · right
          refine ⟨Or.inl ?_, by rw [if_pos c4, if_pos c55], fun M' hw' => by rw [hr M' hw', if_pos c3, if_pos c4, if_pos c55]⟩
          obtain ⟨x, hx2, rfl⟩ := (rng_cases a3 (show 199 + 1 < 2 ^ 31 by omega)).resolve_right (fun q => q c3)
          exact ⟨w, x, hw, by omega, by unfold row4; rw [if_pos (Or.inr rfl), if_pos rfl]⟩
        · left
          exact ⟨by rw [if_pos c4, if_neg c55], fun M' hw' => by rw [hr M' hw', if_pos c3, if_pos c4, if_neg c55]⟩
      · left
        exact ⟨by rw [if_neg c4], fun M' hw' => by rw [hr M' hw', if_pos c3, if_neg c4]⟩
    · left
      have hbad : ¬ (¬ a3 < 0 ∧ a3 < nI (199 + 1)) := fun q => by
        rcases c3 with z | z
        · exact q.1 z
        · exact absurd ((le_pred a3 (n := 199) (by omega)).mpr q.2) (Int32.not_le.mpr z)
      refine ⟨?_, fun M' hw' => by rw [hr M' hw', if_neg hbad]⟩
      by_cases z : a3 < 0
      · rw [if_pos z]
      · rw [if_neg z, if_pos (show (199 : Int32) < a3 from c3.resolve_left z)]
  rw [if_neg c5]
  -- the other kinds: what the reference says
  have hr : ∀ M' : Mw, RWd (M'.1 51 0 0) β L → F_X10_canInject a1 a2 a3 a4 a5 M' = (if ¬ a1 < 0 ∧ a1 < nI (4 + 1) then (if ¬ a2 < 0 ∧ a2 < nI (β 0 0 5) then (if ¬ a3 < 0 ∧ a3 < nI (50 + 1) then (if 1 ≤ a5 ∧ a5 ≤ 9 then (if a1 = 4 then (if a4 = 0 then some 1 else some 0) else some (if ¬ a4 < 0 ∧ a4 < nI (β 4 a2.toNatClampNeg 6) then 1 else 0)) else some 0) else some 0) else some 0) else some (0 : Int32)) := by
    intro M' hw'
    unfold F_X10_canInject
    rw [if_neg c5, r_in0n a1 (n := 4) (by omega) (by decide), Option.bind_some]
    by_cases c1 : ¬ a1 < 0 ∧ a1 < nI (4 + 1)
    case neg => rw [if_neg c1, if_pos rfl, if_neg c1]
    rw [if_pos c1, if_neg (show ¬ (1 : Int32) = 0 by decide), if_pos c1]
    rcases rng_cases a2 (show β 0 0 5 < 2 ^ 31 by omega) with ⟨t, ht, rfl⟩ | c2
    case inr =>
      rcases task_cases ⟨hx, h.2.1, h.2.2⟩ a2 with ⟨t1, t2⟩ | ⟨t, ht, rfl, t1, t2⟩
      · rw [t2 M' hw', Option.bind_some, if_pos rfl, if_neg c2]
      · exact absurd (rng_in ht (by omega)) c2
    have et : F_X10_isTask (nI t) M' = some 1 := by
      rcases task_cases ⟨hx, h.2.1, h.2.2⟩ (nI t) with ⟨t1, t2⟩ | ⟨t', ht', e, t1, t2⟩
      · rw [c_hasTask1 (h.2.1.c 5 (by omega)) hT5 ht] at t1
        exact absurd t1 (by decide)
      · exact t2 M' hw'
    rw [et, Option.bind_some, if_neg (show ¬ (1 : Int32) = 0 by decide), if_pos (rng_in ht (by omega)), r_in0n a3 (n := 50) (by omega) (by decide), Option.bind_some]
    by_cases c3 : ¬ a3 < 0 ∧ a3 < nI (50 + 1)
    case neg => rw [if_neg c3, if_pos rfl, if_neg c3]
    rw [if_pos c3, if_neg (show ¬ (1 : Int32) = 0 by decide), if_pos c3, r_inLL a5 1 9 1 9 (by decide) (by decide), Option.bind_some]
    by_cases c9 : 1 ≤ a5 ∧ a5 ≤ 9
    case neg => rw [if_neg c9, if_pos rfl, if_neg c9]
    rw [if_pos c9, if_neg (show ¬ (1 : Int32) = 0 by decide), if_pos c9]
    by_cases c4 : a1 = 4
    · rw [if_pos c4, if_pos c4]
    · rw [if_neg c4, if_neg c4]
      unfold F_X10_nodesOf
      have e6 : F_X10_toldOf (nI t) 6 M' = some (nI (β 4 t 6)) := by
        have := r_told (M := M') (t := t) (p := 6) (by omega) (by omega)
        rw [hw'.2.1 t ht 6 (by omega)] at this
        exact this
      have h66 := (hg.2.2.2.1 t ht).2.2.2.2.2.2.2.2.2
      rw [e6, Option.bind_some, Option.bind_some, r_in0 a4 (by omega), Option.bind_some, clampI (by omega)]
      by_cases z : ¬ a4 < 0 ∧ a4 < nI (β 4 t 6)
      · rw [if_pos z, if_pos (by decide)]
      · rw [if_neg z, if_pos (by decide)]
  -- what the class says
  have hc : (if a1 < 0 then some 0 else (if 4 < a1 then some 0 else (if a3 < 0 then some 0 else (if 50 < a3 then some 0 else (if a5 < 1 then some 0 else (if a5 ≤ 9 then (if a1 = 4 then ((F_X0_hasTask 1 a2 M).bind (fun v11 => (if v11 = 0 then some 0 else (if a4 = 0 then some 1 else some 0)))) else ((F_X0_hasNode 1 a2 a4 M).bind (fun v9 => (if bz v9 then some v9 else none)))) else some 0)))))) = (if ¬ a1 < 0 ∧ a1 < nI (4 + 1) then (if ¬ a2 < 0 ∧ a2 < nI (β 0 0 5) then (if ¬ a3 < 0 ∧ a3 < nI (50 + 1) then (if 1 ≤ a5 ∧ a5 ≤ 9 then (if a1 = 4 then (if a4 = 0 then some 1 else some 0) else some (if ¬ a4 < 0 ∧ a4 < nI (β 4 a2.toNatClampNeg 6) then 1 else 0)) else some 0) else some 0) else some 0) else some (0 : Int32)) := by
    have hz : ∀ (X : Option Int32), X = some 0 → (if ¬ a2 < 0 ∧ a2 < nI (β 0 0 5) then X else some 0) = some 0 := by
      intro X q
      rw [q]
      by_cases c2 : ¬ a2 < 0 ∧ a2 < nI (β 0 0 5)
      · rw [if_pos c2]
      · rw [if_neg c2]
    by_cases c1 : ¬ a1 < 0 ∧ a1 < nI (4 + 1)
    case neg =>
      rw [if_neg c1]
      by_cases z : a1 < 0
      · rw [if_pos z]
      · rw [if_neg z, if_pos (show (4 : Int32) < a1 from Int32.not_le.mp (fun q => c1 ⟨z, (le_pred a1 (n := 4) (by omega)).mp q⟩))]
    rw [if_pos c1, if_neg c1.1, if_neg (show ¬ (4 : Int32) < a1 from Int32.not_lt.mpr ((le_pred a1 (n := 4) (by omega)).mpr c1.2))]
    by_cases c3 : ¬ a3 < 0 ∧ a3 < nI (50 + 1)
    case neg =>
      rw [if_neg c3, hz _ rfl]
      by_cases z : a3 < 0
      · rw [if_pos z]
      · rw [if_neg z, if_pos (show (50 : Int32) < a3 from Int32.not_le.mp (fun q => c3 ⟨z, (le_pred a3 (n := 50) (by omega)).mp q⟩))]
    rw [if_pos c3, if_neg c3.1, if_neg (show ¬ (50 : Int32) < a3 from Int32.not_lt.mpr ((le_pred a3 (n := 50) (by omega)).mpr c3.2))]
    by_cases c9 : 1 ≤ a5 ∧ a5 ≤ 9
    case neg =>
      rw [if_neg c9, hz _ rfl]
      by_cases z : a5 < 1
      · rw [if_pos z]
      · rw [if_neg z, if_neg (fun q => c9 ⟨Int32.not_lt.mp z, q⟩)]
    rw [if_pos c9, if_neg (Int32.not_lt.mpr c9.1), if_pos c9.2]
    rcases task_cases ⟨hx, h.2.1, h.2.2⟩ a2 with ⟨t1, t2⟩ | ⟨t, ht, rfl, t1, t2⟩
    · have c2 : ¬ (¬ a2 < 0 ∧ a2 < nI (β 0 0 5)) := fun q => by
        rw [c_hasTask (h.2.1.c 5 (by omega)) hT5, if_pos q] at t1
        exact absurd t1 (by decide)
      rw [if_neg c2]
      by_cases c4 : a1 = 4
      · rw [if_pos c4, t1, Option.bind_some, if_pos rfl]
      · rw [if_neg c4]
        unfold F_X0_hasNode
        rw [t1, Option.bind_some, if_pos rfl, Option.bind_some, if_pos (by decide)]
    · rw [if_pos (rng_in ht (by omega))]
      by_cases c4 : a1 = 4
      · rw [if_pos c4, if_pos c4, t1, Option.bind_some, if_neg (show ¬ (1 : Int32) = 0 by decide)]
      · rw [if_neg c4, if_neg c4, c_hasNode hg h.2.1.d ht, Option.bind_some, clampI (by omega)]
        by_cases z : ¬ a4 < 0 ∧ a4 < nI (β 4 t 6)
        · rw [if_pos z, if_pos (by decide)]
        · rw [if_neg z, if_pos (by decide)]
  rw [hc]
  by_cases c1 : ¬ a1 < 0 ∧ a1 < nI (4 + 1)
  case neg =>
    left
    exact ⟨if_neg c1, fun M' hw' => by rw [hr M' hw', if_neg c1]⟩
  by_cases c2 : ¬ a2 < 0 ∧ a2 < nI (β 0 0 5)
  case neg =>
    left
    exact ⟨by rw [if_pos c1, if_neg c2], fun M' hw' => by rw [hr M' hw', if_pos c1, if_neg c2]⟩
  by_cases c3 : ¬ a3 < 0 ∧ a3 < nI (50 + 1)
  case neg =>
    left
    exact ⟨by rw [if_pos c1, if_pos c2, if_neg c3], fun M' hw' => by rw [hr M' hw', if_pos c1, if_pos c2, if_neg c3]⟩
  by_cases c9 : 1 ≤ a5 ∧ a5 ≤ 9
  case neg =>
    left
    exact ⟨by rw [if_pos c1, if_pos c2, if_pos c3, if_neg c9], fun M' hw' => by rw [hr M' hw', if_pos c1, if_pos c2, if_pos c3, if_neg c9]⟩
  obtain ⟨kd, hkd, rfl⟩ := (rng_cases a1 (show 4 + 1 < 2 ^ 31 by omega)).resolve_right (fun q => q c1)
  obtain ⟨t, ht, rfl⟩ := (rng_cases a2 (show β 0 0 5 < 2 ^ 31 by omega)).resolve_right (fun q => q c2)
  obtain ⟨j, hj, rfl⟩ := (rng_cases a3 (show 50 + 1 < 2 ^ 31 by omega)).resolve_right (fun q => q c3)
  obtain ⟨m, hm, rfl⟩ : ∃ m : Nat, m ≤ 9 ∧ a5 = nI m := nI_of2 (M := 9) (by decide) (fun q => absurd (Int32.lt_of_lt_of_le q (show (0 : Int32) ≤ 1 by decide)) (Int32.not_lt.mpr c9.1)) c9.2
  have hm1 : 1 ≤ m := (nI_leI (a := 1) (by omega) (by omega)).mp c9.1
  by_cases c4 : nI kd = 4
  · have k4 : kd = 4 := (nI_eq (a := kd) (b := 4) (by omega) (by omega)).mp c4
    by_cases z : a4 = 0
    · right
      refine ⟨Or.inr (Or.inl ⟨t, j, m, ht, by omega, hm1, hm, ?_⟩), by rw [if_pos c1, if_pos c2, if_pos c3, if_pos c9, if_pos c4, if_pos z], fun M' hw' => by rw [hr M' hw', if_pos c1, if_pos c2, if_pos c3, if_pos c9, if_pos c4, if_pos z]⟩
      unfold row4
      rw [if_pos (Or.inl c4), if_neg c5, c4]
    · left
      exact ⟨by rw [if_pos c1, if_pos c2, if_pos c3, if_pos c9, if_pos c4, if_neg z], fun M' hw' => by rw [hr M' hw', if_pos c1, if_pos c2, if_pos c3, if_pos c9, if_pos c4, if_neg z]⟩
  · have k4 : kd ≠ 4 := fun q => c4 (by rw [q]; rfl)
    have ecl : (nI t).toNatClampNeg = t := clampI (by omega)
    have h66 := (hg.2.2.2.1 t ht).2.2.2.2.2.2.2.2.2
    rcases rng_cases a4 (show β 4 t 6 < 2 ^ 31 by omega) with ⟨n, hn, rfl⟩ | z
    · right
      refine ⟨Or.inr (Or.inr ⟨kd, t, j, n, m, by omega, ht, by omega, hn, hm1, hm, ?_⟩), by rw [if_pos c1, if_pos c2, if_pos c3, if_pos c9, if_neg c4, ecl, if_pos (rng_in hn (by omega))], fun M' hw' => by rw [hr M' hw', if_pos c1, if_pos c2, if_pos c3, if_pos c9, if_neg c4, ecl, if_pos (rng_in hn (by omega))]⟩
      unfold row4
      rw [if_neg (fun q => q.elim c4 c5), if_neg c5]
    · left
      exact ⟨by rw [if_pos c1, if_pos c2, if_pos c3, if_pos c9, if_neg c4, ecl, if_neg z], fun M' hw' => by rw [hr M' hw', if_pos c1, if_pos c2, if_pos c3, if_pos c9, if_neg c4, ecl, if_neg z]⟩
