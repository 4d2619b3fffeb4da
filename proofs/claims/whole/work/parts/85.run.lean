/-! THE QUESTIONS ABOUT THE RUN -/
theorem rn_O {β : Bw} {L : Lw} {i n : Nat} (h : i < n) : ∀ d, (rn β L (n + d)).2.2.2 i = (rn β L n).2.2.2 i := by
  intro d
  induction d with
  | zero => rfl
  | succ d ih =>
    show (stR β L (n + d) (rn β L (n + d))).2.2.2 i = _
    unfold stR
    by_cases c : (rn β L (n + d)).1.2.2.2.2.2.1 ≠ 0
    · rw [if_pos c]; exact ih
    · rw [if_neg c]
      show (if i = n + d then _ else (rn β L (n + d)).2.2.2 i) = _
      rw [if_neg (by omega)]
      exact ih
theorem r_in0n (p : Int32) {n : Nat} (hn : n < 2 ^ 29) {h : Int64} (e : h = (nI n).toInt64) (M : Mw) : F_X10_in p.toInt64 0 h M = some (if ¬ p < 0 ∧ p < nI (n + 1) then 1 else 0) := by
  rw [e]
  have := r_in0 p (n := n + 1) (by omega) M
  rw [nI_pred] at this
  exact this
theorem cnt_loop {α γ : Type} {z : Int32 → Int32 → Option γ} {B : (Int32 → Int32 → Option γ) → Int32 → Int32 → Option γ} {R : List α} {p : α → Bool} {o : Option γ} (hl : R.length ≤ 1000)
    (step : ∀ (k : Int32 → Int32 → Option γ) (i a : Nat) (r : α), R[i]? = some r → B k (nI a) (nI i) = k (nI (a + (if p r = true then 1 else 0))) (nI (i + 1)))
    (done : ∀ (k : Int32 → Int32 → Option γ), B k (nI (R.countP p)) (nI R.length) = o) : it z B FU (nI 0) (nI 0) = o :=
  it_forA (n := R.length) (P := fun i a => a = nI ((R.take i).countP p)) (Q := fun o' => o' = o) (fun k i a hi hP => by
    left
    have hr : R[i]? = some R[i] := List.getElem?_eq_getElem hi
    refine ⟨_, by rw [hP]; exact step k i _ _ hr, ?_⟩
    rw [List.take_add_one, hr, List.countP_append]
    show _ = nI (_ + List.countP p [R[i]])
    rw [List.countP_singleton])
  (fun k a hP => by
    rw [hP, List.take_length]
    exact done k) FU 0 (nI 0) (Nat.zero_le _) (by unfold FU; omega) rfl
theorem whole_rec {M : Mw} {β : Bw} {L : Lw} {b k : Nat} (h : CRn b M β L k) : M.1 26 b 0 1 = nI (rcs β L k).length ∧ ∀ (i : Nat) (r : Nat × Nat × Nat × Nat), (rcs β L k)[i]? = some r → M.1 28 b i 0 = nI r.1 ∧ M.1 28 b i 1 = nI r.2.1 ∧ M.1 28 b i 2 = nI r.2.2.1 ∧ M.1 28 b i 3 = nI r.2.2.2 := by
  obtain ⟨x, hG⟩ := h.2.2.1
  exact ⟨hG.2.2.2.2.2.1, hG.2.2.2.2.2.2⟩
theorem ref_rec {M : Mw} {β : Bw} {L : Lw} {k : Nat} (h : RRun M β L k (rn β L k)) : M.1 50 0 0 56 = nI (rcs β L k).length ∧ ∀ (i : Nat) (r : Nat × Nat × Nat × Nat), (rcs β L k)[i]? = some r → M.1 88 0 0 i = nI r.1 ∧ M.1 89 0 0 i = nI r.2.1 ∧ M.1 90 0 0 i = nI r.2.2.1 ∧ M.1 91 0 0 i = nI r.2.2.2 := by
  obtain ⟨x, hG⟩ := h.2.2.1
  exact ⟨hG.2.2.2.2.1, hG.2.2.2.2.2.1⟩
theorem ok_had : ∀ M : Mw, Inv M → ∀ a1 : Int32, ∃ (r1 : Int32 × Mw) (r2 : Int32 × Mw), F_X9_had a1 M = some r1 ∧ F_X10_had a1 r1.2 = some r2 ∧ r1.1 = r2.1 ∧ Inv r2.2 := by
  intro M hM a1
  obtain ⟨β, L, h⟩ := hM
  have hx := h.2.1.1
  have hH := hx.H
  have hw := h.2.1.2.2
  have eH : M.1 0 1 0 0 = nI (β 0 0 0) := h.2.1.2.1.c 0 (by omega)
  have hbad : ¬ (¬ a1 < 0 ∧ a1 < nI (β 0 0 0)) → F_X9_had a1 M = some ((-2), M) := by
    intro c
    unfold F_X9_had
    rw [eH]
    by_cases c1 : a1 < 0
    · rw [if_pos c1]
    · rw [if_neg c1, if_neg (fun q => c ⟨c1, q⟩)]
  rcases r_asks hx hw with ⟨hl, -⟩ | ⟨hl, M2, q1, q2, q3⟩
  · rcases rng_cases a1 (show β 0 0 0 < 2 ^ 31 by omega) with ⟨k, hk, rfl⟩ | c
    · obtain ⟨M1, s1, s2, s3, s4⟩ := v_show h hl (show k + 1 ≤ β 0 0 0 by omega)
      rcases r_asks hx s3.2.1.2.2 with ⟨-, M2, q1, q2, q3, q4⟩ | ⟨q, -⟩
      · refine ⟨(M1.1 23 1 0 3, M1), (M2.1 87 0 0 k, M2), ?_, ?_, ?_, β, L, s3.i q3⟩
        · unfold F_X9_had
          rw [if_neg (nI_pos (by omega)), eH, if_pos (nI_lt hk (by omega)), nI_1, s1, Option.bind_some]
        · unfold F_X10_had
          show (F_X10_asks M1).bind _ = _
          rw [q1, Option.bind_some, if_neg (show ¬ (1 : Int32) = 0 by decide)]
          show (F_X10_in (nI k).toInt64 0 ((M2.1 51 0 0 0 - 1).toInt64) M2).bind _ = _
          rw [q4, s3.2.1.2.2.1.1, r_in0 _ (by omega), Option.bind_some, if_pos (rng_in hk (by omega)), if_neg (by decide), if_pos (inb_nI (by omega) (by omega)), clampI (by omega)]
        · show M1.1 23 1 0 3 = M2.1 87 0 0 k
          rw [q2.2.2.2.2.2.1 k (by omega), s2.2.2.2.2.2.1]
          have e : lO (rn β L (k + 1)).2.2.2 (k + 1) = (rn β L (k + 1)).2.2.2 k := by
            unfold lO
            rw [if_neg (by omega), Nat.add_sub_cancel]
          have e2 := rn_O (β := β) (L := L) (show k < k + 1 by omega) (β 0 0 0 - (k + 1))
          rw [show k + 1 + (β 0 0 0 - (k + 1)) = β 0 0 0 by omega] at e2
          rw [e, e2]
      · omega
    · rcases r_asks hx hw with ⟨-, M2, q1, q2, q3, q4⟩ | ⟨q, -⟩
      · refine ⟨((-2), M), ((-2), M2), hbad c, ?_, rfl, β, L, h.i q3⟩
        unfold F_X10_had
        show (F_X10_asks M).bind _ = _
        rw [q1, Option.bind_some, if_neg (show ¬ (1 : Int32) = 0 by decide)]
        show (F_X10_in a1.toInt64 0 ((M2.1 51 0 0 0 - 1).toInt64) M2).bind _ = _
        rw [q4, hw.1.1, r_in0 _ (by omega), Option.bind_some, if_neg c, if_pos rfl]
      · omega
  · have h0 : β 0 0 0 = 0 := (hx.2.2.2.2.1 hl).1
    refine ⟨((-2), M), ((-2), M2), hbad (fun q => ?_), ?_, rfl, β, L, h.i q2⟩
    · have := q.2
      rw [h0] at this
      exact q.1 this
    · unfold F_X10_had
      show (F_X10_asks M).bind _ = _
      rw [q1, Option.bind_some, if_pos (show (0 : Int32) = 0 from rfl)]
theorem idl_cnt (O : Nat → Nat) : ∀ n, (List.range n).countP (fun i => decide (O i = 0)) = idl O n := by
  intro n
  induction n with
  | zero => rfl
  | succ n ih =>
    rw [List.range_succ, List.countP_append, ih, List.countP_singleton]
    show _ = idl O n + (if O n = 0 then 1 else 0)
    by_cases c : O n = 0
    · rw [if_pos c, if_pos (decide_eq_true c)]
    · rw [if_neg c, if_neg (fun q => c (of_decide_eq_true q))]
theorem ok_idle : ∀ M : Mw, Inv M → ∀ a1 : Int32, ∃ (r1 : Int32 × Mw) (r2 : Int32 × Mw), F_X9_idle a1 M = some r1 ∧ F_X10_idle a1 r1.2 = some r2 ∧ r1.1 = r2.1 ∧ Inv r2.2 := by
  intro M hM a1
  obtain ⟨β, L, h⟩ := hM
  have hx := h.2.1.1
  have hH := hx.H
  unfold F_X9_idle F_X10_idle
  rcases tick_cases h.2.1 a1 with ⟨k1, k2⟩ | ⟨hl, k, hk, rfl, k1, k2⟩
  · rw [k1, Option.bind_some, if_pos rfl]
    refine ⟨_, ((-2), M), rfl, ?_, rfl, β, L, h⟩
    show (F_X10_asksAt a1 M).bind _ = _
    rw [k2 M h.2.1.2.2, Option.bind_some, if_pos (show (0 : Int32) = 0 from rfl)]
  · obtain ⟨M1, s1, s2, s3, s4⟩ := v_show h hl hk
    obtain ⟨M2, q1, q2, q3⟩ := k2 M1 s3.2.1.2.2
    rw [k1, Option.bind_some, if_neg (by decide), s1, Option.bind_some]
    refine ⟨_, (nI (idl (rn β L k).2.2.2 k), M2), rfl, ?_, s2.2.2.2.2.2.2, β, L, s3.i q3⟩
    show (F_X10_asksAt (nI k) M1).bind _ = _
    rw [q1, Option.bind_some, if_neg (show ¬ (1 : Int32) = 0 by decide)]
    have hlen : (List.range k).length = k := List.length_range
    have := cnt_loop (z := fun _ _ => none) (B := B_X10_idle_15 (nI k) M2) (R := List.range k) (p := fun i => decide ((rn β L k).2.2.2 i = 0)) (o := some (nI (idl (rn β L k).2.2.2 k), M2)) (by rw [hlen]; omega) (fun kk i a r hr => by
      have hi : i < k := by
        have := (List.getElem?_eq_some_iff.mp hr).1
        rw [hlen] at this
        exact this
      rw [List.getElem?_range hi] at hr
      have hr := Option.some.inj hr
      subst hr
      have hO := ((hx.bf hl).ir (show k ≤ 200 by omega)).2.2.2.2 i
      have hT5 := hx.1.1.2.2.2.2
      unfold B_X10_idle_15
      rw [if_neg (nI_ge hi (by omega)), if_pos (inb_nI (by omega) (by omega)), clampI (by omega), q2.2.2.2.2.2.1 i (by omega)]
      by_cases c : (rn β L k).2.2.2 i = 0
      · rw [if_pos (show nI ((rn β L k).2.2.2 i) + (-1) = -1 by rw [c]; decide), if_pos (decide_eq_true c), bd_eq, bd_eq, nI_1, nI_1]
      · rw [if_neg (nI_m1n c (by omega)), if_neg (fun q => c (of_decide_eq_true q)), bd_eq, bd_eq, nI_1, Int32.add_zero]
        rfl) (fun kk => by
      unfold B_X10_idle_15
      rw [hlen, if_pos (Int32.le_refl _), idl_cnt])
    exact this
theorem ok_halts : ∀ M : Mw, Inv M → ∃ (r1 : Int32) (r2 : Int32 × Mw), F_X9_halts M = some r1 ∧ F_X10_halts M = some r2 ∧ r1 = r2.1 ∧ Inv r2.2 := by
  intro M hM
  obtain ⟨β, L, h⟩ := hM
  have hx := h.2.1.1
  have h3 := hx.2.2.2.2.2.2.1
  unfold F_X9_halts F_X10_halts
  rw [h.2.1.2.1.c 3 (by omega)]
  rcases r_asks hx h.2.1.2.2 with ⟨hl, M2, q1, q2, q3, q4⟩ | ⟨hl, M2, q1, q2, q3⟩
  · obtain ⟨x, hG⟩ := h.2.2.1.2.2.1
    obtain ⟨y, hR⟩ := q2.2.2.1
    rw [q1, Option.bind_some, if_neg (nI_ne0 hl (by omega)), if_neg (show ¬ (1 : Int32) = 0 by decide)]
    refine ⟨_, _, rfl, rfl, ?_, β, L, h.i q3⟩
    show M.1 23 0 0 5 = M2.1 50 0 0 59
    rw [hG.2.2.1, hR.2.1]
  · rw [q1, Option.bind_some, if_pos (show nI (β 0 0 3) = 0 by rw [hl]; rfl), if_pos (show (0 : Int32) = 0 from rfl)]
    exact ⟨_, _, rfl, rfl, rfl, β, L, h.i q2⟩
theorem ok_record : ∀ M : Mw, Inv M → ∀ a1 a2 : Int32, ∃ (r1 : Int32) (r2 : Int32 × Mw), F_X9_record a1 a2 M = some r1 ∧ F_X10_record a1 a2 M = some r2 ∧ r1 = r2.1 ∧ Inv r2.2 := by
  intro M hM a1 a2
  obtain ⟨β, L, h⟩ := hM
  have hx := h.2.1.1
  have h3 := hx.2.2.2.2.2.2.1
  have hH := hx.H
  obtain ⟨c1, c2⟩ := whole_rec h.2.2.1
  unfold F_X9_record F_X10_record
  rw [h.2.1.2.1.c 3 (by omega), r_in0n a2 (n := 3) (by omega) (by decide), Option.bind_some]
  by_cases hl : 0 < β 0 0 3
  case neg =>
    rw [if_pos (show nI (β 0 0 3) = 0 by rw [show β 0 0 3 = 0 by omega]; rfl)]
    by_cases a1n : a1 < 0
    · rw [if_pos a1n]
      exact ⟨_, _, rfl, rfl, rfl, β, L, h⟩
    rw [if_neg a1n]
    by_cases a2n : ¬ a2 < 0 ∧ a2 < nI (3 + 1)
    · rcases r_asks hx h.2.1.2.2 with ⟨q, -⟩ | ⟨-, M2, q1, q2, q3⟩
      · omega
      · rw [if_pos a2n, if_neg (by decide), q1, Option.bind_some, if_pos (show (0 : Int32) = 0 from rfl)]
        exact ⟨_, _, rfl, rfl, rfl, β, L, h.i q2⟩
    · rw [if_neg a2n, if_pos rfl]
      exact ⟨_, _, rfl, rfl, rfl, β, L, h⟩
  rw [if_neg (nI_ne0 hl (by omega))]
  by_cases a1n : a1 < 0
  · rw [if_pos a1n, if_pos a1n]
    exact ⟨_, _, rfl, rfl, rfl, β, L, h⟩
  rw [if_neg a1n, if_neg a1n]
  rcases rng_cases a2 (show 4 < 2 ^ 31 by omega) with ⟨j, hj, rfl⟩ | a2n
  case inr =>
    rw [if_neg (show ¬ (¬ a2 < 0 ∧ a2 < nI (3 + 1)) from a2n), if_pos rfl]
    by_cases c : a2 < 0
    · rw [if_pos c]
      exact ⟨_, _, rfl, rfl, rfl, β, L, h⟩
    · rw [if_neg c, if_neg (show ¬ a2 < 4 from fun q => a2n ⟨c, q⟩)]
      exact ⟨_, _, rfl, rfl, rfl, β, L, h⟩
  rw [if_neg (nI_pos (by omega)), if_pos (show nI j < 4 from nI_lt (b := 4) hj (by omega)), if_pos (show ¬ nI j < 0 ∧ nI j < nI (3 + 1) from rng_in hj (by omega)), if_neg (show ¬ (1 : Int32) = 0 by decide), c1]
  rcases r_asks hx h.2.1.2.2 with ⟨-, M2, q1, q2, q3, q4⟩ | ⟨q, -⟩
  case inr => omega
  obtain ⟨d1, d2⟩ := ref_rec q2
  have hlen := rn_len hx hl hH
  rw [q1, Option.bind_some, if_neg (show ¬ (1 : Int32) = 0 by decide)]
  show ∃ (r1 : Int32) (r2 : Int32 × Mw), _ = some r1 ∧ (if a1 < M2.1 50 0 0 56 then _ else _) = some r2 ∧ _
  rw [d1]
  rcases rng_cases a1 (show (rcs β L (β 0 0 0)).length < 2 ^ 31 by omega) with ⟨i, hi, rfl⟩ | ci
  case inr =>
    rw [if_pos (Int32.not_lt.mp (fun q => ci ⟨a1n, q⟩)), if_neg (fun q => ci ⟨a1n, q⟩)]
    exact ⟨_, _, rfl, rfl, rfl, β, L, h.i q3⟩
  have hr : (rcs β L (β 0 0 0))[i]? = some (rcs β L (β 0 0 0))[i] := List.getElem?_eq_getElem hi
  obtain ⟨x0, x1, x2, x3⟩ := c2 i _ hr
  obtain ⟨y0, y1, y2, y3⟩ := d2 i _ hr
  have i4000 : inb (nI i) 4000 = true := inb_nI (by omega) (by omega)
  rw [if_neg (nI_ge hi (by omega)), if_pos (nI_lt hi (by omega)), if_pos (inb_nI (by omega) (by omega)), if_pos (inb_nI hj (by omega)), clampI (by omega), clampI (by omega), if_pos i4000, if_pos i4000, if_pos i4000, if_pos i4000]
  rcases (by omega : j = 0 ∨ j = 1 ∨ j = 2 ∨ j = 3) with rfl | rfl | rfl | rfl
  · rw [if_pos (by decide)]
    exact ⟨_, _, rfl, rfl, by show M.1 28 0 i 0 = M2.1 88 0 0 i; rw [x0, y0], β, L, h.i q3⟩
  · rw [if_neg (by decide), if_pos (by decide)]
    exact ⟨_, _, rfl, rfl, by show M.1 28 0 i 1 = M2.1 89 0 0 i; rw [x1, y1], β, L, h.i q3⟩
  · rw [if_neg (by decide), if_neg (by decide), if_pos (by decide)]
    exact ⟨_, _, rfl, rfl, by show M.1 28 0 i 2 = M2.1 90 0 0 i; rw [x2, y2], β, L, h.i q3⟩
  · rw [if_neg (by decide), if_neg (by decide), if_neg (by decide)]
    exact ⟨_, _, rfl, rfl, by show M.1 28 0 i 3 = M2.1 91 0 0 i; rw [x3, y3], β, L, h.i q3⟩
