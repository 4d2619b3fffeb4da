/-! COUNTS OF RECORDS -/
theorem c_countKind {M : Mw} {β : Bw} {L : Lw} {b k j : Nat} (h : CRn b M β L k) (hlen : (rcs β L k).length ≤ 90) (hg : GB β L) (hj : j ≤ 7) : F_X4_countKind b (nI j) M = some (nI ((rcs β L k).countP (fun r => decide (r.2.1 = j)))) := by
  obtain ⟨c1, c2⟩ := whole_rec h
  exact cnt_loop (z := fun _ _ => none) (B := B_X4_countKind_4 b (nI j) M) (R := rcs β L k) (by omega) (fun kk i a r hr => by
    have hi := (List.getElem?_eq_some_iff.mp hr).1
    have hgr := (rcs_g hg k r (List.mem_of_getElem? hr)).1
    have h7 := hgr.2.2.1
    unfold B_X4_countKind_4
    rw [c1, if_neg (nI_ge hi (by omega)), if_pos (inb_nI (by omega) (by omega)), clampI (by omega), (c2 i r hr).2.1]
    by_cases c : r.2.1 = j
    · rw [if_pos (by rw [c]), if_pos (decide_eq_true c), bd_eq, bd_eq, nI_1, nI_1]
    · rw [if_neg (mt (nI_eq (by omega) (by omega)).mp c), if_neg (fun q => c (of_decide_eq_true q)), bd_eq, nI_1]
      rfl) (fun kk => by
    unfold B_X4_countKind_4
    rw [c1, if_pos (Int32.le_refl _)])
theorem ok_kinds : ∀ M : Mw, Inv M → ∀ a1 : Int32, ∃ (r1 : Int32) (r2 : Int32 × Mw), F_X9_kinds a1 M = some r1 ∧ F_X10_kinds a1 M = some r2 ∧ r1 = r2.1 ∧ Inv r2.2 := by
  intro M hM a1
  obtain ⟨β, L, h⟩ := hM
  have hx := h.2.1.1
  have h3 := hx.2.2.2.2.2.2.1
  have hH := hx.H
  unfold F_X9_kinds F_X10_kinds
  rw [h.2.1.2.1.c 3 (by omega), r_inLL a1 1 7 1 7 (by decide) (by decide), Option.bind_some]
  have hbad : ¬ (1 ≤ a1 ∧ a1 ≤ 7) → (if nI (β 0 0 3) = 0 then some (-2) else if a1 < 1 then some (-2) else if a1 ≤ 7 then (F_X4_countKind 0 a1 M).bind (fun v4 => some v4) else some (-2)) = some (-2) := by
    intro c
    by_cases z : nI (β 0 0 3) = 0
    · rw [if_pos z]
    rw [if_neg z]
    by_cases c1 : a1 < 1
    · rw [if_pos c1]
    · rw [if_neg c1, if_neg (fun q => c ⟨Int32.not_lt.mp c1, q⟩)]
  by_cases c : 1 ≤ a1 ∧ a1 ≤ 7
  case neg =>
    rw [hbad c, if_neg c, if_pos rfl]
    exact ⟨_, _, rfl, rfl, rfl, β, L, h⟩
  rw [if_pos c, if_neg (show ¬ (1 : Int32) = 0 by decide)]
  obtain ⟨j, hj, rfl⟩ : ∃ j : Nat, j ≤ 7 ∧ a1 = nI j := nI_of2 (M := 7) (by decide) (fun q => absurd (Int32.lt_of_lt_of_le q (show (0 : Int32) ≤ 1 by decide)) (Int32.not_lt.mpr c.1)) c.2
  rcases r_asks hx h.2.1.2.2 with ⟨hl, M2, q1, q2, q3, q4⟩ | ⟨hl, M2, q1, q2, q3⟩
  · have hlen := rn_len hx hl hH
    obtain ⟨d1, d2⟩ := ref_rec q2
    rw [if_neg (nI_ne0 hl (by omega)), if_neg (Int32.not_lt.mpr c.1), if_pos c.2, c_countKind h.2.2.1 hlen hx.1 hj, Option.bind_some, q1, Option.bind_some, if_neg (show ¬ (1 : Int32) = 0 by decide)]
    refine ⟨_, (nI ((rcs β L (β 0 0 0)).countP (fun r => decide (r.2.1 = j))), M2), rfl, ?_, rfl, β, L, h.i q3⟩
    have := cnt_loop (z := fun _ _ => none) (B := B_X10_kinds_26 (nI j) M2) (R := rcs β L (β 0 0 0)) (p := fun r => decide (r.2.1 = j)) (o := some (nI ((rcs β L (β 0 0 0)).countP (fun r => decide (r.2.1 = j))), M2)) (by omega) (fun kk i a r hr => by
      have hi := (List.getElem?_eq_some_iff.mp hr).1
      have h7 := (rcs_g hx.1 _ r (List.mem_of_getElem? hr)).1.2.2.1
      unfold B_X10_kinds_26
      rw [d1, if_neg (nI_ge hi (by omega)), if_pos (inb_nI (by omega) (by omega)), clampI (by omega), (d2 i r hr).2.1]
      by_cases c : r.2.1 = j
      · rw [if_pos (by rw [c]), if_pos (decide_eq_true c), bd_eq, bd_eq, nI_1, nI_1]
      · rw [if_neg (mt (nI_eq (by omega) (by omega)).mp c), if_neg (fun q => c (of_decide_eq_true q)), bd_eq, bd_eq, nI_1, Int32.add_zero]
        rfl) (fun kk => by
      unfold B_X10_kinds_26
      rw [d1, if_pos (Int32.le_refl _)])
    exact this
  · rw [if_pos (show nI (β 0 0 3) = 0 by rw [hl]; rfl), q1, Option.bind_some, if_pos (show (0 : Int32) = 0 from rfl)]
    exact ⟨_, _, rfl, rfl, rfl, β, L, h.i q2⟩
theorem cnt_led (R : List (Nat × Nat × Nat × Nat)) (h : ∀ r ∈ R, r.2.1 ≤ 7) : R.countP (fun r => decide (r.2.1 = 6)) + R.countP (fun r => decide (r.2.1 = 7)) = R.countP (fun r => decide (5 < r.2.1)) ∧ R.countP (fun r => decide (5 < r.2.1)) + R.countP (fun r => decide (¬ 5 < r.2.1)) = R.length := by
  induction R with
  | nil => exact ⟨rfl, rfl⟩
  | cons r R ih =>
    obtain ⟨i1, i2⟩ := ih (fun q hq => h q (List.mem_cons_of_mem _ hq))
    have h7 := h r List.mem_cons_self
    rw [List.countP_cons, List.countP_cons, List.countP_cons, List.countP_cons, List.length_cons]
    by_cases c6 : r.2.1 = 6
    · have a : decide (r.2.1 = 6) = true := decide_eq_true c6
      have b : ¬ decide (r.2.1 = 7) = true := fun q => by have := of_decide_eq_true q; omega
      have d : decide (5 < r.2.1) = true := decide_eq_true (by omega)
      have e : ¬ decide (¬ 5 < r.2.1) = true := fun q => (of_decide_eq_true q) (by omega)
      rw [if_pos a, if_neg b, if_pos d, if_neg e]
      omega
    by_cases c7 : r.2.1 = 7
    · have a : ¬ decide (r.2.1 = 6) = true := fun q => c6 (of_decide_eq_true q)
      have b : decide (r.2.1 = 7) = true := decide_eq_true c7
      have d : decide (5 < r.2.1) = true := decide_eq_true (by omega)
      have e : ¬ decide (¬ 5 < r.2.1) = true := fun q => (of_decide_eq_true q) (by omega)
      rw [if_neg a, if_pos b, if_pos d, if_neg e]
      omega
    · have a : ¬ decide (r.2.1 = 6) = true := fun q => c6 (of_decide_eq_true q)
      have b : ¬ decide (r.2.1 = 7) = true := fun q => c7 (of_decide_eq_true q)
      have d : ¬ decide (5 < r.2.1) = true := fun q => by have := of_decide_eq_true q; omega
      have e : decide (¬ 5 < r.2.1) = true := decide_eq_true (by omega)
      rw [if_neg a, if_neg b, if_neg d, if_pos e]
      omega
theorem ok_ledger : ∀ M : Mw, Inv M → ∀ a1 : Int32, ∃ (r1 : Int32) (r2 : Int32 × Mw), F_X9_ledger a1 M = some r1 ∧ F_X10_ledger a1 M = some r2 ∧ r1 = r2.1 ∧ Inv r2.2 := by
  intro M hM a1
  obtain ⟨β, L, h⟩ := hM
  have hx := h.2.1.1
  have h3 := hx.2.2.2.2.2.2.1
  have hH := hx.H
  unfold F_X9_ledger F_X10_ledger
  rw [h.2.1.2.1.c 3 (by omega), r_inLL a1 0 1 0 1 (by decide) (by decide), Option.bind_some]
  have hbad : ¬ (0 ≤ a1 ∧ a1 ≤ 1) → (if nI (β 0 0 3) = 0 then some (-2) else if a1 < 0 then some (-2) else if a1 ≤ 1 then (F_X4_countKind 0 6 M).bind (fun v4 => (F_X4_countKind 0 7 M).bind (fun v6 => bd (v4 + v6) (fun v8 => if a1 = 1 then some v8 else some ((M.1 26 0 0 1) - v8)))) else some (-2)) = some (-2) := by
    intro c
    by_cases z : nI (β 0 0 3) = 0
    · rw [if_pos z]
    rw [if_neg z]
    by_cases c1 : a1 < 0
    · rw [if_pos c1]
    · rw [if_neg c1, if_neg (fun q => c ⟨Int32.not_lt.mp c1, q⟩)]
  by_cases c : 0 ≤ a1 ∧ a1 ≤ 1
  case neg =>
    rw [hbad c, if_neg c, if_pos rfl]
    exact ⟨_, _, rfl, rfl, rfl, β, L, h⟩
  rw [if_pos c, if_neg (show ¬ (1 : Int32) = 0 by decide)]
  obtain ⟨j, hj, rfl⟩ : ∃ j : Nat, j ≤ 1 ∧ a1 = nI j := nI_of2 (M := 1) (by decide) (Int32.not_lt.mpr c.1) c.2
  rcases r_asks hx h.2.1.2.2 with ⟨hl, M2, q1, q2, q3, q4⟩ | ⟨hl, M2, q1, q2, q3⟩
  · have hlen := rn_len hx hl hH
    obtain ⟨d1, d2⟩ := ref_rec q2
    obtain ⟨e1, e2⟩ := cnt_led (rcs β L (β 0 0 0)) (fun r hr => (rcs_g hx.1 _ r hr).1.2.2.1)
    have k6 : F_X4_countKind 0 6 M = _ := c_countKind (j := 6) h.2.2.1 hlen hx.1 (by omega)
    have k7 : F_X4_countKind 0 7 M = _ := c_countKind (j := 7) h.2.2.1 hlen hx.1 (by omega)
    rw [if_neg (nI_ne0 hl (by omega)), if_neg (Int32.not_lt.mpr c.1), if_pos c.2, k6, Option.bind_some, k7, Option.bind_some, nI_add, e1, bd_eq, (whole_rec h.2.2.1).1, q1, Option.bind_some, if_neg (show ¬ (1 : Int32) = 0 by decide)]
    have hrun : ∀ (p : Nat × Nat × Nat × Nat → Bool), (∀ r, p r = decide ((5 < r.2.1) ↔ j = 1)) → it (fun _ _ => none) (B_X10_ledger_24 (nI j) M2) FU 0 0 = some (nI ((rcs β L (β 0 0 0)).countP p), M2) := by
      intro p hp
      exact cnt_loop (z := fun _ _ => none) (B := B_X10_ledger_24 (nI j) M2) (R := rcs β L (β 0 0 0)) (p := p) (by omega) (fun kk i a r hr => by
        have hi := (List.getElem?_eq_some_iff.mp hr).1
        have h7 := (rcs_g hx.1 _ r (List.mem_of_getElem? hr)).1.2.2.1
        unfold B_X10_ledger_24 B_X10_ledger_48 B_X10_ledger_58
        rw [d1, if_neg (nI_ge hi (by omega)), if_pos (inb_nI (by omega) (by omega)), clampI (by omega), (d2 i r hr).2.1, hp]
        simp only [bd_eq, nI_1, Int32.add_zero]
        rcases (by omega : j = 0 ∨ j = 1) with rfl | rfl
        · rw [if_neg (show ¬ nI 0 = 1 by decide), if_neg (show ¬ nI 0 = 1 by decide)]
          by_cases c5 : 5 < r.2.1
          · rw [if_neg (show ¬ nI r.2.1 ≤ 5 from nI_ge (a := 5) c5 (by omega)), if_neg (show ¬ (1 : Int32) = 0 by decide), if_neg (fun q => by have := of_decide_eq_true q; omega)]
            rfl
          · rw [if_pos (show nI r.2.1 ≤ 5 from nI_le (b := 5) (by omega) (by omega)), if_pos trivial, if_pos (decide_eq_true (by omega))]
        · rw [if_pos (show nI 1 = 1 by decide), if_pos (show nI 1 = 1 by decide)]
          by_cases c5 : 5 < r.2.1
          · rw [if_neg (show ¬ nI r.2.1 ≤ 5 from nI_ge (a := 5) c5 (by omega)), if_pos trivial, if_pos (decide_eq_true (by omega))]
          · rw [if_pos (show nI r.2.1 ≤ 5 from nI_le (b := 5) (by omega) (by omega)), if_neg (show ¬ (0 : Int32) = 1 by decide), if_neg (fun q => by have := of_decide_eq_true q; omega)]
            rfl) (fun kk => by
        unfold B_X10_ledger_24
        rw [d1, if_pos (Int32.le_refl _)])
    rcases (by omega : j = 0 ∨ j = 1) with rfl | rfl
    · refine ⟨_, (nI ((rcs β L (β 0 0 0)).countP (fun r => decide (¬ 5 < r.2.1))), M2), if_neg (show ¬ nI 0 = 1 by decide), hrun _ (fun r => ?_), ?_, β, L, h.i q3⟩
      · by_cases c5 : 5 < r.2.1
        · rw [decide_eq_false (fun q => q c5), decide_eq_false (fun q => absurd (q.mp c5) (by omega))]
        · rw [decide_eq_true c5, decide_eq_true ⟨fun q => absurd q c5, fun q => absurd q (by omega)⟩]
      · show nI (rcs β L (β 0 0 0)).length - _ = nI _
        rw [pk_sub (by omega), ← e2, Nat.add_sub_cancel_left]
    · refine ⟨_, (nI ((rcs β L (β 0 0 0)).countP (fun r => decide (5 < r.2.1))), M2), if_pos (show nI 1 = 1 by decide), hrun _ (fun r => ?_), rfl, β, L, h.i q3⟩
      by_cases c5 : 5 < r.2.1
      · rw [decide_eq_true c5, decide_eq_true ⟨fun _ => rfl, fun _ => c5⟩]
      · rw [decide_eq_false c5, decide_eq_false (fun q => c5 (q.mpr rfl))]
  · rw [if_pos (show nI (β 0 0 3) = 0 by rw [hl]; rfl), q1, Option.bind_some, if_pos (show (0 : Int32) = 0 from rfl)]
    exact ⟨_, _, rfl, rfl, rfl, β, L, h.i q2⟩
/-- those ahead of a tick -/
theorem cnt_ahead {β : Bw} {L : Lw} (hg : GB β L) {k H : Nat} (hk : k ≤ H) (q : Nat × Nat × Nat × Nat → Bool) : (rcs β L H).countP (fun r => q r && decide (r.1 < k)) = (rcs β L k).countP q := by
  obtain ⟨X, e, hX⟩ := rcs_d hg k (L := L) (H - k)
  rw [show k + (H - k) = H by omega] at e
  rw [e, List.countP_append]
  have e1 : (rcs β L k).countP (fun r => q r && decide (r.1 < k)) = (rcs β L k).countP q := List.countP_congr (fun r hr => by
    have := (rcs_g hg k r hr).2
    rw [decide_eq_true this, Bool.and_true])
  have e2 : X.countP (fun r => q r && decide (r.1 < k)) = 0 := List.countP_eq_zero.mpr (fun r hr => by
    have := (hX r hr).1
    rw [decide_eq_false (show ¬ r.1 < k by omega), Bool.and_false]
    decide)
  rw [e1, e2]
  rfl
theorem ok_faults : ∀ M : Mw, Inv M → ∀ a1 : Int32, ∃ (r1 : Int32) (r2 : Int32 × Mw), F_X9_faults a1 M = some r1 ∧ F_X10_faults a1 M = some r2 ∧ r1 = r2.1 ∧ Inv r2.2 := by
  intro M hM a1
  obtain ⟨β, L, h⟩ := hM
  have hx := h.2.1.1
  have hH := hx.H
  unfold F_X9_faults F_X10_faults
  rcases tick_cases h.2.1 a1 with ⟨k1, k2⟩ | ⟨hl, k, hk, rfl, k1, k2⟩
  · rw [k1, Option.bind_some, if_pos rfl, k2 M h.2.1.2.2, Option.bind_some, if_pos (show (0 : Int32) = 0 from rfl)]
    exact ⟨_, _, rfl, rfl, rfl, β, L, h⟩
  · obtain ⟨M2, q1, q2, q3⟩ := k2 M h.2.1.2.2
    obtain ⟨c1, c2⟩ := whole_rec h.2.2.1
    have hlen := rn_len hx hl hH
    have hc := cnt_ahead hx.1 hk (L := L) (fun _ => true)
    rw [List.countP_true] at hc
    have := cnt_loop (z := fun _ _ => none) (B := B_X4_countAhead_4 0 (nI k) M) (R := rcs β L (β 0 0 0)) (p := fun r => true && decide (r.1 < k)) (o := some (nI ((rcs β L (β 0 0 0)).countP (fun r => true && decide (r.1 < k))))) (by omega) (fun kk i a r hr => by
      have hi := (List.getElem?_eq_some_iff.mp hr).1
      have h7 := (rcs_g hx.1 _ r (List.mem_of_getElem? hr)).2
      unfold B_X4_countAhead_4
      rw [c1, if_neg (nI_ge hi (by omega)), if_pos (inb_nI (by omega) (by omega)), clampI (by omega), (c2 i r hr).1, Bool.true_and]
      by_cases c : r.1 < k
      · rw [if_neg (nI_ge c (by omega)), if_pos (decide_eq_true c), bd_eq, bd_eq, nI_1, nI_1]
      · rw [if_pos (nI_le (by omega) (by omega)), if_neg (fun q => c (of_decide_eq_true q)), bd_eq, nI_1]
        rfl) (fun kk => by
      unfold B_X4_countAhead_4
      rw [c1, if_pos (Int32.le_refl _)])
    have hF : F_X4_countAhead 0 (nI k) M = _ := this
    rw [k1, Option.bind_some, if_neg (show ¬ (1 : Int32) = 0 by decide), hF, Option.bind_some, q1, Option.bind_some, if_neg (show ¬ (1 : Int32) = 0 by decide), hc]
    exact ⟨_, _, rfl, rfl, (ref_rec q2).1.symm, β, L, h.i q3⟩
theorem ok_levels : ∀ M : Mw, Inv M → ∀ a1 a2 : Int32, ∃ (r1 : Int32) (r2 : Int32 × Mw), F_X9_levels a1 a2 M = some r1 ∧ F_X10_levels a1 a2 M = some r2 ∧ r1 = r2.1 ∧ Inv r2.2 := by
  intro M hM a1 a2
  obtain ⟨β, L, h⟩ := hM
  have hx := h.2.1.1
  have hH := hx.H
  unfold F_X9_levels F_X10_levels
  rw [r_inLL a1 0 3 0 3 (by decide) (by decide), Option.bind_some]
  rcases tick_cases h.2.1 a2 with ⟨k1, k2⟩ | ⟨hl, k, hk, rfl, k1, k2⟩
  · rw [k1, Option.bind_some, if_pos rfl, k2 M h.2.1.2.2, Option.bind_some, if_pos (show (0 : Int32) = 0 from rfl)]
    by_cases c : 0 ≤ a1 ∧ a1 ≤ 3
    · rw [if_pos c, if_neg (show ¬ (1 : Int32) = 0 by decide)]
      exact ⟨_, _, rfl, rfl, rfl, β, L, h⟩
    · rw [if_neg c, if_pos (show (0 : Int32) = 0 from rfl)]
      exact ⟨_, _, rfl, rfl, rfl, β, L, h⟩
  rw [k1, Option.bind_some, if_neg (show ¬ (1 : Int32) = 0 by decide)]
  by_cases c : 0 ≤ a1 ∧ a1 ≤ 3
  case neg =>
    rw [if_neg c, if_pos (show (0 : Int32) = 0 from rfl)]
    by_cases c1 : a1 < 0
    · rw [if_pos c1]
      exact ⟨_, _, rfl, rfl, rfl, β, L, h⟩
    · rw [if_neg c1, if_neg (fun q => c ⟨Int32.not_lt.mp c1, q⟩)]
      exact ⟨_, _, rfl, rfl, rfl, β, L, h⟩
  rw [if_pos c, if_neg (show ¬ (1 : Int32) = 0 by decide), if_neg (Int32.not_lt.mpr c.1), if_pos c.2]
  obtain ⟨j, hj, rfl⟩ : ∃ j : Nat, j ≤ 3 ∧ a1 = nI j := nI_of2 (M := 3) (by decide) (Int32.not_lt.mpr c.1) c.2
  obtain ⟨M2, q1, q2, q3⟩ := k2 M h.2.1.2.2
  obtain ⟨c1, c2⟩ := whole_rec h.2.2.1
  obtain ⟨d1, d2⟩ := ref_rec q2
  have hlen := rn_len hx hl hH
  have hlen2 := rn_len hx hl (show k ≤ 200 by omega)
  have hc := cnt_ahead hx.1 hk (L := L) (fun r => decide (r.2.2.2 = j))
  have h1 := cnt_loop (z := fun _ _ => none) (B := B_X4_countLevelAhead_5 0 (nI j) (nI k) M) (R := rcs β L (β 0 0 0)) (p := fun r => decide (r.2.2.2 = j) && decide (r.1 < k)) (o := some (nI ((rcs β L (β 0 0 0)).countP (fun r => decide (r.2.2.2 = j) && decide (r.1 < k))))) (by omega) (fun kk i a r hr => by
    have hi := (List.getElem?_eq_some_iff.mp hr).1
    obtain ⟨hgr, h7⟩ := rcs_g hx.1 _ r (List.mem_of_getElem? hr)
    have h8 := hgr.2.2.2.2.2
    have hin : inb (nI i) 128 = true := inb_nI (by omega) (by omega)
    unfold B_X4_countLevelAhead_5
    rw [c1, if_neg (nI_ge hi (by omega)), if_pos hin, clampI (by omega), (c2 i r hr).2.2.2, if_pos hin, (c2 i r hr).1]
    by_cases cl : r.2.2.2 = j
    · rw [if_pos (by rw [cl]), decide_eq_true cl, Bool.true_and]
      by_cases ct : r.1 < k
      · rw [if_neg (nI_ge ct (by omega)), if_pos (decide_eq_true ct), bd_eq, bd_eq, nI_1, nI_1]
      · rw [if_pos (nI_le (by omega) (by omega)), if_neg (fun q => ct (of_decide_eq_true q)), bd_eq, nI_1]
        rfl
    · rw [if_neg (mt (nI_eq (by omega) (by omega)).mp cl), decide_eq_false cl, Bool.false_and, if_neg (by decide), bd_eq, nI_1]
      rfl) (fun kk => by
    unfold B_X4_countLevelAhead_5
    rw [c1, if_pos (Int32.le_refl _)])
  have h2 := cnt_loop (z := fun _ _ => none) (B := B_X10_levels_28 (nI j) M2) (R := rcs β L k) (p := fun r => decide (r.2.2.2 = j)) (o := some (nI ((rcs β L k).countP (fun r => decide (r.2.2.2 = j))), M2)) (by omega) (fun kk i a r hr => by
    have hi := (List.getElem?_eq_some_iff.mp hr).1
    obtain ⟨hgr, h7⟩ := rcs_g hx.1 _ r (List.mem_of_getElem? hr)
    have h8 := hgr.2.2.2.2.2
    unfold B_X10_levels_28
    rw [d1, if_neg (nI_ge hi (by omega)), if_pos (inb_nI (by omega) (by omega)), clampI (by omega), (d2 i r hr).2.2.2]
    by_cases cl : r.2.2.2 = j
    · rw [if_pos (by rw [cl]), if_pos (decide_eq_true cl), bd_eq, bd_eq, nI_1, nI_1]
    · rw [if_neg (mt (nI_eq (by omega) (by omega)).mp cl), if_neg (fun q => cl (of_decide_eq_true q)), bd_eq, bd_eq, nI_1, Int32.add_zero]
      rfl) (fun kk => by
    unfold B_X10_levels_28
    rw [d1, if_pos (Int32.le_refl _)])
  have h1' : F_X4_countLevelAhead 0 (nI j) (nI k) M = _ := h1
  rw [h1', Option.bind_some, q1, Option.bind_some, if_neg (show ¬ (1 : Int32) = 0 by decide), hc]
  exact ⟨_, _, rfl, h2, rfl, β, L, h.i q3⟩
