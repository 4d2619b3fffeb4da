/-! LONGEST, SILENT -/
theorem r_nodesOf {M : Mw} {β : Bw} {L : Lw} (hw : RWd (M.1 51 0 0) β L) {t : Nat} (ht : t < β 0 0 5) (hT5 : β 0 0 5 ≤ 5) : F_X10_nodesOf (nI t) M = some (nI (β 4 t 6)) := by
  have h := r_told (M := M) (t := t) (p := 6) (by omega) (by omega)
  have h2 : F_X10_toldOf (nI t) 6 M = some (M.1 51 0 0 (11 + 7 * t + 6)) := h
  unfold F_X10_nodesOf
  rw [h2, Option.bind_some, hw.2.1 t ht 6 (by omega)]
theorem r_extrasN {M0 M : Mw} {β : Bw} {L : Lw} (hx : Gx β L) {t kd j : Nat} (ht : t < β 0 0 5) (hk : kd < 5) (hj : j < cnt β L (β 0 0 0) t) (hj50 : j ≤ 50) (k54 : Int32 → Mw → Option (Int32 × Mw)) {p : Nat × Nat} (hP : PR M0 β L M p) :
    ∃ M', it (fun _ _ => none) (B_X10_asksExtras_63 k54 (nI t) (nI kd) (nI (min 51 (cnt β L (β 0 0 0) t))) (nI j)) FU 0 M = k54 (nI (j + 1)) M' ∧ PR M0 β L M' (exJ β L t kd j p (exN β t kd)) := by
  have hT5 := hx.1.1.2.2.2.2
  have hN6 : exN β t kd ≤ 6 := by
    unfold exN
    by_cases c : kd = 4
    · rw [if_pos c]; omega
    · rw [if_neg c]; exact (hx.1.2.2.2.1 t ht).2.2.2.2.2.2.2.2.2
  have e79 : ∀ (k63 : Int32 → Mw → Option (Int32 × Mw)) (n : Nat) (M1 : Mw), RWd (M1.1 51 0 0) β L → B_X10_asksExtras_63 k54 (nI t) (nI kd) (nI (min 51 (cnt β L (β 0 0 0) t))) (nI j) k63 (nI n) M1 = B_X10_asksExtras_79 k54 k63 (nI t) (nI kd) (nI (min 51 (cnt β L (β 0 0 0) t))) (nI j) (nI n) (nI (exN β t kd)) (nI n) M1 := by
    intro k63 n M1 hw
    unfold B_X10_asksExtras_63 exN
    by_cases c : kd = 4
    · rw [if_pos (show nI kd = 4 by rw [c]; rfl), if_pos c]
      rfl
    · rw [if_neg (show ¬ nI kd = 4 from mt (nI_eq (b := 4) (by omega) (by omega)).mp c), if_neg c, r_nodesOf hw ht hT5, Option.bind_some]
  have key := it_for (z := fun _ _ => none) (B := B_X10_asksExtras_63 k54 (nI t) (nI kd) (nI (min 51 (cnt β L (β 0 0 0) t))) (nI j)) (n := exN β t kd)
    (P := fun n M1 => PR M0 β L M1 (exJ β L t kd j p n))
    (Q := fun o => ∃ M', o = k54 (nI (j + 1)) M' ∧ PR M0 β L M' (exJ β L t kd j p (exN β t kd)))
    (fun kk n M1 hn hP => by
      left
      have hn4 : kd ≠ 4 → n < β 4 t 6 := fun c => by
        unfold exN at hn
        rw [if_neg c] at hn
        exact hn
      obtain ⟨M2, q1, q2⟩ := r_extra hx ht hk hj hj50 hn4 hP
      rw [e79 kk n M1 hP.1]
      unfold B_X10_asksExtras_79
      rw [if_neg (nI_ge hn (by omega))]
      by_cases c : kd = 4
      · rw [if_pos c] at q1
        rw [if_pos (show nI kd = 4 by rw [c]; rfl), q1, Option.bind_some, bd_eq, nI_1]
        exact ⟨M2, rfl, q2⟩
      · rw [if_neg c] at q1
        rw [if_neg (show ¬ nI kd = 4 from mt (nI_eq (b := 4) (by omega) (by omega)).mp c), q1, Option.bind_some, bd_eq, nI_1]
        exact ⟨M2, rfl, q2⟩)
    (fun kk M1 hP => by
      rw [e79 kk _ M1 hP.1]
      unfold B_X10_asksExtras_79
      rw [if_pos (Int32.le_refl _), bd_eq, nI_1]
      exact ⟨M1, rfl, hP⟩)
    FU 0 M (Nat.zero_le _) (by unfold FU; omega) hP
  rw [nI_0] at key
  exact key
theorem r_extras {M : Mw} {β : Bw} {L : Lw} (h : InvB M β L) {t kd : Nat} (ht : t < β 0 0 5) (hk : kd < 5) : ∃ M', F_X10_asksExtras (nI t) (nI kd) M = some (1, M') ∧ InvB M' β L ∧ M'.1 50 0 0 60 = nI (exT β L t kd).1 + (-1) ∧ M'.1 50 0 0 61 = nI (exT β L t kd).2 := by
  have hx := h.2.1.1
  have hT5 := hx.1.1.2.2.2.2
  have hl := hx.tp ht
  have hH := hx.H
  have hv : cnt β L (β 0 0 0) t ≤ 1000 := by
    obtain ⟨k', kk1, kk2⟩ := rn_ivs hx hl hH
    have := kk2.2 t ht
    unfold cnt
    omega
  have htask : F_X10_isTask (nI t) M = some 1 := by
    rcases task_cases h.2.1 (nI t) with ⟨t1, t2⟩ | ⟨t', ht', e, t1, t2⟩
    · exfalso
      rw [c_hasTask (h.2.1.2.1.c 5 (by omega)) hT5, if_pos (rng_in ht (by omega))] at t1
      cases t1
    · exact t2 M h.2.1.2.2
  have hin : F_X10_in (nI kd).toInt64 0 4 M = some 1 := by
    rw [r_in0n _ (n := 4) (by omega) (by decide), if_pos (show ¬ nI kd < 0 ∧ nI kd < nI (4 + 1) from rng_in hk (by omega))]
  unfold F_X10_asksExtras
  rw [htask, Option.bind_some, if_neg (show ¬ (1 : Int32) = 0 by decide), hin, Option.bind_some, if_neg (show ¬ (1 : Int32) = 0 by decide)]
  rcases r_asks hx h.2.1.2.2 with ⟨-, M2, q1, q2, q3, q4⟩ | ⟨q, -⟩
  case inr => omega
  have h66 : M2.1 66 0 0 t = nI (cnt β L (β 0 0 0) t) := by
    have hR := q2.2.1 t ht
    rw [hR.2.1, rv_f (by decide) (by decide)]
  rw [q1, Option.bind_some, if_neg (show ¬ (1 : Int32) = 0 by decide), if_pos (inb_nI (by omega) (by omega)), clampI (by omega)]
  show ∃ M', (bd (if M2.1 66 0 0 t < 51 then M2.1 66 0 0 t else 51) (fun v11 => (bd (uIw M2 50 0 0 60 (-1)) (fun M12 => (bd (uIw M12 50 0 0 61 0) (fun M13 => (it (fun _ _ => none) (B_X10_asksExtras_54 (nI t) (nI kd) v11) FU 0 M13))))))) = some (1, M') ∧ _
  have emin : (if M2.1 66 0 0 t < 51 then M2.1 66 0 0 t else 51) = nI (min 51 (cnt β L (β 0 0 0) t)) := by
    rw [h66]
    by_cases c : cnt β L (β 0 0 0) t < 51
    · rw [if_pos (show nI (cnt β L (β 0 0 0) t) < 51 from nI_lt (b := 51) c (by omega)), Nat.min_eq_right (by omega)]
    · rw [if_neg (show ¬ nI (cnt β L (β 0 0 0) t) < 51 from nI_nlt (b := 51) (by omega) (by omega)), Nat.min_eq_left (by omega)]
      rfl
  rw [emin, bd_eq, bd_eq, bd_eq]
  have h2 := h.i q3
  obtain ⟨M13, hM13⟩ : ∃ M13, M13 = uIw (uIw M2 50 0 0 60 (-1)) 50 0 0 61 0 := ⟨_, rfl⟩
  have hF13 : Fr SRx M2 M13 := by
    rw [hM13]
    exact (Fr.uI (S := SRx) (Or.inl rfl)).trans (Fr.uI (S := SRx) (Or.inl rfl))
  have e50 : ∀ i, i = 5 ∨ i = 12 ∨ i = 13 → M13.1 50 0 0 i = M2.1 50 0 0 i := fun i hi => by rw [hM13, uI1, if_neg (fun q => by omega), uI1, if_neg (fun q => by omega)]
  have hP0 : PR M2 β L M13 (0, 0) := by
    refine ⟨?_, ?_, ?_, Nat.zero_le _, hF13, e50 5 (by omega), e50 12 (by omega), e50 13 (by omega)⟩
    · rw [show M13.1 51 = M2.1 51 by rw [hM13, uI_k (by decide), uI_k (by decide)]]
      exact h2.2.1.2.2
    · rw [hM13, uI1, if_neg (fun q => by omega), uI1, if_pos ⟨rfl, rfl, rfl, rfl⟩]
      show (-1 : Int32) = nI 0 + (-1)
      decide
    · rw [hM13, uI1, if_pos ⟨rfl, rfl, rfl, rfl⟩]
      rfl
  rw [← hM13]
  have key := it_for (z := fun _ _ => none) (B := B_X10_asksExtras_54 (nI t) (nI kd) (nI (min 51 (cnt β L (β 0 0 0) t)))) (n := min 51 (cnt β L (β 0 0 0) t))
    (P := fun j M1 => PR M2 β L M1 (exA β L t kd j))
    (Q := fun o => ∃ M', o = some (1, M') ∧ PR M2 β L M' (exT β L t kd))
    (fun kk j M1 hj hP => by
      left
      obtain ⟨M3, r1, r2⟩ := r_extrasN hx ht hk (show j < cnt β L (β 0 0 0) t by omega) (show j ≤ 50 by omega) kk hP
      unfold B_X10_asksExtras_54
      rw [if_neg (nI_ge hj (by omega))]
      exact ⟨M3, r1, r2⟩)
    (fun kk M1 hP => by
      unfold B_X10_asksExtras_54
      rw [if_pos (Int32.le_refl _)]
      exact ⟨M1, rfl, hP⟩)
    FU 0 M13 (Nat.zero_le _) (by unfold FU; omega) hP0
  rw [nI_0] at key
  obtain ⟨M', k1, k2, k3, k4, k5, k6, k7, k8, k9⟩ := key
  exact ⟨M', k1, h2.r k6 k7 k8 k9 k2, k3, k4⟩
theorem ex_cases {M : Mw} {β : Bw} {L : Lw} (h : InvB M β L) (a1 a2 : Int32) : (F_X9_longest a1 a2 M = some ((-2), M) ∧ F_X9_silent a1 a2 M = some ((-2), M) ∧ ∃ M2, F_X10_asksExtras a1 a2 M = some (0, M2) ∧ InvB M2 β L) ∨
    (∃ t kd M1 M2, t < β 0 0 5 ∧ kd < 5 ∧ F_X9_longest a1 a2 M = some (nI (exT β L t kd).1 + (-1), M1) ∧ F_X9_silent a1 a2 M = some (nI (exT β L t kd).2, M1) ∧ F_X10_asksExtras a1 a2 M1 = some (1, M2) ∧ InvB M2 β L ∧ M2.1 50 0 0 60 = nI (exT β L t kd).1 + (-1) ∧ M2.1 50 0 0 61 = nI (exT β L t kd).2) := by
  have hx := h.2.1.1
  have hT5 := hx.1.1.2.2.2.2
  unfold F_X9_longest F_X9_silent
  rcases task_cases h.2.1 a1 with ⟨t1, t2⟩ | ⟨t, ht, rfl, t1, t2⟩
  · left
    rw [t1, Option.bind_some, Option.bind_some, if_pos rfl, if_pos rfl]
    refine ⟨rfl, rfl, M, ?_, h⟩
    unfold F_X10_asksExtras
    rw [t2 M h.2.1.2.2, Option.bind_some, if_pos rfl]
  rw [t1, Option.bind_some, Option.bind_some, if_neg (show ¬ (1 : Int32) = 0 by decide), if_neg (show ¬ (1 : Int32) = 0 by decide)]
  rcases rng_cases a2 (show 5 < 2 ^ 31 by decide) with ⟨kd, hk, rfl⟩ | c
  · right
    obtain ⟨M1, p1, p2, p3, p4⟩ := c_probe h ht hk
    obtain ⟨M2, r1, r2, r3, r4⟩ := r_extras p2 ht hk
    refine ⟨t, kd, M1, M2, ht, hk, ?_, ?_, r1, r2, r3, r4⟩
    · rw [if_neg (nI_pos (by omega)), if_pos (show nI kd ≤ 4 from nI_le (b := 4) (by omega) (by omega)), p1, Option.bind_some, if_pos (inb_nI (by omega) (by omega)), if_pos (inb_nI hk (by omega)), clampI (by omega), clampI (by omega), p4]
    · rw [if_neg (nI_pos (by omega)), if_pos (show nI kd ≤ 4 from nI_le (b := 4) (by omega) (by omega)), p1, Option.bind_some, if_pos (inb_nI (by omega) (by omega)), if_pos (inb_nI hk (by omega)), clampI (by omega), clampI (by omega), p3]
  · left
    have e : ∀ A : Option (Int32 × Mw), (if a2 < 0 then some ((-2), M) else (if a2 ≤ 4 then A else some ((-2), M))) = some ((-2 : Int32), M) := by
      intro A
      by_cases c1 : a2 < 0
      · rw [if_pos c1]
      · rw [if_neg c1, if_neg (show ¬ a2 ≤ 4 from fun q => c ⟨c1, (le_pred a2 (n := 4) (by omega)).mp q⟩)]
    rw [e, e]
    refine ⟨rfl, rfl, M, ?_, h⟩
    unfold F_X10_asksExtras
    rw [t2 M h.2.1.2.2, Option.bind_some, if_neg (show ¬ (1 : Int32) = 0 by decide), r_in0n _ (n := 4) (by omega) (by decide), if_neg c, Option.bind_some, if_pos rfl]
theorem ok_longest : ∀ M : Mw, Inv M → ∀ a1 a2 : Int32, ∃ (r1 : Int32 × Mw) (r2 : Int32 × Mw), F_X9_longest a1 a2 M = some r1 ∧ F_X10_longest a1 a2 r1.2 = some r2 ∧ r1.1 = r2.1 ∧ Inv r2.2 := by
  intro M hM a1 a2
  obtain ⟨β, L, h⟩ := hM
  rcases ex_cases h a1 a2 with ⟨q1, -, M2, q2, q3⟩ | ⟨t, kd, M1, M2, ht, hk, q1, -, q2, q3, q4, q5⟩
  · refine ⟨_, ((-2), M2), q1, ?_, rfl, β, L, q3⟩
    show F_X10_longest a1 a2 M = _
    unfold F_X10_longest
    rw [q2, Option.bind_some, if_pos rfl]
  · refine ⟨_, (nI (exT β L t kd).1 + (-1), M2), q1, ?_, rfl, β, L, q3⟩
    show F_X10_longest a1 a2 M1 = _
    unfold F_X10_longest
    rw [q2, Option.bind_some, if_neg (show ¬ (1 : Int32) = 0 by decide), q4]
theorem ok_silent : ∀ M : Mw, Inv M → ∀ a1 a2 : Int32, ∃ (r1 : Int32 × Mw) (r2 : Int32 × Mw), F_X9_silent a1 a2 M = some r1 ∧ F_X10_silent a1 a2 r1.2 = some r2 ∧ r1.1 = r2.1 ∧ Inv r2.2 := by
  intro M hM a1 a2
  obtain ⟨β, L, h⟩ := hM
  rcases ex_cases h a1 a2 with ⟨-, q1, M2, q2, q3⟩ | ⟨t, kd, M1, M2, ht, hk, -, q1, q2, q3, q4, q5⟩
  · refine ⟨_, ((-2), M2), q1, ?_, rfl, β, L, q3⟩
    show F_X10_silent a1 a2 M = _
    unfold F_X10_silent
    rw [q2, Option.bind_some, if_pos rfl]
  · refine ⟨_, (nI (exT β L t kd).2, M2), q1, ?_, rfl, β, L, q3⟩
    show F_X10_silent a1 a2 M1 = _
    unfold F_X10_silent
    rw [q2, Option.bind_some, if_neg (show ¬ (1 : Int32) = 0 by decide), q5]
