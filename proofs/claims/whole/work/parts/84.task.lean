/-! THE QUESTIONS ABOUT A TASK AT A TICK -/
theorem ok_kicks : ∀ M : Mw, Inv M → ∀ a1 a2 : Int32, ∃ (r1 : Int32 × Mw) (r2 : Int32 × Mw), F_X9_kicks a1 a2 M = some r1 ∧ F_X10_kicks a1 a2 r1.2 = some r2 ∧ r1.1 = r2.1 ∧ Inv r2.2 := by
  intro M hM a1 a2
  obtain ⟨β, L, h⟩ := hM
  have hT5 := h.2.1.1.1.1.2.2.2.2
  have hH := h.2.1.1.H
  unfold F_X9_kicks F_X10_kicks
  rcases task_q h a1 a2 with ⟨q1, M', q2, q3⟩ | ⟨t, k, ht, hk, hl, rfl, q1, M1, M2, q2, q3, q4, q5, q6⟩
  · rw [q1, Option.bind_some, if_pos rfl]
    refine ⟨_, ((-2), M'), rfl, ?_, rfl, q3⟩
    show (F_X10_asksOf a1 a2 M).bind _ = _
    rw [q2, Option.bind_some, if_pos (show (0 : Int32) = 0 from rfl)]
  have hin : inb (nI t) 5 = true := inb_nI (by omega) (by omega)
  have hc : (nI t).toNatClampNeg = t := clampI (by omega)
  have hC := q3.2.1 t ht
  have hR := q5.2.1 t ht
  rw [q1, Option.bind_some, if_neg (by decide), q2, Option.bind_some, hc]
  refine ⟨_, (nI ((rn β L k).1.1.1 t 12), M2), rfl, ?_, ?_, q6⟩
  · show (F_X10_asksOf (nI t) a2 M1).bind _ = _
    rw [q4, Option.bind_some, if_neg (show ¬ (1 : Int32) = 0 by decide), if_pos hin]
    show some (M2.1 77 0 0 t, M2) = _
    rw [hR.2.2.2.2.2.2.2.2.2.2.2.1, rv_f (show 12 ≠ 9 by decide) (by decide)]
  · show M1.1 25 1 t 12 = _
    rw [hC.2.2.2.2.2.2.2.2.2.2.1]
theorem ok_kicked : ∀ M : Mw, Inv M → ∀ a1 a2 : Int32, ∃ (r1 : Int32 × Mw) (r2 : Int32 × Mw), F_X9_kicked a1 a2 M = some r1 ∧ F_X10_kicked a1 a2 r1.2 = some r2 ∧ r1.1 = r2.1 ∧ Inv r2.2 := by
  intro M hM a1 a2
  obtain ⟨β, L, h⟩ := hM
  have hT5 := h.2.1.1.1.1.2.2.2.2
  have hH := h.2.1.1.H
  unfold F_X9_kicked F_X10_kicked
  rcases task_q h a1 a2 with ⟨q1, M', q2, q3⟩ | ⟨t, k, ht, hk, hl, rfl, q1, M1, M2, q2, q3, q4, q5, q6⟩
  · rw [q1, Option.bind_some, if_pos rfl]
    refine ⟨_, ((-2), M'), rfl, ?_, rfl, q3⟩
    show (F_X10_asksOf a1 a2 M).bind _ = _
    rw [q2, Option.bind_some, if_pos (show (0 : Int32) = 0 from rfl)]
  have hin : inb (nI t) 5 = true := inb_nI (by omega) (by omega)
  have hc : (nI t).toNatClampNeg = t := clampI (by omega)
  have hC := q3.2.1 t ht
  have hR := q5.2.1 t ht
  rw [q1, Option.bind_some, if_neg (by decide), q2, Option.bind_some, hc]
  refine ⟨_, (nI ((rn β L k).1.1.1 t 13) + (-1), M2), rfl, ?_, ?_, q6⟩
  · show (F_X10_asksOf (nI t) a2 M1).bind _ = _
    rw [q4, Option.bind_some, if_neg (show ¬ (1 : Int32) = 0 by decide), if_pos hin]
    show some (M2.1 78 0 0 t, M2) = _
    rw [hR.2.2.2.2.2.2.2.2.2.2.2.2.1, rv_f (show 13 ≠ 9 by decide) (by decide)]
  · show M1.1 25 1 t 13 = _
    rw [hC.2.2.2.2.2.2.2.2.2.2.2.1]
theorem ok_jobs : ∀ M : Mw, Inv M → ∀ a1 a2 : Int32, ∃ (r1 : Int32 × Mw) (r2 : Int32 × Mw), F_X9_jobs a1 a2 M = some r1 ∧ F_X10_jobs a1 a2 r1.2 = some r2 ∧ r1.1 = r2.1 ∧ Inv r2.2 := by
  intro M hM a1 a2
  obtain ⟨β, L, h⟩ := hM
  have hT5 := h.2.1.1.1.1.2.2.2.2
  have hH := h.2.1.1.H
  unfold F_X9_jobs F_X10_jobs
  rcases task_q h a1 a2 with ⟨q1, M', q2, q3⟩ | ⟨t, k, ht, hk, hl, rfl, q1, M1, M2, q2, q3, q4, q5, q6⟩
  · rw [q1, Option.bind_some, if_pos rfl]
    refine ⟨_, ((-2), M'), rfl, ?_, rfl, q3⟩
    show (F_X10_asksOf a1 a2 M).bind _ = _
    rw [q2, Option.bind_some, if_pos (show (0 : Int32) = 0 from rfl)]
  have hin : inb (nI t) 5 = true := inb_nI (by omega) (by omega)
  have hc : (nI t).toNatClampNeg = t := clampI (by omega)
  have hC := q3.2.1 t ht
  have hR := q5.2.1 t ht
  rw [q1, Option.bind_some, if_neg (by decide), q2, Option.bind_some, hc]
  refine ⟨_, (nI ((rn β L k).1.1.1 t 1), M2), rfl, ?_, ?_, q6⟩
  · show (F_X10_asksOf (nI t) a2 M1).bind _ = _
    rw [q4, Option.bind_some, if_neg (show ¬ (1 : Int32) = 0 by decide), if_pos hin]
    show some (M2.1 66 0 0 t, M2) = _
    rw [hR.2.1, rv_f (show 1 ≠ 9 by decide) (by decide)]
  · show M1.1 25 1 t 1 = _
    rw [hC.2.1]
theorem ok_question : ∀ M : Mw, Inv M → ∀ a1 a2 : Int32, ∃ (r1 : Int32 × Mw) (r2 : Int32 × Mw), F_X9_question a1 a2 M = some r1 ∧ F_X10_question a1 a2 r1.2 = some r2 ∧ r1.1 = r2.1 ∧ Inv r2.2 := by
  intro M hM a1 a2
  obtain ⟨β, L, h⟩ := hM
  have hT5 := h.2.1.1.1.1.2.2.2.2
  have hH := h.2.1.1.H
  unfold F_X9_question F_X10_question
  rcases task_q h a1 a2 with ⟨q1, M', q2, q3⟩ | ⟨t, k, ht, hk, hl, rfl, q1, M1, M2, q2, q3, q4, q5, q6⟩
  · rw [q1, Option.bind_some, if_pos rfl]
    refine ⟨_, ((-2), M'), rfl, ?_, rfl, q3⟩
    show (F_X10_asksOf a1 a2 M).bind _ = _
    rw [q2, Option.bind_some, if_pos (show (0 : Int32) = 0 from rfl)]
  have hin : inb (nI t) 5 = true := inb_nI (by omega) (by omega)
  have hc : (nI t).toNatClampNeg = t := clampI (by omega)
  have hC := q3.2.1 t ht
  have hR := q5.2.1 t ht
  rw [q1, Option.bind_some, if_neg (by decide), q2, Option.bind_some, hc]
  refine ⟨_, (nI ((rn β L k).1.1.1 t 6), M2), rfl, ?_, ?_, q6⟩
  · show (F_X10_asksOf (nI t) a2 M1).bind _ = _
    rw [q4, Option.bind_some, if_neg (show ¬ (1 : Int32) = 0 by decide), if_pos hin]
    show some (M2.1 69 0 0 t, M2) = _
    rw [hR.2.2.2.2.2.2.1, rv_f (show 6 ≠ 9 by decide) (by decide)]
  · show M1.1 25 1 t 6 = _
    rw [hC.2.2.2.2.2.1]
theorem ok_start : ∀ M : Mw, Inv M → ∀ a1 a2 : Int32, ∃ (r1 : Int32 × Mw) (r2 : Int32 × Mw), F_X9_start a1 a2 M = some r1 ∧ F_X10_start a1 a2 r1.2 = some r2 ∧ r1.1 = r2.1 ∧ Inv r2.2 := by
  intro M hM a1 a2
  obtain ⟨β, L, h⟩ := hM
  have hT5 := h.2.1.1.1.1.2.2.2.2
  have hH := h.2.1.1.H
  unfold F_X9_start F_X10_start
  rcases task_q h a1 a2 with ⟨q1, M', q2, q3⟩ | ⟨t, k, ht, hk, hl, rfl, q1, M1, M2, q2, q3, q4, q5, q6⟩
  · rw [q1, Option.bind_some, if_pos rfl]
    refine ⟨_, ((-2), M'), rfl, ?_, rfl, q3⟩
    show (F_X10_asksOf a1 a2 M).bind _ = _
    rw [q2, Option.bind_some, if_pos (show (0 : Int32) = 0 from rfl)]
  have hin : inb (nI t) 5 = true := inb_nI (by omega) (by omega)
  have hc : (nI t).toNatClampNeg = t := clampI (by omega)
  have hC := q3.2.1 t ht
  have hR := q5.2.1 t ht
  rw [q1, Option.bind_some, if_neg (by decide), q2, Option.bind_some, hc]
  refine ⟨_, (nI ((rn β L k).1.1.1 t 0), M2), rfl, ?_, ?_, q6⟩
  · show (F_X10_asksOf (nI t) a2 M1).bind _ = _
    rw [q4, Option.bind_some, if_neg (show ¬ (1 : Int32) = 0 by decide), if_pos hin]
    show some (M2.1 64 0 0 t, M2) = _
    rw [hR.1, rv_f (show 0 ≠ 9 by decide) (by decide)]
  · show M1.1 25 1 t 0 = _
    rw [hC.1]
theorem ok_memory : ∀ M : Mw, Inv M → ∀ a1 a2 : Int32, ∃ (r1 : Int32 × Mw) (r2 : Int32 × Mw), F_X9_memory a1 a2 M = some r1 ∧ F_X10_memory a1 a2 r1.2 = some r2 ∧ r1.1 = r2.1 ∧ Inv r2.2 := by
  intro M hM a1 a2
  obtain ⟨β, L, h⟩ := hM
  have hT5 := h.2.1.1.1.1.2.2.2.2
  have hH := h.2.1.1.H
  unfold F_X9_memory F_X10_memory
  rcases task_q h a1 a2 with ⟨q1, M', q2, q3⟩ | ⟨t, k, ht, hk, hl, rfl, q1, M1, M2, q2, q3, q4, q5, q6⟩
  · rw [q1, Option.bind_some, if_pos rfl]
    refine ⟨_, ((-2), M'), rfl, ?_, rfl, q3⟩
    show (F_X10_asksOf a1 a2 M).bind _ = _
    rw [q2, Option.bind_some, if_pos (show (0 : Int32) = 0 from rfl)]
  have hin : inb (nI t) 5 = true := inb_nI (by omega) (by omega)
  have hc : (nI t).toNatClampNeg = t := clampI (by omega)
  have hC := q3.2.1 t ht
  have hR := q5.2.1 t ht
  rw [q1, Option.bind_some, if_neg (by decide), q2, Option.bind_some, hc]
  refine ⟨_, (nI ((rn β L k).1.1.1 t 7), M2), rfl, ?_, ?_, q6⟩
  · show (F_X10_asksOf (nI t) a2 M1).bind _ = _
    rw [q4, Option.bind_some, if_neg (show ¬ (1 : Int32) = 0 by decide), if_pos hin]
    show some (M2.1 73 0 0 t, M2) = _
    rw [hR.2.2.2.2.2.2.2.1, rv_f (show 7 ≠ 9 by decide) (by decide)]
  · show M1.1 25 1 t 7 = _
    rw [hC.2.2.2.2.2.2.1]
theorem ok_at : ∀ M : Mw, Inv M → ∀ a1 a2 : Int32, ∃ (r1 : Int32 × Mw) (r2 : Int32 × Mw), F_X9_at a1 a2 M = some r1 ∧ F_X10_at a1 a2 r1.2 = some r2 ∧ r1.1 = r2.1 ∧ Inv r2.2 := by
  intro M hM a1 a2
  obtain ⟨β, L, h⟩ := hM
  have hT5 := h.2.1.1.1.1.2.2.2.2
  have hH := h.2.1.1.H
  unfold F_X9_at F_X10_at
  rcases task_q h a1 a2 with ⟨q1, M', q2, q3⟩ | ⟨t, k, ht, hk, hl, rfl, q1, M1, M2, q2, q3, q4, q5, q6⟩
  · rw [q1, Option.bind_some, if_pos rfl]
    refine ⟨_, ((-2), M'), rfl, ?_, rfl, q3⟩
    show (F_X10_asksOf a1 a2 M).bind _ = _
    rw [q2, Option.bind_some, if_pos (show (0 : Int32) = 0 from rfl)]
  have hin : inb (nI t) 5 = true := inb_nI (by omega) (by omega)
  have hc : (nI t).toNatClampNeg = t := clampI (by omega)
  have hC := q3.2.1 t ht
  have hR := q5.2.1 t ht
  rw [q1, Option.bind_some, if_neg (by decide), q2, Option.bind_some, hc]
  obtain ⟨k', k1, k2⟩ := rn_ivs h.2.1.1 hl (show k ≤ 200 by omega)
  have b1 := k2.2 t ht
  refine ⟨_, (nI ((rn β L k).1.1.1 t 2) + (-1), M2), rfl, ?_, ?_, q6⟩
  · show (F_X10_asksOf (nI t) a2 M1).bind _ = _
    rw [q4, Option.bind_some, if_neg (show ¬ (1 : Int32) = 0 by decide), if_pos hin]
    show (if M2.1 65 0 0 t = (-1) then some ((-1), M2) else if inb (nI t) 5 then some (M2.1 67 0 0 t, M2) else none) = _
    have e65 := hR.2.2.1
    have e67 := hR.2.2.2.1
    rw [rv_f (show 2 ≠ 9 by decide) (by decide)] at e65 e67
    by_cases c : (rn β L k).1.1.1 t 2 = 0
    · rw [if_pos c] at e65
      rw [e65, if_pos rfl, c]
      rfl
    · rw [if_neg c, rv_f (show 1 ≠ 9 by decide) (by decide)] at e65
      rw [e65, if_neg (nI_nm1 (by omega)), if_pos hin, (e67 (by omega)).1]
      obtain ⟨m, hm⟩ := Nat.exists_eq_succ_of_ne_zero c
      rw [hm, pk_m1]
      rfl
  · show M1.1 25 1 t 2 = _
    rw [hC.2.2.1]
theorem ok_health : ∀ M : Mw, Inv M → ∀ a1 a2 : Int32, ∃ (r1 : Int32 × Mw) (r2 : Int32 × Mw), F_X9_health a1 a2 M = some r1 ∧ F_X10_health a1 a2 r1.2 = some r2 ∧ r1.1 = r2.1 ∧ Inv r2.2 := by
  intro M hM a1 a2
  obtain ⟨β, L, h⟩ := hM
  have hT5 := h.2.1.1.1.1.2.2.2.2
  have hH := h.2.1.1.H
  unfold F_X9_health F_X10_health
  rcases task_q h a1 a2 with ⟨q1, M', q2, q3⟩ | ⟨t, k, ht, hk, hl, rfl, q1, M1, M2, q2, q3, q4, q5, q6⟩
  · rw [q1, Option.bind_some, if_pos rfl]
    refine ⟨_, ((-2), M'), rfl, ?_, rfl, q3⟩
    show (F_X10_asksOf a1 a2 M).bind _ = _
    rw [q2, Option.bind_some, if_pos (show (0 : Int32) = 0 from rfl)]
  have hin : inb (nI t) 5 = true := inb_nI (by omega) (by omega)
  have hc : (nI t).toNatClampNeg = t := clampI (by omega)
  have hC := q3.2.1 t ht
  have hR := q5.2.1 t ht
  rw [q1, Option.bind_some, if_neg (by decide), q2, Option.bind_some, hc]
  obtain ⟨k', k1, k2⟩ := rn_ivs h.2.1.1 hl (show k ≤ 200 by omega)
  obtain ⟨⟨D, hS⟩, -⟩ := k2.1
  have hf := (hS.2.1 t ht).2.2.2.2.2
  obtain ⟨r, b1, b2⟩ := fx_bits _ hf M1 M2
  have e11 : M1.2.1 25 1 t 11 = (rn β L k).1.1.2.1 t := hC.2.2.2.2.2.2.2.2.2.2.2.2.2.1
  have e74 : M2.2.1 74 0 0 t = (rn β L k).1.1.2.1 t := by rw [hR.2.2.2.2.2.2.2.2.2.2.2.2.2.2.1, rv_2]
  rw [e11, b1, Option.bind_some]
  refine ⟨_, (r, M2), rfl, ?_, rfl, q6⟩
  show (F_X10_asksOf (nI t) a2 M1).bind _ = _
  rw [q4, Option.bind_some, if_neg (show ¬ (1 : Int32) = 0 by decide), if_pos hin]
  show (F_Jxf58ca_floatToIntBits_5c35a (M2.2.1 74 0 0 t) M2).bind _ = _
  rw [e74, b2, Option.bind_some]
theorem ok_tenths : ∀ M : Mw, Inv M → ∀ a1 a2 : Int32, ∃ (r1 : Int32 × Mw) (r2 : Int32 × Mw), F_X9_tenths a1 a2 M = some r1 ∧ F_X10_tenths a1 a2 r1.2 = some r2 ∧ r1.1 = r2.1 ∧ Inv r2.2 := by
  intro M hM a1 a2
  obtain ⟨β, L, h⟩ := hM
  have hT5 := h.2.1.1.1.1.2.2.2.2
  have hH := h.2.1.1.H
  unfold F_X9_tenths F_X10_tenths
  rcases task_q h a1 a2 with ⟨q1, M', q2, q3⟩ | ⟨t, k, ht, hk, hl, rfl, q1, M1, M2, q2, q3, q4, q5, q6⟩
  · rw [q1, Option.bind_some, if_pos rfl]
    refine ⟨_, ((-2), M'), rfl, ?_, rfl, q3⟩
    show (F_X10_asksOf a1 a2 M).bind _ = _
    rw [q2, Option.bind_some, if_pos (show (0 : Int32) = 0 from rfl)]
  have hin : inb (nI t) 5 = true := inb_nI (by omega) (by omega)
  have hc : (nI t).toNatClampNeg = t := clampI (by omega)
  have hC := q3.2.1 t ht
  have hR := q5.2.1 t ht
  rw [q1, Option.bind_some, if_neg (by decide), q2, Option.bind_some, hc]
  obtain ⟨k', k1, k2⟩ := rn_ivs h.2.1.1 hl (show k ≤ 200 by omega)
  obtain ⟨⟨D, hS⟩, -⟩ := k2.1
  have hf := (hS.2.1 t ht).2.2.2.2.2
  have b1 := fx_tenths _ hf
  have e11 : M1.2.1 25 1 t 11 = (rn β L k).1.1.2.1 t := hC.2.2.2.2.2.2.2.2.2.2.2.2.2.1
  have e74 : M2.2.1 74 0 0 t = (rn β L k).1.1.2.1 t := by rw [hR.2.2.2.2.2.2.2.2.2.2.2.2.2.2.1, rv_2]
  rw [e11, if_pos b1]
  refine ⟨_, (FP.f2i (FP.fmul ((rn β L k).1.1.2.1 t) 1092616192), M2), rfl, ?_, rfl, q6⟩
  show (F_X10_asksOf (nI t) a2 M1).bind _ = _
  rw [q4, Option.bind_some, if_neg (show ¬ (1 : Int32) = 0 by decide), if_pos hin]
  show (if nf (FP.fmul (M2.2.1 74 0 0 t) 1092616192) then some (FP.f2i (FP.fmul (M2.2.1 74 0 0 t) 1092616192), M2) else none) = _
  rw [e74, if_pos b1]
theorem ok_margin : ∀ M : Mw, Inv M → ∀ a1 a2 : Int32, ∃ (r1 : Int32 × Mw) (r2 : Int32 × Mw), F_X9_margin a1 a2 M = some r1 ∧ F_X10_margin a1 a2 r1.2 = some r2 ∧ r1.1 = r2.1 ∧ Inv r2.2 := by
  intro M hM a1 a2
  obtain ⟨β, L, h⟩ := hM
  have hT5 := h.2.1.1.1.1.2.2.2.2
  have hH := h.2.1.1.H
  unfold F_X9_margin F_X10_margin
  rcases task_q h a1 a2 with ⟨q1, M', q2, q3⟩ | ⟨t, k, ht, hk, hl, rfl, q1, M1, M2, q2, q3, q4, q5, q6⟩
  · rw [q1, Option.bind_some, if_pos rfl]
    refine ⟨_, ((-2), M'), rfl, ?_, rfl, q3⟩
    show (F_X10_asksOf a1 a2 M).bind _ = _
    rw [q2, Option.bind_some, if_pos (show (0 : Int32) = 0 from rfl)]
  have hin : inb (nI t) 5 = true := inb_nI (by omega) (by omega)
  have hc : (nI t).toNatClampNeg = t := clampI (by omega)
  have hC := q3.2.1 t ht
  have hR := q5.2.1 t ht
  rw [q1, Option.bind_some, if_neg (by decide), q2, Option.bind_some, hc]
  obtain ⟨k', k1, k2⟩ := rn_ivs h.2.1.1 hl (show k ≤ 200 by omega)
  obtain ⟨j12, j10, j14, j3, j6, jm, js, -⟩ := k2.1.2.1 t ht
  have e14 : M1.1 25 1 t 14 = nI ((rn β L k).1.1.1 t 14) := hC.2.2.2.2.2.2.2.2.2.2.2.2.1
  have e81 : M2.1 81 0 0 t = nI ((rn β L k).1.1.1 t 14) := by rw [hR.2.2.2.2.2.2.2.2.2.2.2.2.2.1, rv_f (show 14 ≠ 9 by decide) (by decide)]
  rw [e14]
  by_cases c : (rn β L k).1.1.1 t 14 = 0
  · rw [if_pos (show nI ((rn β L k).1.1.1 t 14) = 0 by rw [c]; rfl)]
    refine ⟨_, ((-1), M2), rfl, ?_, rfl, q6⟩
    show (F_X10_asksOf (nI t) a2 M1).bind _ = _
    rw [q4, Option.bind_some, if_neg (show ¬ (1 : Int32) = 0 by decide), if_pos hin]
    show (if M2.1 81 0 0 t = 0 then some ((-1), M2) else _) = _
    rw [e81, if_pos (show nI ((rn β L k).1.1.1 t 14) = 0 by rw [c]; rfl)]
  · obtain ⟨r, b1, b2⟩ := fx_bits _ (jm (by omega)) M1 M2
    have e15 : M1.2.1 25 1 t 15 = (rn β L k).1.1.2.2.1 t := hC.2.2.2.2.2.2.2.2.2.2.2.2.2.2.1 (by omega)
    have e79 : M2.2.1 79 0 0 t = (rn β L k).1.1.2.2.1 t := by rw [hR.2.2.2.2.2.2.2.2.2.2.2.2.2.2.2.1 (by rw [rv_f (show 14 ≠ 9 by decide) (by decide)]; omega), rv_2]
    rw [if_neg (nI_ne0 (by omega) (by omega)), e15, b1, Option.bind_some]
    refine ⟨_, (r, M2), rfl, ?_, rfl, q6⟩
    show (F_X10_asksOf (nI t) a2 M1).bind _ = _
    rw [q4, Option.bind_some, if_neg (show ¬ (1 : Int32) = 0 by decide), if_pos hin]
    show (if M2.1 81 0 0 t = 0 then some ((-1), M2) else if inb (nI t) 5 then (F_Jxf58ca_floatToIntBits_5c35a (M2.2.1 79 0 0 t) M2).bind (fun v7 => some (v7, M2)) else none) = _
    rw [e81, if_neg (nI_ne0 (by omega) (by omega)), if_pos hin, e79, b2, Option.bind_some]
theorem ok_mean : ∀ M : Mw, Inv M → ∀ a1 a2 : Int32, ∃ (r1 : Int64 × Mw) (r2 : Int64 × Mw), F_X9_mean a1 a2 M = some r1 ∧ F_X10_mean a1 a2 r1.2 = some r2 ∧ r1.1 = r2.1 ∧ Inv r2.2 := by
  intro M hM a1 a2
  obtain ⟨β, L, h⟩ := hM
  have hT5 := h.2.1.1.1.1.2.2.2.2
  have hH := h.2.1.1.H
  unfold F_X9_mean F_X10_mean
  rcases task_q h a1 a2 with ⟨q1, M', q2, q3⟩ | ⟨t, k, ht, hk, hl, rfl, q1, M1, M2, q2, q3, q4, q5, q6⟩
  · rw [q1, Option.bind_some, if_pos rfl]
    refine ⟨_, ((-2), M'), rfl, ?_, rfl, q3⟩
    show (F_X10_asksOf a1 a2 M).bind _ = _
    rw [q2, Option.bind_some, if_pos (show (0 : Int32) = 0 from rfl)]
  have hin : inb (nI t) 5 = true := inb_nI (by omega) (by omega)
  have hc : (nI t).toNatClampNeg = t := clampI (by omega)
  have hC := q3.2.1 t ht
  have hR := q5.2.1 t ht
  rw [q1, Option.bind_some, if_neg (by decide), q2, Option.bind_some, hc]
  obtain ⟨k', k1, k2⟩ := rn_ivs h.2.1.1 hl (show k ≤ 200 by omega)
  obtain ⟨j12, j10, j14, j3, j6, jm, js, -⟩ := k2.1.2.1 t ht
  have e14 : M1.1 25 1 t 14 = nI ((rn β L k).1.1.1 t 14) := hC.2.2.2.2.2.2.2.2.2.2.2.2.1
  have e81 : M2.1 81 0 0 t = nI ((rn β L k).1.1.1 t 14) := by rw [hR.2.2.2.2.2.2.2.2.2.2.2.2.2.1, rv_f (show 14 ≠ 9 by decide) (by decide)]
  rw [e14]
  by_cases c : (rn β L k).1.1.1 t 14 = 0
  · rw [if_pos (show nI ((rn β L k).1.1.1 t 14) = 0 by rw [c]; rfl)]
    refine ⟨_, ((-1), M2), rfl, ?_, rfl, q6⟩
    show (F_X10_asksOf (nI t) a2 M1).bind _ = _
    rw [q4, Option.bind_some, if_neg (show ¬ (1 : Int32) = 0 by decide), if_pos hin]
    show (if M2.1 81 0 0 t = 0 then some ((-1), M2) else _) = _
    rw [e81, if_pos (show nI ((rn β L k).1.1.1 t 14) = 0 by rw [c]; rfl)]
  · obtain ⟨n1, r, b1, b2⟩ := fx_mean _ _ (by omega) (show (rn β L k).1.1.1 t 14 ≤ 200 by omega) js M1 M2
    have e16 : M1.2.2 25 1 t 16 = (rn β L k).1.1.2.2.2 t := hC.2.2.2.2.2.2.2.2.2.2.2.2.2.2.2
    have e80 : M2.2.2 80 0 0 t = (rn β L k).1.1.2.2.2 t := by rw [hR.2.2.2.2.2.2.2.2.2.2.2.2.2.2.2.2, rv_2]
    rw [if_neg (nI_ne0 (by omega) (by omega)), e16, if_pos n1, b1, Option.bind_some]
    refine ⟨_, (r, M2), rfl, ?_, rfl, q6⟩
    show (F_X10_asksOf (nI t) a2 M1).bind _ = _
    rw [q4, Option.bind_some, if_neg (show ¬ (1 : Int32) = 0 by decide), if_pos hin]
    show (if M2.1 81 0 0 t = 0 then some ((-1), M2) else if inb (nI t) 5 then if inb (nI t) 5 then if nd (FP.ddiv (M2.2.2 80 0 0 t) (FP.i2d (M2.1 81 0 0 t))) then (F_Jxe99ae_doubleToLongBits_ccdee (FP.ddiv (M2.2.2 80 0 0 t) (FP.i2d (M2.1 81 0 0 t))) M2).bind (fun v8 => some (v8, M2)) else none else none else none) = _
    rw [e81, if_neg (nI_ne0 (by omega) (by omega)), if_pos hin, if_pos hin, e80, if_pos n1, b2, Option.bind_some]
