/-! CAUGHT -/
theorem c_delayR {b : Nat} {M : Mw} {β : Bw} {L : Lw} {k tick who : Nat} {sl : Bool} (c1 : M.1 26 b 0 1 = nI (rcs β L k).length) (c2 : ∀ (i : Nat) (r : Nat × Nat × Nat × Nat), (rcs β L k)[i]? = some r → M.1 28 b i 0 = nI r.1 ∧ M.1 28 b i 1 = nI r.2.1 ∧ M.1 28 b i 2 = nI r.2.2.1 ∧ M.1 28 b i 3 = nI r.2.2.2) (hlen : (rcs β L k).length ≤ 90) (hg : GB β L) (hk : k ≤ 200) (ht : tick ≤ 1000) (hw : who < 1000) : F_X4_delayFrom b (nI tick) (if sl = true then 1 else 0) (nI who) M = some (nI (cau tick who sl (rcs β L k)) + (-1)) := by
  have key : it (fun _ => none) (B_X4_delayFrom_3 b (nI tick) (if sl = true then 1 else 0) (nI who) M) FU (nI 0) = some (nI (cau tick who sl (rcs β L k)) + (-1)) := it_forN (n := (rcs β L k).length) (P := fun i => cau tick who sl ((rcs β L k).drop i) = cau tick who sl (rcs β L k)) (Q := fun o => o = some (nI (cau tick who sl (rcs β L k)) + (-1))) (fun kk i hi hP => by
    have hr : (rcs β L k)[i]? = some (rcs β L k)[i] := List.getElem?_eq_getElem hi
    obtain ⟨x0, x1, x2, x3⟩ := c2 i _ hr
    have hd : (rcs β L k).drop i = (rcs β L k)[i] :: (rcs β L k).drop (i + 1) := List.drop_eq_getElem_cons hi
    obtain ⟨hgr, hb⟩ := rcs_g hg k _ (List.mem_of_getElem? hr)
    rw [hd] at hP
    generalize (rcs β L k)[i] = r at hP x0 x1 x2 hgr hb
    have hc : cau tick who sl (r :: (rcs β L k).drop (i + 1)) = if tick ≤ r.1 ∧ r.2.2.1 = who ∧ decide (6 ≤ r.2.1) = sl then r.1 - tick + 1 else cau tick who sl ((rcs β L k).drop (i + 1)) := rfl
    rw [hc] at hP
    obtain ⟨-, g1, g7, -, g5, -⟩ := hgr
    unfold B_X4_delayFrom_3 B_X4_delayFrom_51
    rw [c1, if_neg (nI_ge hi (by omega)), if_pos (inb_nI (by omega) (by omega)), clampI (by omega), x0, x1, x2]
    simp only [bd_eq, nI_1]
    by_cases ct : tick ≤ r.1
    case neg =>
      rw [if_neg (fun q => ct q.1)] at hP
      rw [if_pos (nI_lt (by omega) (by omega))]
      exact Or.inl ⟨rfl, hP⟩
    rw [if_neg (nI_nlt ct (by omega))]
    by_cases cw : r.2.2.1 = who
    case neg =>
      rw [if_neg (fun q => cw q.2.1)] at hP
      rw [if_neg (mt (nI_eq (by omega) (by omega)).mp cw)]
      exact Or.inl ⟨rfl, hP⟩
    rw [if_pos (by rw [cw])]
    have hdone : ∀ s0 : Int32, decide (6 ≤ r.2.1) = sl → s0 = (if sl = true then 1 else 0) → (if s0 = (if sl = true then (1 : Int32) else 0) then some (nI r.1 - nI tick) else kk (nI (i + 1))) = some (nI (cau tick who sl (rcs β L k)) + (-1)) := by
      intro s0 q e
      rw [if_pos ⟨ct, cw, q⟩] at hP
      rw [if_pos e, pk_sub ct, ← hP, pk_m1]
    by_cases c6 : 6 ≤ r.2.1
    · rw [if_neg (show ¬ nI r.2.1 < 6 from nI_nlt (b := 6) c6 (by omega))]
      cases sl with
      | true => exact Or.inr (hdone 1 (decide_eq_true c6) rfl)
      | false =>
        rw [if_neg (fun q => absurd q.2.2 (by rw [decide_eq_true c6]; decide))] at hP
        rw [if_neg (by decide)]
        exact Or.inl ⟨rfl, hP⟩
    · rw [if_pos (show nI r.2.1 < 6 from nI_lt (b := 6) (by omega) (by omega))]
      cases sl with
      | false => exact Or.inr (hdone 0 (decide_eq_false c6) rfl)
      | true =>
        rw [if_neg (fun q => absurd q.2.2 (by rw [decide_eq_false c6]; decide))] at hP
        rw [if_neg (by decide)]
        exact Or.inl ⟨rfl, hP⟩) (fun kk hP => by
    unfold B_X4_delayFrom_3
    rw [c1, if_pos (Int32.le_refl _)]
    rw [List.drop_length] at hP
    rw [← hP]
    exact congrArg some (show (-1 : Int32) = nI 0 + (-1) by decide)) FU 0 (Nat.zero_le _) (by unfold FU; omega) (by rw [List.drop_zero])
  rw [nI_0] at key
  exact key
theorem c_delay {b : Nat} {M : Mw} {β : Bw} {L : Lw} {k tick who : Nat} {sl : Bool} (h : CRn b M β L k) (hlen : (rcs β L k).length ≤ 90) (hg : GB β L) (hk : k ≤ 200) (ht : tick ≤ 1000) (hw : who < 1000) : F_X4_delayFrom b (nI tick) (if sl = true then 1 else 0) (nI who) M = some (nI (cau tick who sl (rcs β L k)) + (-1)) := c_delayR (whole_rec h).1 (whole_rec h).2 hlen hg hk ht hw
/-- the reference's loop over its records -/
theorem r_caughtL {M : Mw} {β : Bw} {L : Lw} {k tick who : Nat} {sl : Bool} (h : RRun M β L k (rn β L k)) (hlen : (rcs β L k).length ≤ 90) (hg : GB β L) (hk : k ≤ 200) (ht : tick ≤ 1000) (hw : who < 1000) : it (fun _ => none) (B_X10_caughtIn_65 (nI who) (if sl = true then 1 else 0) (nI tick) M) FU 0 = some (nI (cau tick who sl (rcs β L k)) + (-1)) := by
  obtain ⟨d1, d2⟩ := ref_rec h
  have key : it (fun _ => none) (B_X10_caughtIn_65 (nI who) (if sl = true then 1 else 0) (nI tick) M) FU (nI 0) = some (nI (cau tick who sl (rcs β L k)) + (-1)) := it_forN (n := (rcs β L k).length) (P := fun i => cau tick who sl ((rcs β L k).drop i) = cau tick who sl (rcs β L k)) (Q := fun o => o = some (nI (cau tick who sl (rcs β L k)) + (-1))) (fun kk i hi hP => by
    have hr : (rcs β L k)[i]? = some (rcs β L k)[i] := List.getElem?_eq_getElem hi
    obtain ⟨x0, x1, x2, x3⟩ := d2 i _ hr
    have hd : (rcs β L k).drop i = (rcs β L k)[i] :: (rcs β L k).drop (i + 1) := List.drop_eq_getElem_cons hi
    obtain ⟨hgr, hb⟩ := rcs_g hg k _ (List.mem_of_getElem? hr)
    rw [hd] at hP
    generalize (rcs β L k)[i] = r at hP x0 x1 x2 hgr hb
    have hc : cau tick who sl (r :: (rcs β L k).drop (i + 1)) = if tick ≤ r.1 ∧ r.2.2.1 = who ∧ decide (6 ≤ r.2.1) = sl then r.1 - tick + 1 else cau tick who sl ((rcs β L k).drop (i + 1)) := rfl
    rw [hc] at hP
    obtain ⟨-, g1, g7, gd, g5, -⟩ := hgr
    have hin : inb (nI i) 4000 = true := inb_nI (by omega) (by omega)
    have hcl : (nI i).toNatClampNeg = i := clampI (by omega)
    -- what is its own
    have hits : ∀ its : Bool, (its = true ↔ r.2.2.1 = who ∧ decide (6 ≤ r.2.1) = sl) → (B_X10_caughtIn_153 kk (nI who) (if sl = true then 1 else 0) (nI tick) (nI i) (if its = true then 1 else 0) M = kk (nI (i + 1)) ∧ cau tick who sl ((rcs β L k).drop (i + 1)) = cau tick who sl (rcs β L k)) ∨ B_X10_caughtIn_153 kk (nI who) (if sl = true then 1 else 0) (nI tick) (nI i) (if its = true then 1 else 0) M = some (nI (cau tick who sl (rcs β L k)) + (-1)) := by
      intro its hi2
      unfold B_X10_caughtIn_153
      rw [if_pos hin, if_pos hin, hcl, x0]
      by_cases c : its = true
      · rw [if_pos c, if_neg (show ¬ (1 : Int32) = 0 by decide)]
        by_cases ct : tick ≤ r.1
        · rw [if_pos ⟨ct, hi2.mp c⟩] at hP
          rw [if_neg (nI_nlt ct (by omega)), pk_sub ct, ← hP, pk_m1]
          exact Or.inr rfl
        · rw [if_neg (fun q => ct q.1)] at hP
          rw [if_pos (nI_lt (by omega) (by omega)), bd_eq, nI_1]
          exact Or.inl ⟨rfl, hP⟩
      · rw [if_neg (fun q => c (hi2.mpr q.2))] at hP
        rw [if_neg c, if_pos (show (0 : Int32) = 0 from rfl), bd_eq, nI_1]
        exact Or.inl ⟨rfl, hP⟩
    unfold B_X10_caughtIn_65 B_X10_caughtIn_152 B_X10_caughtIn_117 B_X10_caughtIn_101 B_X10_caughtIn_121 B_X10_caughtIn_117
    rw [d1, if_neg (nI_ge hi (by omega)), if_pos hin, if_pos hin, if_pos hin, if_pos hin, if_pos hin, hcl, x1, x2]
    cases sl with
    | false =>
      rw [if_pos (by decide)]
      by_cases c6 : 6 ≤ r.2.1
      · rw [if_pos (show (6 : Int32) ≤ nI r.2.1 from nI_le (a := 6) c6 (by omega))]
        exact hits false ⟨fun q => absurd q (by decide), fun q => absurd q.2 (by rw [decide_eq_true c6]; decide)⟩
      · rw [if_neg (show ¬ (6 : Int32) ≤ nI r.2.1 from nI_ge (b := 6) (by omega) (by omega))]
        by_cases cw : r.2.2.1 = who
        · rw [if_pos (by rw [cw])]
          exact hits true ⟨fun _ => ⟨cw, decide_eq_false c6⟩, fun _ => rfl⟩
        · rw [if_neg (mt (nI_eq (by omega) (by omega)).mp cw)]
          exact hits false ⟨fun q => absurd q (by decide), fun q => absurd q.1 cw⟩
    | true =>
      rw [if_neg (by decide)]
      by_cases c6 : r.2.1 = 6
      · rw [if_pos (show nI r.2.1 = 6 by rw [c6]; rfl)]
        by_cases cw : r.2.2.1 = who
        · rw [if_pos (by rw [cw])]
          exact hits true ⟨fun _ => ⟨cw, decide_eq_true (by omega)⟩, fun _ => rfl⟩
        · rw [if_neg (mt (nI_eq (by omega) (by omega)).mp cw), if_neg (show ¬ nI r.2.1 = 7 by rw [c6]; decide)]
          exact hits false ⟨fun q => absurd q (by decide), fun q => absurd q.1 cw⟩
      · rw [if_neg (show ¬ nI r.2.1 = 6 from mt (nI_eq (b := 6) (by omega) (by omega)).mp c6)]
        by_cases c7 : r.2.1 = 7
        · rw [if_pos (show nI r.2.1 = 7 by rw [c7]; rfl)]
          have g0 := gd c7
          by_cases cw : who = 0
          · rw [if_pos (show nI who = 0 by rw [cw]; rfl)]
            exact hits true ⟨fun _ => ⟨by rw [g0, cw], decide_eq_true (by omega)⟩, fun _ => rfl⟩
          · rw [if_neg (nI_ne0 (by omega) (by omega))]
            exact hits false ⟨fun q => absurd q (by decide), fun q => absurd q.1 (by omega)⟩
        · rw [if_neg (show ¬ nI r.2.1 = 7 from mt (nI_eq (b := 7) (by omega) (by omega)).mp c7)]
          exact hits false ⟨fun q => absurd q (by decide), fun q => absurd (of_decide_eq_true q.2) (by omega)⟩) (fun kk hP => by
    unfold B_X10_caughtIn_65
    rw [d1, if_pos (Int32.le_refl _)]
    rw [List.drop_length] at hP
    rw [← hP]
    exact congrArg some (show (-1 : Int32) = nI 0 + (-1) by decide)) FU 0 (Nat.zero_le _) (by unfold FU; omega) (by rw [List.drop_zero])
  rw [nI_0] at key
  exact key
theorem inj_cases {M : Mw} {β : Bw} {L : Lw} (h : IBd M β L) (p : Int32) : (F_X0_hasInjection 1 p M = some 0 ∧ ∀ M', RWd (M'.1 51 0 0) β L → F_X10_isInjection p M' = some 0) ∨ (∃ i, i < L.length ∧ p = nI i ∧ F_X0_hasInjection 1 p M = some 1 ∧ ∀ M', RWd (M'.1 51 0 0) β L → F_X10_isInjection p M' = some 1) := by
  obtain ⟨hx, hc, hw⟩ := h
  have hlen := hx.len
  have hll := hx.2.2.2.1
  have e : ∀ M' : Mw, RWd (M'.1 51 0 0) β L → F_X10_isInjection p M' = some (if ¬ p < 0 ∧ p < nI L.length then 1 else 0) := by
    intro M' hw'
    unfold F_X10_isInjection F_X10_many
    rw [Option.bind_some, hw'.1.2.2.2.2.2.1, hw'.1.2.2.2.2.2.2.1, nI_add, hll, r_in0 p (by omega), Option.bind_some]
    by_cases c : ¬ p < 0 ∧ p < nI L.length
    · rw [if_pos c, if_pos (by decide)]
    · rw [if_neg c, if_pos (by decide)]
  have ec : F_X0_hasInjection 1 p M = some (if ¬ p < 0 ∧ p < nI L.length then 1 else 0) := by
    unfold F_X0_hasInjection
    rw [hc.c 6 (by omega), hc.c 7 (by omega), nI_add, hll]
    by_cases c1 : p < 0
    · rw [if_pos c1, if_neg (fun q => q.1 c1)]
    · rw [if_neg c1]
      by_cases c2 : nI L.length ≤ p
      · rw [if_pos c2, if_neg (fun q => absurd q.2 (Int32.not_lt.mpr c2))]
      · rw [if_neg c2, if_pos ⟨c1, Int32.not_le.mp c2⟩]
  rcases rng_cases p (show L.length < 2 ^ 31 by omega) with ⟨i, hi, rfl⟩ | c
  · right
    exact ⟨i, hi, rfl, by rw [ec, if_pos (rng_in hi (by omega))], fun M' q => by rw [e M' q, if_pos (rng_in hi (by omega))]⟩
  · left
    exact ⟨by rw [ec, if_neg c], fun M' q => by rw [e M' q, if_neg c]⟩
/-- when an injection's job begins (one more; 0: never) -/
def bgN (β : Bw) (L : Lw) (k t j : Nat) : Nat := if j < (rn β L k).1.1.1 t 1 then (rn β L k).2.2.1 t j + 1 else 0
theorem rn_A {β : Bw} {L : Lw} : ∀ k t j, (rn β L k).2.2.1 t j ≤ k := by
  intro k
  induction k with
  | zero => intro t j; exact Nat.le_refl 0
  | succ k ih =>
    intro t j
    show (stR β L k (rn β L k)).2.2.1 t j ≤ k + 1
    unfold stR
    by_cases c : (rn β L k).1.2.2.2.2.2.1 ≠ 0
    · rw [if_pos c]
      exact Nat.le_succ_of_le (ih t j)
    · rw [if_neg c]
      show beA β k (rn β L k).1.1 (rn β L k).2.2.1 (β 0 0 5) t j ≤ k + 1
      unfold beA
      by_cases z : t < β 0 0 5 ∧ beB β k (rn β L k).1.1 t = true ∧ j = (rn β L k).1.1.1 t 1
      · rw [if_pos z]; omega
      · rw [if_neg z]
        exact Nat.le_succ_of_le (ih t j)
theorem c_beginOf {b : Nat} {M : Mw} {β : Bw} {L : Lw} {k t j : Nat} (h : CRn b M β L k) (hT5 : β 0 0 5 ≤ 5) (ht : t < β 0 0 5) (hj : j ≤ 50) (hv : (rn β L k).1.1.1 t 1 ≤ 1000) : F_X5_beginOf b (nI t) (nI j) M = some (nI (bgN β L k t j) + (-1)) := by
  have hin : inb (nI t) 5 = true := inb_nI (by omega) (by omega)
  have eJ : F_X9_isJob (nI j) M = some 1 := by
    unfold F_X9_isJob
    rw [if_neg (nI_pos (by omega)), if_neg (show ¬ (50 : Int32) < nI j from nI_nlt (a := 50) hj (by omega))]
  unfold F_X5_beginOf B_X5_beginOf_35 B_X5_beginOf_36 bgN
  rw [c_hasTask1 (h.1.1 5 (by omega)) hT5 ht, Option.bind_some, if_neg (show ¬ (1 : Int32) = 0 by decide), eJ, Option.bind_some, if_neg (show ¬ (1 : Int32) = 0 by decide), if_pos hin, clampI (by omega), (h.2.1 t ht).2.1, if_pos hin, if_pos (inb_nI (by omega) (by omega)), clampI (by omega)]
  by_cases c : j < (rn β L k).1.1.1 t 1
  · rw [if_neg (nI_ge c (by omega)), if_neg (show ¬ (1 : Int32) = 0 by decide), if_pos c, pk_m1]
    exact congrArg some (h.2.2.2.2.1 t ht j c hj)
  · rw [if_pos (nI_le (by omega) (by omega)), if_pos (show (0 : Int32) = 0 from rfl), if_neg c]
    decide
theorem ok_caught : ∀ M : Mw, Inv M → ∀ a1 : Int32, ∃ (r1 : Int32) (r2 : Int32 × Mw), F_X9_caught a1 M = some r1 ∧ F_X10_caught a1 M = some r2 ∧ r1 = r2.1 ∧ Inv r2.2 := by
  intro M hM a1
  obtain ⟨β, L, h⟩ := hM
  have hx := h.2.1.1
  have hT5 := hx.1.1.2.2.2.2
  have hW3 := hx.1.1.2.2.2.1
  have hH := hx.H
  have hlen := hx.len
  unfold F_X9_caught F_X10_caught
  rcases inj_cases h.2.1 a1 with ⟨t1, t2⟩ | ⟨i, hi, rfl, t1, t2⟩
  · rw [t1, t2 M h.2.1.2.2, Option.bind_some, Option.bind_some, if_pos rfl, if_pos rfl]
    exact ⟨_, _, rfl, rfl, rfl, β, L, h⟩
  rw [t1, t2 M h.2.1.2.2, Option.bind_some, Option.bind_some, if_neg (show ¬ (1 : Int32) = 0 by decide), if_neg (show ¬ (1 : Int32) = 0 by decide)]
  have hl : 0 < β 0 0 3 := by
    by_cases z : 0 < β 0 0 3
    · exact z
    · have := (hx.2.2.2.2.1 (by omega)).2.2.2.2.2
      rw [this] at hi
      exact absurd hi (Nat.not_lt_zero _)
  rcases r_asks hx h.2.1.2.2 with ⟨-, M2, q1, q2, q3, q4⟩ | ⟨q, -⟩
  case inr => omega
  have hrl := rn_len hx hl hH
  have hcr := h.2.2.1.1.2.2.2.2.2.2 i hi
  have hw4 : L[i]? = some (row5 (fun p => M2.1 51 0 0 (106 + 5 * i + p))) := by rw [q4]; exact h.2.1.2.2.2.2.2.2 i hi
  have hgr := hx.1.2.2.2.2.2.2.2.2 _ (List.mem_of_getElem? hcr)
  have o0 : F_X10_of (nI i) 0 M2 = some (M2.1 51 0 0 (106 + 5 * i)) := r_of (p := 0) (by omega) (by omega)
  have o1 : F_X10_of (nI i) 1 M2 = some (M2.1 51 0 0 (106 + 5 * i + 1)) := r_of (p := 1) (by omega) (by omega)
  have o2 : F_X10_of (nI i) 2 M2 = some (M2.1 51 0 0 (106 + 5 * i + 2)) := r_of (p := 2) (by omega) (by omega)
  have erow : row5 (M.1 12 5 i) = row5 (fun p => M2.1 51 0 0 (106 + 5 * i + p)) := Option.some.inj (hcr.symm.trans hw4)
  have hfin : ∀ v : Int32, F_X5_delayOf 0 (nI i) M = some v → F_X10_caughtIn (nI i) M2 = some v → ∃ (r1 : Int32) (r2 : Int32 × Mw), ((F_X5_delayOf 0 (nI i) M).bind (fun v4 => some v4)) = some r1 ∧ ((F_X10_asks M).bind (fun q4 => (if q4.1 = 0 then some ((-2), q4.2) else ((F_X10_caughtIn (nI i) q4.2).bind (fun v7 => some (v7, q4.2)))))) = some r2 ∧ r1 = r2.1 ∧ Inv r2.2 := by
    intro v e1 e2
    rw [e1, Option.bind_some, q1, Option.bind_some, if_neg (show ¬ (1 : Int32) = 0 by decide)]
    show ∃ (r1 : Int32) (r2 : Int32 × Mw), some v = some r1 ∧ ((F_X10_caughtIn (nI i) M2).bind (fun v7 => some (v7, M2))) = some r2 ∧ _
    rw [e2, Option.bind_some]
    exact ⟨v, (v, M2), rfl, rfl, rfl, β, L, h.i q3⟩
  have hin19 : inb (nI i) 19 = true := inb_nI (by omega) (by omega)
  rcases hgr with ⟨w, x, hw, hxx, e⟩ | ⟨t, j, m, ht, hj, hm1, hm2, e⟩ | ⟨kd, t, j, n, m, hkd, ht, hj, hn, hm1, hm2, e⟩
  · obtain ⟨e0, e1, e2, e3, e4⟩ : M.1 12 5 i 0 = 5 ∧ M.1 12 5 i 1 = nI w ∧ M.1 12 5 i 2 = nI x ∧ M.1 12 5 i 3 = -1 ∧ M.1 12 5 i 4 = -1 := by simpa using e
    rw [e] at erow
    obtain ⟨f0, f1, f2, f3, f4⟩ : 5 = M2.1 51 0 0 (106 + 5 * i) ∧ nI w = M2.1 51 0 0 (106 + 5 * i + 1) ∧ nI x = M2.1 51 0 0 (106 + 5 * i + 2) ∧ (-1) = M2.1 51 0 0 (106 + 5 * i + 3) ∧ (-1) = M2.1 51 0 0 (106 + 5 * i + 4) := by simpa using erow
    refine hfin (nI (cau x w true (rcs β L (β 0 0 0))) + (-1)) ?_ ?_
    · have hd := c_delay (sl := true) (tick := x) (who := w) h.2.2.1 hrl hx.1 hH (by omega) (by omega)
      rw [if_pos rfl] at hd
      unfold F_X5_delayOf B_X5_delayOf_22 B_X5_delayOf_43
      rw [if_pos hin19, clampI (by omega), e0, e1, e2, if_pos rfl, if_neg (show ¬ (1 : Int32) = 0 by decide), if_neg (nI_nm1 (by omega)), hd, Option.bind_some]
    · have hd := r_caughtL (sl := true) (tick := x) (who := w) q2 hrl hx.1 hH (by omega) (by omega)
      rw [if_pos rfl] at hd
      unfold F_X10_caughtIn B_X10_caughtIn_22 B_X10_caughtIn_52
      rw [o1, Option.bind_some, o0, Option.bind_some, ← f0, ← f1, if_pos rfl, if_neg (show ¬ (1 : Int32) = 0 by decide), o2, Option.bind_some, ← f2, if_neg (nI_nm1 (by omega)), hd]
  all_goals
    have hv : (rn β L (β 0 0 0)).1.1.1 t 1 ≤ 1000 := by
      obtain ⟨k', kk1, kk2⟩ := rn_ivs hx hl hH
      have := kk2.2 t ht
      omega
    have hA := rn_A (β := β) (L := L) (β 0 0 0) t j
    have hbo := c_beginOf (j := j) h.2.2.1 hT5 ht hj hv
    have h83 := q2.2.2.2.2.1 t ht j hj
    have ea : (51 * nI t) + nI j = nI (51 * t + j) := by rw [show (51 : Int32) = nI 51 from rfl, pk_mul, nI_add]
    have hcls : ∀ l, M.1 12 5 i 0 ≠ 5 → M.1 12 5 i 1 = nI t → M.1 12 5 i 2 = nI j → l = (if bgN β L (β 0 0 0) t j = 0 then (-1) else nI (cau ((rn β L (β 0 0 0)).2.2.1 t j) t false (rcs β L (β 0 0 0))) + (-1)) → F_X5_delayOf 0 (nI i) M = some l := by
      intro l e0 e1 e2 el
      unfold F_X5_delayOf B_X5_delayOf_22 B_X5_delayOf_43
      rw [if_pos hin19, clampI (by omega), if_neg e0, e1, e2, if_pos (show (0 : Int32) = 0 from rfl), hbo, Option.bind_some, el]
      unfold bgN
      by_cases c : j < (rn β L (β 0 0 0)).1.1.1 t 1
      · have hd := c_delay (sl := false) (tick := (rn β L (β 0 0 0)).2.2.1 t j) (who := t) h.2.2.1 hrl hx.1 hH (by omega) (by omega)
        rw [if_neg (by decide)] at hd
        rw [if_pos c, pk_m1, if_neg (nI_nm1 (by omega)), hd, Option.bind_some, if_neg (by omega)]
      · rw [if_neg c, if_pos (by decide), if_pos rfl]
    have href : ∀ l, M2.1 51 0 0 (106 + 5 * i) ≠ 5 → M2.1 51 0 0 (106 + 5 * i + 1) = nI t → M2.1 51 0 0 (106 + 5 * i + 2) = nI j → l = (if bgN β L (β 0 0 0) t j = 0 then (-1) else nI (cau ((rn β L (β 0 0 0)).2.2.1 t j) t false (rcs β L (β 0 0 0))) + (-1)) → F_X10_caughtIn (nI i) M2 = some l := by
      intro l e0 e1 e2 el
      unfold F_X10_caughtIn B_X10_caughtIn_22 B_X10_caughtIn_52
      rw [o1, Option.bind_some, o0, Option.bind_some, if_neg e0, e1, if_pos (show (0 : Int32) = 0 from rfl), o2, Option.bind_some, e2, ea, if_pos (inb_nI (by omega) (by omega)), clampI (by omega), h83, el]
      unfold bgN
      by_cases c : j < (rn β L (β 0 0 0)).1.1.1 t 1
      · have hd := r_caughtL (sl := false) (tick := (rn β L (β 0 0 0)).2.2.1 t j) (who := t) q2 hrl hx.1 hH (by omega) (by omega)
        rw [if_neg (by decide)] at hd
        rw [if_pos c, if_neg (nI_nm1 (by omega)), hd, if_pos c, if_neg (by omega)]
      · rw [if_neg c, if_pos rfl, if_neg c, if_pos rfl]
  · obtain ⟨e0, e1, e2, e3, e4⟩ : M.1 12 5 i 0 = 4 ∧ M.1 12 5 i 1 = nI t ∧ M.1 12 5 i 2 = nI j ∧ M.1 12 5 i 3 = -1 ∧ M.1 12 5 i 4 = nI m := by simpa using e
    rw [e] at erow
    obtain ⟨f0, f1, f2, f3, f4⟩ : 4 = M2.1 51 0 0 (106 + 5 * i) ∧ nI t = M2.1 51 0 0 (106 + 5 * i + 1) ∧ nI j = M2.1 51 0 0 (106 + 5 * i + 2) ∧ (-1) = M2.1 51 0 0 (106 + 5 * i + 3) ∧ nI m = M2.1 51 0 0 (106 + 5 * i + 4) := by simpa using erow
    exact hfin _ (hcls _ (by rw [e0]; decide) e1 e2 rfl) (href _ (by rw [← f0]; decide) f1.symm f2.symm rfl)
  · obtain ⟨e0, e1, e2, e3, e4⟩ : M.1 12 5 i 0 = nI kd ∧ M.1 12 5 i 1 = nI t ∧ M.1 12 5 i 2 = nI j ∧ M.1 12 5 i 3 = nI n ∧ M.1 12 5 i 4 = nI m := by simpa using e
    rw [e] at erow
    obtain ⟨f0, f1, f2, f3, f4⟩ : nI kd = M2.1 51 0 0 (106 + 5 * i) ∧ nI t = M2.1 51 0 0 (106 + 5 * i + 1) ∧ nI j = M2.1 51 0 0 (106 + 5 * i + 2) ∧ nI n = M2.1 51 0 0 (106 + 5 * i + 3) ∧ nI m = M2.1 51 0 0 (106 + 5 * i + 4) := by simpa using erow
    have hk5 : ¬ nI kd = 5 := fun q => by
      have := (nI_eq (a := kd) (b := 5) (by omega) (by omega)).mp q
      omega
    exact hfin _ (hcls _ (by rw [e0]; exact hk5) e1 e2 rfl) (href _ (by rw [← f0]; exact hk5) f1.symm f2.symm rfl)
