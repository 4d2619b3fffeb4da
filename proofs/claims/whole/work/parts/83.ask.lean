/-! ASKED OF THE RUN -/
theorem Gx.bf {β : Bw} {L : Lw} (h : Gx β L) (hl : 0 < β 0 0 3) : BF β L FOx FOx FSx := ⟨h.1, fx_H, fx_low _ h.1.1.2.2.1, (h.2.2.2.2.2.1 hl).2, fx_1, fx_0⟩
theorem Gx.H {β : Bw} {L : Lw} (h : Gx β L) : β 0 0 0 ≤ 200 := h.1.1.1
theorem r_isBoard {M : Mw} {β : Bw} {L : Lw} (hx : Gx β L) (hw : RWd (M.1 51 0 0) β L) : F_X10_isBoard M = some (if 0 < β 0 0 3 then 1 else 0) := by
  have h3 := hx.2.2.2.2.2.2.1
  unfold F_X10_isBoard
  rw [hw.1.2.2.2.2.2.2.2]
  by_cases c : 0 < β 0 0 3
  · rw [if_neg (nI_nle c (by omega)), if_pos c]
  · rw [if_pos (show nI (β 0 0 3) ≤ 0 by rw [show β 0 0 3 = 0 by omega]; decide), if_neg c]
/-- the run up to a tick, as told -/
theorem r_toldRun {M : Mw} {β : Bw} {L : Lw} (hx : Gx β L) (hl : 0 < β 0 0 3) (hw : RWd (M.1 51 0 0) β L) {n : Nat} (hn : n ≤ 200) : ∃ M1 M2, F_X10_asTold M = some M1 ∧ F_X10_runs (nI n) M1 = some M2 ∧ RRun M2 β L n (rn β L n) ∧ OnI M M2 ∧ M1.1 51 = M.1 51 ∧ M2.1 51 = M.1 51 := by
  obtain ⟨M1, q1, q23, q24, q27, qF, qo⟩ := r_asTold M
  have e51 : M1.1 51 = M.1 51 := qF.k1 (fun b => by omega)
  have hB : RBd M1 β L := rbd_told hx (by rw [e51]; exact hw) q23 q24 q27
  obtain ⟨M2, t1, t2, t3⟩ := r_runs (hx.bf hl) hB hn
  have hO : OnI M M1 := ⟨qF.mono (fun κ _ q => by omega), qo 5 (by decide) (by decide) (by decide), qo 12 (by decide) (by decide) (by decide), qo 13 (by decide) (by decide) (by decide)⟩
  exact ⟨M1, M2, q1, t1, t2, hO.trans t3.i, e51, by rw [t3.1.k1 (fun b => by omega), e51]⟩
theorem r_asks {M : Mw} {β : Bw} {L : Lw} (hx : Gx β L) (hw : RWd (M.1 51 0 0) β L) : (0 < β 0 0 3 ∧ ∃ M2, F_X10_asks M = some (1, M2) ∧ RRun M2 β L (β 0 0 0) (rn β L (β 0 0 0)) ∧ OnI M M2 ∧ M2.1 51 = M.1 51) ∨ (β 0 0 3 = 0 ∧ ∃ M2, F_X10_asks M = some (0, M2) ∧ OnI M M2 ∧ M2.1 51 = M.1 51) := by
  by_cases c : 0 < β 0 0 3
  · left
    obtain ⟨M1, M2, q1, q2, q3, q4, q5, q6⟩ := r_toldRun hx c hw hx.H
    refine ⟨c, M2, ?_, q3, q4, q6⟩
    unfold F_X10_asks
    rw [q1, Option.bind_some, r_isBoard hx (by rw [q5]; exact hw), Option.bind_some, if_pos c, if_neg (by decide), q5, hw.1.1, q2, Option.bind_some, r_isBoard hx (by rw [q6]; exact hw), Option.bind_some, if_pos c, if_pos (by decide)]
  · right
    obtain ⟨M1, q1, q23, q24, q27, qF, qo⟩ := r_asTold M
    have e51 : M1.1 51 = M.1 51 := qF.k1 (fun b => by omega)
    refine ⟨by omega, M1, ?_, ⟨qF.mono (fun κ _ q => by omega), qo 5 (by decide) (by decide) (by decide), qo 12 (by decide) (by decide) (by decide), qo 13 (by decide) (by decide) (by decide)⟩, e51⟩
    unfold F_X10_asks
    rw [q1, Option.bind_some, r_isBoard hx (by rw [e51]; exact hw), Option.bind_some, if_neg c, if_pos rfl, Option.bind_some, if_pos (by decide)]
theorem r_in0 (p : Int32) {n : Nat} (hn : n < 2 ^ 30) (M : Mw) : F_X10_in p.toInt64 0 ((nI n - 1).toInt64) M = some (if ¬ p < 0 ∧ p < nI n then 1 else 0) := by
  rw [r_inLL p 0 _ 0 (nI n - 1) (by decide) rfl]
  have e : (0 ≤ p ∧ p ≤ nI n - 1) ↔ (¬ p < 0 ∧ p < nI n) := by
    constructor
    · rintro ⟨h1, h2⟩
      refine ⟨Int32.not_lt.mpr h1, ?_⟩
      cases n with
      | zero =>
        have : nI 0 - 1 = -1 := by decide
        rw [this] at h2
        exact absurd (Int32.le_trans h1 h2) (by decide)
      | succ n =>
        rw [nI_pred] at h2
        exact (le_pred p (by omega)).mp h2
    · rintro ⟨h1, h2⟩
      refine ⟨Int32.not_lt.mp h1, ?_⟩
      cases n with
      | zero => exact absurd (Int32.lt_of_lt_of_le h2 (show nI 0 ≤ 0 by decide)) h1
      | succ n =>
        rw [nI_pred]
        exact (le_pred p (by omega)).mpr h2
  by_cases c : ¬ p < 0 ∧ p < nI n
  · rw [if_pos c, if_pos (e.mpr c)]
  · rw [if_neg c, if_neg (fun q => c (e.mp q))]
theorem rng_cases (p : Int32) {n : Nat} (hn : n < 2 ^ 31) : (∃ j, j < n ∧ p = nI j) ∨ ¬ (¬ p < 0 ∧ p < nI n) := by
  rcases pk_ix p hn with h | h | ⟨j, hj, e⟩
  · exact Or.inr (fun q => q.1 h)
  · exact Or.inr (fun q => absurd q.2 (Int32.not_lt.mpr h))
  · exact Or.inl ⟨j, hj, e⟩
theorem rng_in {j n : Nat} (h : j < n) (hn : n < 2 ^ 31) : ¬ nI j < 0 ∧ nI j < nI n := ⟨nI_pos (by omega), nI_lt h hn⟩
theorem task_cases {M : Mw} {β : Bw} {L : Lw} (h : IBd M β L) (p : Int32) : (F_X0_hasTask 1 p M = some 0 ∧ ∀ M', RWd (M'.1 51 0 0) β L → F_X10_isTask p M' = some 0) ∨ (∃ t, t < β 0 0 5 ∧ p = nI t ∧ F_X0_hasTask 1 p M = some 1 ∧ ∀ M', RWd (M'.1 51 0 0) β L → F_X10_isTask p M' = some 1) := by
  obtain ⟨hx, hc, hw⟩ := h
  have hT5 := hx.1.1.2.2.2.2
  have e : ∀ M' : Mw, RWd (M'.1 51 0 0) β L → F_X10_isTask p M' = some (if ¬ p < 0 ∧ p < nI (β 0 0 5) then 1 else 0) := by
    intro M' hw'
    unfold F_X10_isTask
    rw [hw'.1.2.2.2.2.1, r_in0 p (by omega), Option.bind_some]
    by_cases c : ¬ p < 0 ∧ p < nI (β 0 0 5)
    · rw [if_pos c, if_pos (by decide)]
    · rw [if_neg c, if_pos (by decide)]
  rcases rng_cases p (show β 0 0 5 < 2 ^ 31 by omega) with ⟨t, ht, rfl⟩ | c
  · right
    refine ⟨t, ht, rfl, ?_, fun M' hw' => ?_⟩
    · rw [c_hasTask (hc.c 5 (by omega)) hT5, if_pos (rng_in ht (by omega))]
    · rw [e M' hw', if_pos (rng_in ht (by omega))]
  · left
    refine ⟨?_, fun M' hw' => ?_⟩
    · rw [c_hasTask (hc.c 5 (by omega)) hT5, if_neg c]
    · rw [e M' hw', if_neg c]
theorem tick_cases {M : Mw} {β : Bw} {L : Lw} (h : IBd M β L) (p : Int32) : (F_X9_isTick p M = some 0 ∧ ∀ M', RWd (M'.1 51 0 0) β L → F_X10_asksAt p M' = some (0, M')) ∨ (0 < β 0 0 3 ∧ ∃ k, k ≤ β 0 0 0 ∧ p = nI k ∧ F_X9_isTick p M = some 1 ∧ ∀ M', RWd (M'.1 51 0 0) β L → ∃ M2, F_X10_asksAt p M' = some (1, M2) ∧ RRun M2 β L k (rn β L k) ∧ OnI M' M2) := by
  obtain ⟨hx, hc, hw⟩ := h
  have hH := hx.H
  have h3 := hx.2.2.2.2.2.2.1
  have e : ∀ M' : Mw, RWd (M'.1 51 0 0) β L → F_X10_isTick p M' = some (if 0 < β 0 0 3 ∧ (¬ p < 0 ∧ p < nI (β 0 0 0 + 1)) then 1 else 0) := by
    intro M' hw'
    unfold F_X10_isTick
    rw [r_isBoard hx hw', Option.bind_some]
    by_cases c : 0 < β 0 0 3
    · have en : M'.1 51 0 0 0 = nI (β 0 0 0 + 1) - 1 := by rw [hw'.1.1, nI_pred]
      rw [if_pos c, if_neg (by decide), en, r_in0 p (by omega), Option.bind_some]
      by_cases c2 : ¬ p < 0 ∧ p < nI (β 0 0 0 + 1)
      · rw [if_pos c2, if_neg (by decide), if_pos ⟨c, c2⟩]
      · rw [if_neg c2, if_pos rfl, if_neg (fun q => c2 q.2)]
    · rw [if_neg c, if_pos rfl, if_neg (fun q => c q.1)]
  have ec : F_X9_isTick p M = some (if 0 < β 0 0 3 ∧ (¬ p < 0 ∧ p < nI (β 0 0 0 + 1)) then 1 else 0) := by
    unfold F_X9_isTick
    rw [hc.c 3 (by omega), hc.c 0 (by omega)]
    by_cases c : 0 < β 0 0 3
    · rw [if_neg (nI_nle c (by omega))]
      by_cases c1 : p < 0
      · rw [if_pos c1, if_neg (fun q => q.2.1 c1)]
      · rw [if_neg c1]
        by_cases c2 : nI (β 0 0 0) < p
        · rw [if_pos c2, if_neg (fun q => absurd ((le_pred p (by omega)).mpr q.2.2) (Int32.not_le.mpr c2))]
        · rw [if_neg c2, if_pos ⟨c, c1, (le_pred p (by omega)).mp (Int32.not_lt.mp c2)⟩]
    · rw [if_pos (show nI (β 0 0 3) ≤ 0 by rw [show β 0 0 3 = 0 by omega]; decide), if_neg (fun q => c q.1)]
  by_cases c : 0 < β 0 0 3
  · rcases rng_cases p (show β 0 0 0 + 1 < 2 ^ 31 by omega) with ⟨k, hk, rfl⟩ | c2
    · right
      refine ⟨c, k, by omega, rfl, ?_, fun M' hw' => ?_⟩
      · rw [ec, if_pos ⟨c, rng_in hk (by omega)⟩]
      · obtain ⟨M1, M2, q1, q2, q3, q4, q5, q6⟩ := r_toldRun hx c hw' (show k ≤ 200 by omega)
        refine ⟨M2, ?_, q3, q4⟩
        unfold F_X10_asksAt
        rw [e M' hw', if_pos ⟨c, rng_in hk (by omega)⟩, Option.bind_some, if_neg (by decide), q1, Option.bind_some, q2, Option.bind_some]
    · left
      refine ⟨by rw [ec, if_neg (fun q => c2 q.2)], fun M' hw' => ?_⟩
      unfold F_X10_asksAt
      rw [e M' hw', if_neg (fun q => c2 q.2), Option.bind_some, if_pos rfl]
  · left
    refine ⟨by rw [ec, if_neg (fun q => c q.1)], fun M' hw' => ?_⟩
    unfold F_X10_asksAt
    rw [e M' hw', if_neg (fun q => c q.1), Option.bind_some, if_pos rfl]
/-- the view at a tick -/
theorem v_show {M : Mw} {β : Bw} {L : Lw} (h : InvB M β L) (hl : 0 < β 0 0 3) {k : Nat} (hk : k ≤ β 0 0 0) : ∃ M1, F_X5_show 1 (nI k) M = some M1 ∧ CRn 1 M1 β L k ∧ InvB M1 β L ∧ Fr (SRun 1) M M1 := by
  obtain ⟨k0, hk0, hv⟩ := h.2.2.2.1
  have hx := h.2.1.1
  have hH := hx.H
  obtain ⟨M1, q1, q2, q3⟩ := c_show (hx.bf hl) (show k0 ≤ 200 by omega) hk hv
  exact ⟨M1, q1, q2, h.view hk q3 q2 (z_F_X5_show h.2.2.2.2.1 _ q1), q3⟩
theorem task_q {M : Mw} {β : Bw} {L : Lw} (h : InvB M β L) (a1 a2 : Int32) : (F_X9_isTaskAndTick a1 a2 M = some 0 ∧ ∃ M', F_X10_asksOf a1 a2 M = some (0, M') ∧ Inv M') ∨ (∃ t k, t < β 0 0 5 ∧ k ≤ β 0 0 0 ∧ 0 < β 0 0 3 ∧ a1 = nI t ∧ F_X9_isTaskAndTick a1 a2 M = some 1 ∧ ∃ M1 M2, F_X9_stateOf a1 a2 M = some M1 ∧ CRn 1 M1 β L k ∧ F_X10_asksOf a1 a2 M1 = some (1, M2) ∧ RRun M2 β L k (rn β L k) ∧ Inv M2) := by
  have hx := h.2.1.1
  have hT5 := hx.1.1.2.2.2.2
  unfold F_X9_isTaskAndTick F_X10_asksOf F_X9_stateOf
  rcases task_cases h.2.1 a1 with ⟨t1, t2⟩ | ⟨t, ht, rfl, t1, t2⟩
  · left
    rw [t1, t2 M h.2.1.2.2, Option.bind_some, Option.bind_some, if_pos rfl, if_pos rfl]
    exact ⟨rfl, M, rfl, β, L, h⟩
  rw [t1, t2 M h.2.1.2.2, Option.bind_some, Option.bind_some, if_neg (by decide), if_neg (by decide)]
  rcases tick_cases h.2.1 a2 with ⟨k1, k2⟩ | ⟨hl, k, hk, rfl, k1, k2⟩
  · left
    rw [k1, k2 M h.2.1.2.2, Option.bind_some, Option.bind_some, if_pos rfl, if_pos rfl]
    exact ⟨rfl, M, rfl, β, L, h⟩
  · right
    obtain ⟨M1, q1, q2, q3, q4⟩ := v_show h hl hk
    obtain ⟨M2, r1, r2, r3⟩ := k2 M1 q3.2.1.2.2
    refine ⟨t, k, ht, hk, hl, rfl, ?_, M1, M2, ?_, q2, ?_, r2, β, L, q3.i r3⟩
    · rw [k1, Option.bind_some, if_neg (by decide)]
    · rw [q1, Option.bind_some, if_pos (inb_nI (by omega) (by omega))]
    · rw [t2 M1 q3.2.1.2.2, Option.bind_some, if_neg (by decide), r1, Option.bind_some, if_neg (show ¬ (1 : Int32) = 0 by decide)]
theorem rv_f {β : Bw} {k : Nat} {r : Rsw} {t f : Nat} (h9 : f ≠ 9) (h10 : f ≠ 10) : (rvR β k r).1 t f = r.1.1.1 t f := by
  unfold rvR
  by_cases c : r.1.2.2.2.2.2.1 ≠ 0
  · rw [if_pos c]
  · rw [if_neg c]
    exact fgF_o _ _ h9 h10
theorem rv_2 {β : Bw} {k : Nat} {r : Rsw} : (rvR β k r).2 = r.1.1.2 := by
  unfold rvR
  by_cases c : r.1.2.2.2.2.2.1 ≠ 0
  · rw [if_pos c]
  · rw [if_neg c]
    rfl
/-- bounds of the run's numbers -/
theorem rn_ivs {β : Bw} {L : Lw} (hx : Gx β L) (hl : 0 < β 0 0 3) {k : Nat} (hk : k ≤ 200) : ∃ k', k' ≤ k ∧ IVS β L FOx FOx FSx k' (k' / β 0 0 1) (rn β L k).1 := by
  obtain ⟨i1, i2, -⟩ := (hx.bf hl).ir hk
  by_cases c : (rn β L k).1.2.2.2.2.2.1 = 0
  · exact ⟨k, Nat.le_refl k, i1 c⟩
  · exact i2 c
theorem rn_len {β : Bw} {L : Lw} (hx : Gx β L) (hl : 0 < β 0 0 3) {k : Nat} (hk : k ≤ 200) : (rcs β L k).length ≤ 90 := by
  obtain ⟨k', h1, h2⟩ := rn_ivs hx hl hk
  obtain ⟨⟨D, hS⟩, -⟩ := h2.1
  exact hS.len hx.1 (div_cy (hx.2.2.2.2.2.1 hl).2 (by omega))
