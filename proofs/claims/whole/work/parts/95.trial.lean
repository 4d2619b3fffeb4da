/-! ANOTHER RUN: without one, with another window -/
theorem nI_predm {n : Nat} (h : 0 < n) : nI n - 1 = nI (n - 1) := by
  obtain ⟨m, rfl⟩ : ∃ m, n = m + 1 := ⟨n - 1, by omega⟩
  rw [nI_pred]
  rfl
theorem c_count {b : Nat} {M : Mw} {β : Bw} {L : Lw} {FO FM : UInt32 → Prop} {FS : Nat → UInt64 → Prop} (hBF : BF β L FO FM FS) (hB : CBd (b + 5) M β L) : ∃ M', F_X5_countRecords b M = some (nI (rcs β L (β 0 0 0)).length, M') ∧ Fr (SRun b) M M' := by
  have hH : β 0 0 0 ≤ 200 := hBF.1.1.1
  obtain ⟨M1, q1, q2, q3⟩ := c_reset hBF.1 hB
  unfold F_X5_countRecords
  rw [q1, Option.bind_some]
  have key := it_for (z := fun _ _ => none) (B := B_X5_countRecords_6 b) (n := β 0 0 0) (P := fun k2 M2 => CRn b M2 β L k2 ∧ Fr (SRun b) M M2) (Q := fun o => ∃ M', o = some (nI (rcs β L (β 0 0 0)).length, M') ∧ Fr (SRun b) M M')
    (fun kk k2 M2 hk2 hP => by
      obtain ⟨p1, p2⟩ := hP
      obtain ⟨x, hG⟩ := p1.2.2.1
      have e5 : M2.1 23 b 0 5 = nI (rn β L k2).1.2.2.2.2.2.1 + (-1) := hG.2.2.1
      have hir := hBF.ir (show k2 ≤ 200 by omega)
      unfold B_X5_countRecords_6
      rw [p1.1.1 0 (by omega), if_neg (nI_ge hk2 (by omega)), e5]
      by_cases c : (rn β L k2).1.2.2.2.2.2.1 = 0
      · left
        rw [if_pos (show nI (rn β L k2).1.2.2.2.2.2.1 + (-1) = -1 by rw [c]; decide)]
        obtain ⟨M3, t1, t2, t3⟩ := c_stepN hBF (by omega) p1
        rw [t1, Option.bind_some, bd_eq, nI_1]
        exact ⟨M3, rfl, t2, p2.trans t3⟩
      · right
        obtain ⟨k', k1, k2'⟩ := hir.2.1 c
        have hb := k2'.1.2.2.2.2.2
        rw [if_neg (nI_m1n c (by omega)), (whole_rec p1).1]
        have e := rn_halt c (β 0 0 0 - k2)
        rw [show k2 + (β 0 0 0 - k2) = β 0 0 0 by omega] at e
        have e' : rcs β L (β 0 0 0) = rcs β L k2 := by
          unfold rcs
          rw [e]
        rw [e']
        exact ⟨M2, rfl, p2⟩)
    (fun kk M2 hP => by
      obtain ⟨p1, p2⟩ := hP
      unfold B_X5_countRecords_6
      rw [p1.1.1 0 (by omega), if_pos (Int32.le_refl _), (whole_rec p1).1]
      exact ⟨M2, rfl, p2⟩)
    FU 0 M1 (Nat.zero_le _) (by unfold FU; omega) ⟨q2, q3⟩
  rw [nI_0] at key
  exact key
/-- cells of the other run alone -/
theorem oni_trial {M M' : Mw} (h : Fr (fun κ b => (κ ≤ 12 ∧ b = 7) ∨ (23 ≤ κ ∧ κ ≤ 35 ∧ b = 2)) M M') : OnI M M' := by
  have e : M'.1 50 = M.1 50 := h.k1 (fun b => by omega)
  exact ⟨h.mono (fun κ b q => by omega), by rw [e], by rw [e], by rw [e]⟩
theorem CBd.in7 {M M' : Mw} {β : Bw} {L : Lw} (h : CBd 7 M β L) (e0 : M'.1 0 7 = M.1 0 7) (e : ∀ κ, 0 < κ → κ ≤ 12 → κ ≠ 4 → M'.1 κ 7 = M.1 κ 7) (h4 : ∀ t, t < β 0 0 5 → ∀ j, j < 7 → M'.1 4 7 t j = nI (β 4 t j)) : CBd 7 M' β L := by
  obtain ⟨a1, a2, a3, a4, a5, a6, a7⟩ := h
  refine ⟨by rw [e0]; exact a1, by rw [e0]; exact a2, h4, ?_, ?_, ?_, ?_⟩
  · rw [e 6 (by decide) (by decide) (by decide), e 8 (by decide) (by decide) (by decide)]; exact a4
  · rw [e 1 (by decide) (by decide) (by decide), e 2 (by decide) (by decide) (by decide)]; exact a5
  · rw [e 10 (by decide) (by decide) (by decide)]; exact a6
  · rw [e 12 (by decide) (by decide) (by decide)]; exact a7
theorem c_drop {b : Nat} {M : Mw} {β : Bw} {L : Lw} {i : Nat} (hL : L.length ≤ 18) (hi : i < L.length) (h : CBd b M β L) : ∃ M', F_X0_dropInjection b (nI i) M = some M' ∧ CBd b M' β (L.eraseIdx i) ∧ Fr (fun κ b' => (κ = 0 ∨ κ = 12) ∧ b' = b) M M' := by
  obtain ⟨a1, ⟨a, c, h6, h7, hac⟩, a3, a4, a5, a6, a7⟩ := h
  have hlen : (L.eraseIdx i).length = L.length - 1 := List.length_eraseIdx_of_lt hi
  unfold F_X0_dropInjection
  exact it_for (z := fun _ _ => none) (B := B_X0_dropInjection_2 b (nI i)) (n := L.length - 1)
    (P := fun n M1 => i ≤ n ∧ Fr (fun κ b' => κ = 12 ∧ b' = b) M M1 ∧ ∀ j, row5 (M1.1 12 b j) = if i ≤ j ∧ j < n then row5 (M.1 12 b (j + 1)) else row5 (M.1 12 b j))
    (Q := fun o => ∃ M', o = some M' ∧ CBd b M' β (L.eraseIdx i) ∧ Fr (fun κ b' => (κ = 0 ∨ κ = 12) ∧ b' = b) M M')
    (fun kk n M1 hn hP => by
      obtain ⟨p1, p2, p3⟩ := hP
      left
      have e0 : M1.1 0 b = M.1 0 b := (p2 0 b (by omega)).1
      unfold B_X0_dropInjection_2
      rw [e0, h6, h7, nI_add, hac, nI_predm (by omega), if_neg (nI_ge hn (by omega)), nI_1, if_pos (inb_nI (by omega) (by omega)), if_pos (inb_nI (by omega) (by omega)), clampI (by omega), clampI (by omega), bd_eq, bd_eq]
      refine ⟨_, rfl, by omega, p2.trans (Fr.rI ⟨rfl, rfl⟩), fun j => ?_⟩
      rw [rI1]
      by_cases z : j = n
      · subst z
        rw [if_pos ⟨rfl, rfl, rfl⟩, if_pos ⟨p1, by omega⟩]
        have hs := p3 (j + 1)
        rw [if_neg (by omega)] at hs
        rw [← hs]
        unfold row5
        rw [cpy_in (by omega), cpy_in (by omega), cpy_in (by omega), cpy_in (by omega), cpy_in (by omega)]
      · rw [if_neg (fun q => z q.2.2), p3 j]
        by_cases y : i ≤ j ∧ j < n
        · rw [if_pos y, if_pos ⟨y.1, by omega⟩]
        · rw [if_neg y, if_neg (fun q => y ⟨q.1, by omega⟩)])
    (fun kk M1 hP => by
      obtain ⟨p1, p2, p3⟩ := hP
      have e0 : M1.1 0 b = M.1 0 b := (p2 0 b (by omega)).1
      have e : ∀ κ, κ ≠ 12 → M1.1 κ b = M.1 κ b := fun κ hκ => (p2 κ b (fun q => hκ q.1)).1
      have hfin : ∀ (M2 : Mw) (a' c' : Nat), Fr (fun κ b' => κ = 0 ∧ b' = b) M1 M2 → (∀ j, j ≠ 6 → j ≠ 7 → M2.1 0 b 0 j = M1.1 0 b 0 j) → M2.1 0 b 0 6 = nI a' → M2.1 0 b 0 7 = nI c' → a' + c' = L.length - 1 → CBd b M2 β (L.eraseIdx i) ∧ Fr (fun κ b' => (κ = 0 ∨ κ = 12) ∧ b' = b) M M2 := by
        intro M2 a' c' hF g1 g6 g7 g8
        have e' : ∀ κ, κ ≠ 0 → M2.1 κ b = M1.1 κ b := fun κ hκ => (hF κ b (fun q => hκ q.1)).1
        refine ⟨⟨fun j hj => ?_, ⟨a', c', g6, g7, by rw [hlen]; exact g8⟩, ?_, ?_, ?_, ?_, fun j hj => ?_⟩, (p2.mono (fun κ b' q => ⟨Or.inr q.1, q.2⟩)).trans (hF.mono (fun κ b' q => ⟨Or.inl q.1, q.2⟩))⟩
        · rw [g1 j hj.2.1 hj.2.2, e0]; exact a1 j hj
        · rw [e' 4 (by decide), e 4 (by decide)]; exact a3
        · rw [e' 6 (by decide), e 6 (by decide), e' 8 (by decide), e 8 (by decide)]; exact a4
        · rw [e' 1 (by decide), e 1 (by decide), e' 2 (by decide), e 2 (by decide)]; exact a5
        · rw [e' 10 (by decide), e 10 (by decide)]; exact a6
        · rw [hlen] at hj
          rw [e' 12 (by decide), p3 j, List.getElem?_eraseIdx]
          by_cases z : i ≤ j
          · rw [if_neg (by omega), if_pos ⟨z, hj⟩]
            exact a7 (j + 1) (by omega)
          · rw [if_pos (by omega), if_neg (fun q => z q.1)]
            exact a7 j (by omega)
      unfold B_X0_dropInjection_2
      rw [e0, h6, h7, nI_add, hac, nI_predm (by omega), if_pos (Int32.le_refl _)]
      by_cases ca : a ≤ i
      · rw [if_pos (nI_le ca (by omega)), nI_predm (by omega), bd_eq]
        obtain ⟨f1, f2⟩ := hfin (uIw M1 0 b 0 7 (nI (c - 1))) a (c - 1) (Fr.uI ⟨rfl, rfl⟩) (fun j _ z => by rw [uI1, if_neg (fun q => z q.2.2.2)]) (by rw [uI1, if_neg (fun q => absurd q.2.2.2 (by decide)), e0, h6]) (by rw [uI1, if_pos ⟨rfl, rfl, rfl, rfl⟩]) (by omega)
        exact ⟨_, rfl, f1, f2⟩
      · rw [if_neg (nI_ge (by omega) (by omega)), nI_predm (by omega), bd_eq]
        obtain ⟨f1, f2⟩ := hfin (uIw M1 0 b 0 6 (nI (a - 1))) (a - 1) c (Fr.uI ⟨rfl, rfl⟩) (fun j z _ => by rw [uI1, if_neg (fun q => z q.2.2.2)]) (by rw [uI1, if_pos ⟨rfl, rfl, rfl, rfl⟩]) (by rw [uI1, if_neg (fun q => absurd q.2.2.2 (by decide)), e0, h7]) (by omega)
        exact ⟨_, rfl, f1, f2⟩)
    FU i M (by omega) (by unfold FU; omega) ⟨Nat.le_refl _, Fr.rfl, fun j => by rw [if_neg (by omega)]⟩
theorem GB.er {β : Bw} {L : Lw} (h : GB β L) (i : Nat) : GB β (L.eraseIdx i) := by
  obtain ⟨g1, g2, g3, g4, g5, g6, g7, g8, g9⟩ := h
  exact ⟨g1, g2, g3, g4, g5, g6, g7, Nat.le_trans (List.length_eraseIdx_le L i) g8, fun r hr => g9 r (List.mem_of_mem_eraseIdx hr)⟩
theorem BF.gb {β β' : Bw} {L L' : Lw} {FO FM : UInt32 → Prop} {FS : Nat → UInt64 → Prop} (h : BF β L FO FM FS) (hg : GB β' L') (e1 : β' 0 0 1 = β 0 0 1) (e2 : β' 0 0 2 = β 0 0 2) : BF β' L' FO FM FS := ⟨hg, h.2.1, by rw [e2]; exact h.2.2.1, by rw [e1]; exact h.2.2.2.1, h.2.2.2.2⟩
theorem Gx.lp {β : Bw} {L : Lw} (h : Gx β L) (hl : 0 < L.length) : 0 < β 0 0 3 := by
  by_cases z : 0 < β 0 0 3
  · exact z
  · have := (h.2.2.2.2.1 (by omega)).2.2.2.2.2
    rw [this] at hl
    exact absurd hl (by decide)
theorem Gx.tp {β : Bw} {L : Lw} (h : Gx β L) {t : Nat} (ht : t < β 0 0 5) : 0 < β 0 0 3 := by
  by_cases z : 0 < β 0 0 3
  · exact z
  · have := (h.2.2.2.2.1 (by omega)).2.2.2.2.1
    omega
theorem c_lack {M : Mw} {β : Bw} {L : Lw} {i : Nat} (h : IBd M β L) (hi : i < L.length) : ∃ M', F_X8_recordsLacking 1 (nI i) M = some (nI (rcs β (L.eraseIdx i) (β 0 0 0)).length, M') ∧ OnI M M' := by
  have hx := h.1
  obtain ⟨M1, q1, q2, q3⟩ := c_copy (b := 7) (b1 := 1) (by decide) hx.1 h.2.1
  obtain ⟨M2, r1, r2, r3⟩ := c_drop hx.len hi q2.d
  obtain ⟨M3, s1, s2⟩ := c_count (b := 2) ((hx.bf (hx.lp (by omega))).gb (hx.1.er i) rfl rfl) r2
  refine ⟨M3, ?_, oni_trial (((q3.mono (fun κ b q => by omega)).trans (r3.mono (fun κ b q => by omega))).trans (s2.mono (fun κ b q => by omega)))⟩
  unfold F_X8_recordsLacking
  have q1' : F_X0_copyFrom (2 + 5) 1 M = some M1 := q1
  have r1' : F_X0_dropInjection (2 + 5) (nI i) M1 = some M2 := r1
  rw [q1', Option.bind_some, r1', Option.bind_some, s1, Option.bind_some]
theorem lrf_er {M : Mw} {L : Lw} {i : Nat} (h23 : M.1 50 0 0 23 = nI i) (hL : L.length ≤ 1000) (hi : i < L.length) (h : ∀ j, j < L.length → L[j]? = some (rowR M j)) : ∀ d k, k + d = L.length → LRf M k L.length = if i < k then L.drop k else (L.drop k).eraseIdx (i - k) := by
  intro d
  induction d with
  | zero =>
    intro k hk
    rw [show k = L.length by omega, LRf_end, if_pos hi, List.drop_length]
  | succ d ih =>
    intro k hk
    rw [LRf_step (by omega), ih (k + 1) (by omega), h23, drop_row (h k (by omega))]
    by_cases z : k = i
    · subst z
      rw [if_neg (fun q => q rfl), if_pos (by omega), if_neg (by omega), Nat.sub_self, List.eraseIdx_cons_zero]
    · rw [if_pos (fun q => z ((nI_eq (by omega) (by omega)).mp q))]
      by_cases y : i < k
      · rw [if_pos (by omega), if_pos y]
      · rw [if_neg (by omega), if_neg y, show i - k = (i - (k + 1)) + 1 by omega, List.eraseIdx_cons_succ]
theorem r_lack {M : Mw} {β : Bw} {L : Lw} {i : Nat} (hx : Gx β L) (hw : RWd (M.1 51 0 0) β L) (hi : i < L.length) : ∃ M', F_X10_recordsWithout (nI i) M = some (nI (rcs β (L.eraseIdx i) (β 0 0 0)).length, M') ∧ OnI M M' ∧ M'.1 51 = M.1 51 := by
  obtain ⟨M1, q1, q23, q24, q27, qF, qo⟩ := r_asTold M
  have hlen := hx.len
  obtain ⟨M2, hM2⟩ : ∃ M2, M2 = uIw M1 50 0 0 23 (nI i) := ⟨_, rfl⟩
  have e51 : M2.1 51 = M.1 51 := by rw [hM2, uI_k (by decide), qF.k1 (fun b => by omega)]
  have e50 : ∀ j, j ≠ 23 → M2.1 50 0 0 j = M1.1 50 0 0 j := fun j hj => by rw [hM2, uI1, if_neg (fun q => hj q.2.2.2)]
  have e23 : M2.1 50 0 0 23 = nI i := by rw [hM2, uI1, if_pos ⟨rfl, rfl, rfl, rfl⟩]
  have hO : OnI M M2 := by
    refine ⟨(qF.mono (fun κ _ q => by omega)).trans (by rw [hM2]; exact Fr.uI (by omega)), ?_, ?_, ?_⟩
    · rw [e50 5 (by decide), qo 5 (by decide) (by decide) (by decide)]
    · rw [e50 12 (by decide), qo 12 (by decide) (by decide) (by decide)]
    · rw [e50 13 (by decide), qo 13 (by decide) (by decide) (by decide)]
  have hB : RBd M2 β (L.eraseIdx i) := by
    have hT5 := hx.1.1.2.2.2.2
    obtain ⟨⟨w0, w1, w2, w3, w4, w5, w6, w7⟩, wt, wn, ww, wi⟩ := hw
    have ne : ∀ t, t < β 0 0 5 → ¬ nI t = M2.1 50 0 0 24 := fun t ht => by rw [e50 24 (by decide), q24]; exact nI_nm1 (by omega)
    have hrow : ∀ j, j < L.length → L[j]? = some (rowR M2 j) := fun j hj => by
      have := wi j hj
      unfold rowR
      rw [e51]
      exact this
    refine ⟨by rw [e51]; exact ⟨w0, w1, w2, w3, w4⟩, fun t ht j hj _ _ => by rw [e51]; exact wt t ht j hj, fun t ht => ?_, by rw [e51]; exact wn, by rw [e51]; exact ww, ⟨L.length, by omega, ?_, ?_, fun j hj => ?_⟩⟩
    · rw [if_neg (ne t ht), if_neg (ne t ht), e51]
      exact ⟨wt t ht 2 (by omega), wt t ht 3 (by omega)⟩
    · rw [e51, w5, w6, e50 27 (by decide), q27, nI_add, hx.2.2.2.1, Int32.add_zero]
    · rw [lrf_er e23 (by omega) hi hrow L.length 0 (by omega), if_neg (by omega)]
      rfl
    · exact hx.1.2.2.2.2.2.2.2.2 _ (List.mem_of_getElem? (hrow j hj))
  obtain ⟨M3, t1, t2, t3⟩ := r_runs ((hx.bf (hx.lp (by omega))).gb (hx.1.er i) rfl rfl) hB hx.H
  refine ⟨M3, ?_, hO.trans t3.i, by rw [t3.1.k1 (fun b => by omega), e51]⟩
  unfold F_X10_recordsWithout
  rw [q1, Option.bind_some, bd_eq, ← hM2, e51, hw.1.1, t1, Option.bind_some, (ref_rec t2).1]
theorem ok_without : ∀ M : Mw, Inv M → ∀ a1 : Int32, ∃ (r1 : Int32 × Mw) (r2 : Int32 × Mw), F_X9_without a1 M = some r1 ∧ F_X10_without a1 r1.2 = some r2 ∧ r1.1 = r2.1 ∧ Inv r2.2 := by
  intro M hM a1
  obtain ⟨β, L, h⟩ := hM
  rcases inj_cases h.2.1 a1 with ⟨t1, t2⟩ | ⟨i, hi, rfl, t1, t2⟩
  · refine ⟨((-2), M), ((-2), M), ?_, ?_, rfl, β, L, h⟩
    · unfold F_X9_without
      rw [t1, Option.bind_some, if_pos rfl]
    · unfold F_X10_without
      rw [t2 M h.2.1.2.2, Option.bind_some, if_pos rfl]
  · obtain ⟨M1, q1, q2⟩ := c_lack h.2.1 hi
    have h1 := h.i q2
    obtain ⟨M2, r1, r2, r3⟩ := r_lack h1.2.1.1 h1.2.1.2.2 hi
    refine ⟨(nI (rcs β (L.eraseIdx i) (β 0 0 0)).length, M1), (nI (rcs β (L.eraseIdx i) (β 0 0 0)).length, M2), ?_, ?_, ?_, β, L, h1.i r2⟩
    · unfold F_X9_without
      rw [t1, Option.bind_some, if_neg (show ¬ (1 : Int32) = 0 by decide), q1, Option.bind_some]
    · show F_X10_without (nI i) M1 = _
      unfold F_X10_without
      rw [t2 M1 h1.2.1.2.2, Option.bind_some, if_neg (show ¬ (1 : Int32) = 0 by decide), r1, Option.bind_some]
    · rfl
