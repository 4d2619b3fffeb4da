/-! THE RUN, on both sides -/
theorem RRun.halted {M : Mw} {β : Bw} {L : Lw} {k k' : Nat} {r : Rsw} (h : RRun M β L k r) (hh : r.1.2.2.2.2.2.1 ≠ 0) : RRun M β L k' r := by
  obtain ⟨h1, h2, h3, h4, h5, h6, h7⟩ := h
  refine ⟨h1, ?_, h3, h4, h5, h6, h7⟩
  have e : rvR β k' r = rvR β k r := by
    unfold rvR
    rw [if_pos hh, if_pos hh]
  rw [e]
  exact h2
theorem rn_halt {β : Bw} {L : Lw} {k : Nat} (h : (rn β L k).1.2.2.2.2.2.1 ≠ 0) : ∀ d, rn β L (k + d) = rn β L k := by
  intro d
  induction d with
  | zero => rfl
  | succ d ih =>
    show stR β L (k + d) (rn β L (k + d)) = _
    rw [ih]
    exact if_pos h
/-- what is asked of a board, of floats, once for all -/
def BF (β : Bw) (L : Lw) (FO FM : UInt32 → Prop) (FS : Nat → UInt64 → Prop) : Prop := GB β L ∧ FH FO FM FS ∧ nf (FP.fdiv (FP.i2f (nI (β 0 0 2))) 1092616192) = true ∧ 5 ≤ β 0 0 1 ∧ FO FP.fconst1 ∧ FS 0 FP.dconst0
theorem BF.ir {β : Bw} {L : Lw} {FO FM : UInt32 → Prop} {FS : Nat → UInt64 → Prop} (h : BF β L FO FM FS) {k : Nat} (hk : k ≤ 200) : IR β L FO FM FS k (rn β L k) := IR_rn h.1 h.2.1 h.2.2.2.1 h.2.2.2.2.1 h.2.2.2.2.2 k hk
theorem div_cy {β : Bw} {k : Nat} (hY : 5 ≤ β 0 0 1) (hk : k ≤ 200) : k / β 0 0 1 ≤ 40 := by
  have h1 : k / β 0 0 1 ≤ k / 5 := Nat.div_le_div_left hY (by omega)
  have h2 : k / 5 ≤ 40 := by omega
  omega
theorem r_runs {M : Mw} {β : Bw} {L : Lw} {FO FM : UInt32 → Prop} {FS : Nat → UInt64 → Prop} (hBF : BF β L FO FM FS) (h : RBd M β L) {n : Nat} (hn : n ≤ 200) : ∃ M', F_X10_runs (nI n) M = some M' ∧ RRun M' β L n (rn β L n) ∧ OnT M M' := by
  obtain ⟨hg, hF, hlow, hY, hO, hS⟩ := id hBF
  obtain ⟨M1, q1, q2, q3, q83⟩ := r_beginRun (M := M) hg.1.2.2.2.2
  have h1 := q2.run hg.1.2.2.2.1 hg.1.2.2.2.2 q83 (h.onT q3)
  have key := it_for (z := fun _ _ => none) (B := B_X10_runs_6 (nI n)) (n := n) (P := fun k M2 => RRun M2 β L k (rn β L k) ∧ OnT M M2)
    (Q := fun o => ∃ M', o = some M' ∧ RRun M' β L n (rn β L n) ∧ OnT M M')
    (fun kk k M2 hk hP => by
      obtain ⟨p1, p2⟩ := hP
      obtain ⟨x, hG⟩ := p1.2.2.1
      have e59 : M2.1 50 0 0 59 = nI (rn β L k).1.2.2.2.2.2.1 + (-1) := hG.2.1
      have hir := hBF.ir (show k ≤ 200 by omega)
      unfold B_X10_runs_6
      rw [if_neg (nI_ge hk (by omega)), e59]
      by_cases c : (rn β L k).1.2.2.2.2.2.1 = 0
      · left
        rw [if_pos (show nI (rn β L k).1.2.2.2.2.2.1 + (-1) = -1 by rw [c]; decide)]
        obtain ⟨M3, t1, t2, t3⟩ := r_tick hg hF hlow hY (by omega) (div_cy hY (by omega)) c (hir.1 c) p1
        rw [t1, Option.bind_some, bd_eq, nI_1]
        exact ⟨M3, rfl, t2, p2.trans t3⟩
      · right
        obtain ⟨k', k1, k2⟩ := hir.2.1 c
        have hb := k2.1.2.2.2.2.2
        rw [if_neg (nI_m1n c (by omega))]
        refine ⟨M2, rfl, ?_, p2⟩
        have e := rn_halt c (n - k)
        rw [show k + (n - k) = n by omega] at e
        rw [e]
        exact p1.halted c)
    (fun kk M2 hP => by
      unfold B_X10_runs_6
      rw [if_pos (Int32.le_refl _)]
      exact ⟨M2, rfl, hP⟩)
    FU 0 M1 (Nat.zero_le _) (by unfold FU; omega) ⟨h1, q3⟩
  rw [nI_0] at key
  unfold F_X10_runs
  rw [q1, Option.bind_some]
  exact key
/-- the class's run, k ticks behind its begin -/
def lO (O : Nat → Nat) (k : Nat) : Nat := if k = 0 then 0 else O (k - 1)
def CRn (b : Nat) (M : Mw) (β : Bw) (L : Lw) (k : Nat) : Prop := CRun b M β L k (rn β L k) (rn β L k).2.1 (rn β L k).2.2.1 (lO (rn β L k).2.2.2 k) (idl (rn β L k).2.2.2 k)
theorem c_stepN {b : Nat} {M : Mw} {β : Bw} {L : Lw} {FO FM : UInt32 → Prop} {FS : Nat → UInt64 → Prop} (hBF : BF β L FO FM FS) {k : Nat} (hk : k < 200) (h : CRn b M β L k) : ∃ M', F_X5_step b M = some M' ∧ CRn b M' β L (k + 1) ∧ Fr (SRun b) M M' := by
  obtain ⟨hg, hF, hlow, hY, hO, hS⟩ := id hBF
  have hir := hBF.ir (show k ≤ 200 by omega)
  obtain ⟨i1, i2, i3, i4, i5⟩ := hir
  have ern : rn β L (k + 1) = stR β L k (rn β L k) := rfl
  by_cases c : (rn β L k).1.2.2.2.2.2.1 = 0
  · obtain ⟨M', q1, q2, q3⟩ := c_step hg hF hlow hY hk (div_cy hY (by omega)) c (i1 c) i3 h
    refine ⟨M', q1, ?_, q3⟩
    unfold CRn
    have est : stR β L k (rn β L k) = (tkS β L k (rn β L k).1, tkK β L k (rn β L k).1 (rn β L k).2.1, beA β k (rn β L k).1.1 (rn β L k).2.2.1 (β 0 0 5), fun i => if i = k then tkO β L k (rn β L k).1 else (rn β L k).2.2.2 i) := if_neg (fun q => q c)
    have e1 : lO (rn β L (k + 1)).2.2.2 (k + 1) = tkO β L k (rn β L k).1 := by
      unfold lO
      rw [if_neg (by omega), ern, est, Nat.add_sub_cancel]
      exact if_pos rfl
    have e2 : idl (rn β L (k + 1)).2.2.2 (k + 1) = idl (rn β L k).2.2.2 k + (if tkO β L k (rn β L k).1 = 0 then 1 else 0) := by
      rw [ern, est]
      show idl (fun i => if i = k then tkO β L k (rn β L k).1 else (rn β L k).2.2.2 i) k + (if (if k = k then tkO β L k (rn β L k).1 else (rn β L k).2.2.2 k) = 0 then 1 else 0) = _
      rw [if_pos rfl, idl_same k (fun i hi => if_neg (by omega))]
    rw [e1, e2, ern]
    have e3 : (stR β L k (rn β L k)).2.1 = tkK β L k (rn β L k).1 (rn β L k).2.1 := by rw [est]
    have e4 : (stR β L k (rn β L k)).2.2.1 = beA β k (rn β L k).1.1 (rn β L k).2.2.1 (β 0 0 5) := by rw [est]
    rw [e3, e4]
    exact q2
  · obtain ⟨k', k1, k2⟩ := i2 c
    have hb := k2.1.2.2.2.2.2
    obtain ⟨M', q1, q2, q3⟩ := c_stepH hg hk c (by omega) h
    refine ⟨M', q1, ?_, q3⟩
    have est : stR β L k (rn β L k) = rn β L k := if_pos c
    unfold CRn
    have e1 : lO (rn β L (k + 1)).2.2.2 (k + 1) = 0 := by
      unfold lO
      rw [if_neg (by omega), ern, est, Nat.add_sub_cancel]
      exact i4 k (Nat.le_refl k)
    have e2 : idl (rn β L (k + 1)).2.2.2 (k + 1) = idl (rn β L k).2.2.2 k + 1 := by
      rw [ern, est]
      show idl (rn β L k).2.2.2 k + (if (rn β L k).2.2.2 k = 0 then 1 else 0) = _
      rw [if_pos (i4 k (Nat.le_refl k))]
    have e3 : (rn β L (k + 1)).2.1 = (rn β L k).2.1 := by rw [ern, est]
    have e4 : (rn β L (k + 1)).2.2.1 = (rn β L k).2.2.1 := by rw [ern, est]
    rw [e1, e2, e3, e4]
    exact q2
/-- the class's run anew -/
theorem c_reset1 {b t : Nat} {M : Mw} {β : Bw} {L : Lw} : ∃ M', F_X7_reset b t M = some M' ∧ CT b M' β L V0w t ∧ On25 b t M M' := by
  unfold F_X7_reset F_X7_forgetCycle F_X7_restartAt
  simp only [bd_eq, Option.bind_some]
  refine ⟨_, rfl, ?_, ?_⟩
  · have e6 : V0w.1 t 6 = 1 := rfl
    have e0 : ∀ f, f ≠ 6 → V0w.1 t f = 0 := fun f hf => if_neg hf
    have em : nI 0 + (-1) = -1 := by decide
    unfold CT
    rw [e6, e0 0 (by decide), e0 1 (by decide), e0 2 (by decide), e0 3 (by decide), e0 5 (by decide), e0 7 (by decide), e0 8 (by decide), e0 9 (by decide), e0 10 (by decide), e0 12 (by decide), e0 13 (by decide), e0 14 (by decide), em]
    refine ⟨?_, ?_, ?_, fun q => absurd q (Nat.lt_irrefl 0), ?_, ?_, ?_, ?_, ?_, ?_, ?_, ?_, ?_, ?_, fun q => absurd q (Nat.lt_irrefl 0), ?_⟩
    · simp [uI1, uF1, uD1]; decide
    · simp [uI1, uF1, uD1]; decide
    · simp [uI1, uF1, uD1]
    · simp [uI1, uF1, uD1]
    · simp [uI1, uF1, uD1]; decide
    · simp [uI1, uF1, uD1]; decide
    · simp [uI1, uF1, uD1]; decide
    · simp [uI1, uF1, uD1]; decide
    · simp [uI1, uF1, uD1]; decide
    · simp [uI1, uF1, uD1]; decide
    · simp [uI1, uF1, uD1]
    · simp [uI1, uF1, uD1]; decide
    · simp [uI2, uF2, uD2]; rfl
    · simp [uI2, uF3, uD3]; rfl
  · refine On25.trans ?_ On25.uI
    refine On25.trans ?_ On25.uI
    refine On25.trans ?_ On25.uI
    refine On25.trans ?_ On25.uI
    refine On25.trans ?_ On25.uI
    refine On25.trans ?_ On25.uI
    refine On25.trans ?_ On25.uI
    refine On25.trans ?_ On25.uI
    refine On25.trans ?_ On25.uD
    refine On25.trans ?_ On25.uF
    refine On25.trans ?_ On25.uI
    refine On25.trans ?_ On25.uI
    refine On25.trans ?_ On25.uI
    refine On25.trans ?_ On25.uF
    refine On25.trans ?_ On25.uI
    exact On25.uI.trans On25.uI
theorem c_reset {b : Nat} {M : Mw} {β : Bw} {L : Lw} (hg : GB β L) (hB : CBd (b + 5) M β L) : ∃ M', F_X5_reset b M = some M' ∧ CRn b M' β L 0 ∧ Fr (SRun b) M M' := by
  have hT5 := hg.1.2.2.2.2
  have hW3 := hg.1.2.2.2.1
  have k62 : ∀ M1 : Mw, Fr (SRun b) M M1 → (∀ t, t < β 0 0 5 → CT b M1 β L V0w t) → (∀ j, j = 6 ∨ j = 4 ∨ j = 7 ∨ j = 12 → M1.1 23 b 0 j = 0) → (∀ j, j = 3 ∨ j = 5 → M1.1 23 b 0 j = -1) → M1.1 26 b 0 1 = 0 → ∃ M', it (fun _ _ => none) (B_X5_reset_62 b) FU 0 M1 = some M' ∧ CRn b M' β L 0 ∧ Fr (SRun b) M M' := by
    intro M1 hF1 hT1 hz hm h26
    have key := it_for (z := fun _ _ => none) (B := B_X5_reset_62 b) (n := 3) (P := fun n M2 => (∀ w, w < n → M2.1 33 b 0 w = -1 ∧ M2.1 34 b 0 w = 0) ∧ Fr (fun κ b' => (κ = 33 ∨ κ = 34) ∧ b' = b) M1 M2)
      (Q := fun o => ∃ M', o = some M' ∧ CRn b M' β L 0 ∧ Fr (SRun b) M M')
      (fun kk n M2 hn hP => by
        obtain ⟨p1, p2⟩ := hP
        left
        have hin : inb (nI n) 3 = true := inb_nI hn (by omega)
        unfold B_X5_reset_62
        rw [if_neg (show ¬ (3 : Int32) ≤ nI n from nI_ge (b := 3) hn (by omega)), if_pos hin, clampI (by omega), bd_eq, if_pos hin, nar0, bd_eq, bd_eq, nI_1]
        refine ⟨_, rfl, fun i hi => ?_, (p2.trans (Fr.uI ⟨Or.inl rfl, rfl⟩)).trans (Fr.uI ⟨Or.inr rfl, rfl⟩)⟩
        by_cases z : i = n
        · subst z
          refine ⟨?_, ?_⟩
          · rw [uI_k (by decide), uI1, if_pos ⟨rfl, rfl, rfl, rfl⟩]
          · rw [uI1, if_pos ⟨rfl, rfl, rfl, rfl⟩]
        · rw [uI_k (by decide), uI1, if_neg (fun q => z q.2.2.2), uI1, if_neg (fun q => z q.2.2.2), uI_k (by decide)]
          exact p1 i (by omega))
      (fun kk M2 hP => by
        obtain ⟨p1, p2⟩ := hP
        unfold B_X5_reset_62
        rw [if_pos (show (3 : Int32) ≤ nI 3 by decide)]
        have hF2 : Fr (SRun b) M M2 := hF1.trans (p2.mono (fun κ b' q => ⟨by omega, by omega, q.2⟩))
        have e23 : M2.1 23 b = M1.1 23 b := (p2 23 b (by omega)).1
        have em : nI 0 + (-1) = -1 := by decide
        refine ⟨M2, rfl, ⟨hB.run hF2, fun t ht => ?_, ⟨(M2.1 23 b 0 8).toBitVec.toNat, ?_⟩, ⟨?_, fun i r hr => ?_⟩, fun t ht j hj _ => absurd hj (Nat.not_lt_zero _), ?_, ?_⟩, hF2⟩
        · obtain ⟨o1, o2, o3⟩ := p2 25 b (by omega)
          exact (hT1 t ht).to (by rw [o1]) (by rw [o2]) (by rw [o3]) VE.rfl
        · refine ⟨?_, ?_, ?_, (nI_any _).symm, fun w hw => ?_, ?_, fun i r hr => ?_⟩
          · rw [e23]; exact hz 6 (by omega)
          · rw [e23]; exact hz 7 (by omega)
          · rw [e23, hm 5 (by omega)]
            show (-1 : Int32) = nI 0 + (-1)
            exact em.symm
          · obtain ⟨a1, a2⟩ := p1 w (by omega)
            refine ⟨?_, a2⟩
            rw [a1]
            show (-1 : Int32) = nI 0 + (-1)
            exact em.symm
          · rw [(p2 26 b (by omega)).1]
            exact h26
          · have hr' : ([] : List (Nat × Nat × Nat × Nat))[i]? = some r := hr
            rw [List.getElem?_nil] at hr'
            exact absurd hr' (by intro q; cases q)
        · rw [e23]; exact hz 12 (by omega)
        · have hr' : ([] : List (Nat × Nat))[i]? = some r := hr
          rw [List.getElem?_nil] at hr'
          exact absurd hr' (by intro q; cases q)
        · rw [e23, hm 3 (by omega)]
          show (-1 : Int32) = nI 0 + (-1)
          exact em.symm
        · rw [e23]; exact hz 4 (by omega))
      FU 0 M1 (by omega) (by unfold FU; omega) ⟨fun w hw => by omega, Fr.rfl⟩
    rw [nI_0] at key
    exact key
  obtain ⟨M1, hM1⟩ : ∃ M1, M1 = uIw (uIw (uIw (uIw (uIw (uIw (uIw M 23 b 0 6 0) 23 b 0 3 (-1)) 23 b 0 4 0) 23 b 0 5 (-1)) 23 b 0 7 0) 23 b 0 12 0) 26 b 0 1 0 := ⟨_, rfl⟩
  have hF1 : Fr (SRun b) M M1 := by
    rw [hM1]
    exact ((((((Fr.uI ⟨by decide, by decide, rfl⟩).trans (Fr.uI ⟨by decide, by decide, rfl⟩)).trans (Fr.uI ⟨by decide, by decide, rfl⟩)).trans (Fr.uI ⟨by decide, by decide, rfl⟩)).trans (Fr.uI ⟨by decide, by decide, rfl⟩)).trans (Fr.uI ⟨by decide, by decide, rfl⟩)).trans (Fr.uI ⟨by decide, by decide, rfl⟩)
  have key := it_for (z := fun _ _ => none) (B := B_X5_reset_40 b) (n := 5) (P := fun n M2 => (∀ t, t < n → CT b M2 β L V0w t) ∧ Fr (fun κ b' => κ = 25 ∧ b' = b) M1 M2)
    (Q := fun o => ∃ M', o = some M' ∧ CRn b M' β L 0 ∧ Fr (SRun b) M M')
    (fun kk n M2 hn hP => by
      obtain ⟨p1, p2⟩ := hP
      left
      obtain ⟨M3, q1, q2, q3⟩ := c_reset1 (b := b) (t := n) (M := M2) (β := β) (L := L)
      unfold B_X5_reset_40
      rw [if_neg (show ¬ (5 : Int32) ≤ nI n from nI_ge (b := 5) hn (by omega)), if_pos (inb_nI hn (by omega)), clampI (by omega), q1, Option.bind_some, bd_eq, nI_1]
      refine ⟨M3, rfl, fun t ht => ?_, p2.trans q3.fr⟩
      by_cases z : t = n
      · subst z
        exact q2
      · obtain ⟨o1, o2, o3⟩ := q3 25 b t (fun q => z q.2.2)
        exact (p1 t (by omega)).to o1 o2 o3 VE.rfl)
    (fun kk M2 hP => by
      obtain ⟨p1, p2⟩ := hP
      unfold B_X5_reset_40
      rw [if_pos (show (5 : Int32) ≤ nI 5 by decide)]
      have e23 : M2.1 23 b = M1.1 23 b := (p2 23 b (by omega)).1
      refine k62 M2 (hF1.trans (p2.mono (fun κ b' q => ⟨by omega, by omega, q.2⟩))) (fun t ht => p1 t (by omega)) (fun j hj => ?_) (fun j hj => ?_) ?_
      · rw [e23, hM1]
        rcases hj with rfl | rfl | rfl | rfl <;> simp [uI1]
      · rw [e23, hM1]
        rcases hj with rfl | rfl <;> simp [uI1]
      · rw [(p2 26 b (by omega)).1, hM1]
        simp [uI1])
    FU 0 M1 (by omega) (by unfold FU; omega) ⟨fun t ht => by omega, Fr.rfl⟩
  rw [nI_0] at key
  unfold F_X5_reset
  simp only [bd_eq]
  rw [← hM1]
  exact key
theorem CRn.now {b : Nat} {M : Mw} {β : Bw} {L : Lw} {k : Nat} (h : CRn b M β L k) : M.1 23 b 0 6 = nI k := by
  obtain ⟨x, hG⟩ := h.2.2.1
  exact hG.1
theorem c_show {b : Nat} {M : Mw} {β : Bw} {L : Lw} {FO FM : UInt32 → Prop} {FS : Nat → UInt64 → Prop} (hBF : BF β L FO FM FS) {k n : Nat} (hk : k ≤ 200) (hn : n ≤ β 0 0 0) (h : CRn b M β L k) : ∃ M', F_X5_show b (nI n) M = some M' ∧ CRn b M' β L n ∧ Fr (SRun b) M M' := by
  have hH : β 0 0 0 ≤ 200 := hBF.1.1.1
  have hgo : ∀ (M1 : Mw) (k1 : Nat), k1 ≤ n → CRn b M1 β L k1 → Fr (SRun b) M M1 → ∃ M', B_X5_show_12 b (nI n) M1 = some M' ∧ CRn b M' β L n ∧ Fr (SRun b) M M' := by
    intro M1 k1 hk1 h1 hF1
    unfold B_X5_show_12
    rw [h1.now, bd_eq]
    exact it_for (n := n) (P := fun k2 M2 => CRn b M2 β L k2 ∧ Fr (SRun b) M M2) (Q := fun o => ∃ M', o = some M' ∧ CRn b M' β L n ∧ Fr (SRun b) M M')
      (fun kk k2 M2 hk2 hP => by
        obtain ⟨p1, p2⟩ := hP
        left
        obtain ⟨M3, q1, q2, q3⟩ := c_stepN hBF (by omega) p1
        unfold B_X5_show_17
        rw [if_neg (nI_ge hk2 (by omega)), p1.1.1 0 (by omega), if_neg (nI_ge (by omega) (by omega)), q1, Option.bind_some, bd_eq, nI_1]
        exact ⟨M3, rfl, q2, p2.trans q3⟩)
      (fun kk M2 hP => by
        unfold B_X5_show_17
        rw [if_pos (Int32.le_refl _)]
        exact ⟨M2, rfl, hP⟩)
      FU k1 M1 hk1 (by unfold FU; omega) ⟨h1, hF1⟩
  unfold F_X5_show
  rw [h.now]
  by_cases c : k ≤ n
  · rw [if_pos (nI_le c (by omega))]
    exact hgo M k c h Fr.rfl
  · obtain ⟨M1, q1, q2, q3⟩ := c_reset hBF.1 h.1
    rw [if_neg (nI_ge (by omega) (by omega)), q1, Option.bind_some]
    exact hgo M1 0 (Nat.zero_le _) q2 q3
