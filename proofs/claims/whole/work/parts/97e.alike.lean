theorem ok_ways : ∀ M : Mw, Inv M → ∀ a1 : Int32, ∃ (r1 : Int32 × Mw) (r2 : Int32 × Mw), F_X9_ways a1 M = some r1 ∧ F_X10_ways a1 r1.2 = some r2 ∧ r1.1 = r2.1 ∧ Inv r2.2 := by
  intro M hM a1
  obtain ⟨β, L, h⟩ := hM
  have hx := h.2.1.1
  have hg := hx.1
  rcases task_cases h.2.1 a1 with ⟨t1, t2⟩ | ⟨t, ht, rfl, t1, t2⟩
  · refine ⟨((-2), M), ((-2), M), ?_, ?_, rfl, β, L, h⟩
    · unfold F_X9_ways
      rw [t1, Option.bind_some, if_pos rfl]
    · show F_X10_ways a1 M = _
      unfold F_X10_ways
      rw [t2 M h.2.1.2.2, Option.bind_some, if_pos rfl]
  obtain ⟨-, -, -, -, -, -, -, -, n1, n6⟩ := hg.2.2.2.1 t ht
  obtain ⟨M1, q1, q2, q3⟩ := c_tally hg (q := 0) h.2.1.2.1.d ht (by omega)
  have q1' : F_X2_tallyAnswers 1 (nI t) 0 M = some M1 := q1
  have hs : dms (fun a => wyF β t a 0 0) 64 = goN β t 2 := by
    unfold goN
    rw [← wy_sum hg ht (β 4 t 6) 0 0 (Nat.le_refl _) (by omega) (by omega)]
    refine dms_c 64 (fun a _ => ?_)
    unfold wyF
    have := wy_st6 hg (a := a) ht (n := 0) (h := 0) (by omega) (6 - β 4 t 6) (β 4 t 6) (by omega)
    rw [show β 4 t 6 + (6 - β 4 t 6) = 6 by omega] at this
    exact this
  have key := it_forA (z := fun _ _ => none) (B := B_X2_countWays_12 1 M1) (n := 64) (P := fun i a => a = nI (dms (fun a => wyF β t a 0 0) i)) (Q := fun o => o = some (nI (goN β t 2), M1))
    (fun kk i a hi hP => by
      left
      unfold B_X2_countWays_12
      rw [hP, if_neg (show ¬ (64 : Int32) ≤ nI i from nI_ge (b := 64) hi (by omega)), if_pos (inb_nI hi (by omega)), clampI (by omega), q3 i hi, nI_add, bd_eq, nI_1, bd_eq]
      exact ⟨_, rfl, rfl⟩)
    (fun kk a hP => by
      unfold B_X2_countWays_12
      rw [hP, if_pos (show (64 : Int32) ≤ nI 64 by decide), hs])
    FU 0 (nI 0) (Nat.zero_le _) (by unfold FU; omega) rfl
  rw [nI_0] at key
  have ho : OnI M M1 := by
    have e : M1.1 50 = M.1 50 := q2.k1 (fun b => by omega)
    exact ⟨q2.mono (fun κ b q => by omega), by rw [e], by rw [e], by rw [e]⟩
  have h1 := h.i ho
  obtain ⟨M2, r1, r2⟩ := r_goes hg h1.2.1.2.2.n ht (show 2 ≤ 2 by omega)
  refine ⟨(nI (goN β t 2), M1), (nI (goN β t 2), M2), ?_, ?_, rfl, β, L, h1.i (oni_k r2 (by omega))⟩
  · unfold F_X9_ways F_X2_countWays
    rw [t1, Option.bind_some, if_neg (show ¬ (1 : Int32) = 0 by decide), q1', Option.bind_some, key, Option.bind_some]
  · show F_X10_ways (nI t) M1 = _
    unfold F_X10_ways
    have r1' : F_X10_goes (nI t) 2 M1 = some (nI (goN β t 2), M2) := r1
    rw [t2 M1 h1.2.1.2.2, Option.bind_some, if_neg (show ¬ (1 : Int32) = 0 by decide), r1', Option.bind_some]
/-- the reference walks all ways -/
theorem r_ways {β : Bw} {L : Lw} (hg : GB β L) {t : Nat} (ht : t < β 0 0 5) : ∀ d n h (M : Mw), RNd M β → n < β 4 t 6 → β 4 t 6 ≤ n + d → h < 64 → ∃ M', F_X10_goesWaysR d (nI t) (nI n) (nI h) M = some M' ∧ Fr (fun κ _ => κ = 63) M M' ∧ ∀ a, a < 64 → M'.1 63 0 0 a = M.1 63 0 0 a + nI (wyF β t a n h) := by
  obtain ⟨-, -, -, -, -, -, -, -, n1, n6⟩ := hg.2.2.2.1 t ht
  intro d
  induction d with
  | zero => intro n h M _ h1 h2; omega
  | succ d ih =>
    intro n h M hR h1 h2 hh
    obtain ⟨-, -, hv, hbits⟩ := hg.2.2.2.2.1 t n ht h1
    have hl6 := scl_len _ hv
    have ha64 := ansH_lt h n
    have h27 : ∀ M1 : Mw, Fr (fun κ _ => κ = 63) M M1 → (∀ a, a < 64 → M1.1 63 0 0 a = M.1 63 0 0 a + nI (if β 8 t n = 0 ∧ ansH h n = a then 1 else 0)) → ∃ M', B_X10_goesWays_27 (F_X10_goesWaysR d) (nI t) (nI n) (nI (ansH h n)) M1 = some M' ∧ Fr (fun κ _ => κ = 63) M M' ∧ ∀ a, a < 64 → M'.1 63 0 0 a = M.1 63 0 0 a + nI (wyF β t a n h) := by
      intro M1 hF1 h63
      unfold B_X10_goesWays_27
      rw [nI_1, bd_eq]
      exact it_for (z := fun _ _ => none) (B := B_X10_goesWays_32 (F_X10_goesWaysR d) (nI t) (nI n) (nI (ansH h n))) (n := β 4 t 6)
        (P := fun k M2 => n < k ∧ Fr (fun κ _ => κ = 63) M M2 ∧ ∀ a, a < 64 → M2.1 63 0 0 a = M.1 63 0 0 a + nI ((if β 8 t n = 0 ∧ ansH h n = a then 1 else 0) + dms (fun k => if (β 8 t n).testBit k = true then wyF β t a k (ansH h n) else 0) k))
        (Q := fun o => ∃ M', o = some M' ∧ Fr (fun κ _ => κ = 63) M M' ∧ ∀ a, a < 64 → M'.1 63 0 0 a = M.1 63 0 0 a + nI (wyF β t a n h))
        (fun kk k M2 hk hP => by
          obtain ⟨p1, p2, p3⟩ := hP
          left
          have hR2 : RNd M2 β := hR.e (p2.k1 (fun b => by omega))
          unfold B_X10_goesWays_32
          rw [r_nodesN hg hR2 ht, Option.bind_some, if_neg (nI_ge hk (by omega)), r_behindN hg hR2 ht hk (by omega), Option.bind_some]
          by_cases cb : (β 8 t n).testBit k = true
          · rw [show (if n < k ∧ (β 8 t n).testBit k = true then (1 : Int32) else 0) = 1 from if_pos ⟨p1, cb⟩, if_neg (show ¬ (1 : Int32) = 0 by decide)]
            obtain ⟨M3, s1, s2, s3⟩ := ih k (ansH h n) M2 hR2 hk (by omega) ha64
            rw [s1, Option.bind_some, nI_1, bd_eq]
            refine ⟨M3, rfl, by omega, p2.trans s2, fun a ha => ?_⟩
            rw [s3 a ha, p3 a ha, Int32.add_assoc, nI_add]
            show _ = _ + nI (_ + (dms (fun k => if (β 8 t n).testBit k = true then wyF β t a k (ansH h n) else 0) k + (if (β 8 t n).testBit k = true then wyF β t a k (ansH h n) else 0)))
            rw [if_pos cb, Nat.add_assoc]
          · rw [show (if n < k ∧ (β 8 t n).testBit k = true then (1 : Int32) else 0) = 0 from if_neg (fun q => cb q.2), if_pos rfl, nI_1, bd_eq]
            refine ⟨M2, rfl, by omega, p2, fun a ha => ?_⟩
            rw [p3 a ha]
            show _ = _ + nI (_ + (dms (fun k => if (β 8 t n).testBit k = true then wyF β t a k (ansH h n) else 0) k + (if (β 8 t n).testBit k = true then wyF β t a k (ansH h n) else 0)))
            rw [if_neg cb, Nat.add_zero])
        (fun kk M2 hP => by
          obtain ⟨p1, p2, p3⟩ := hP
          have hR2 : RNd M2 β := hR.e (p2.k1 (fun b => by omega))
          unfold B_X10_goesWays_32
          rw [r_nodesN hg hR2 ht, Option.bind_some, if_pos (Int32.le_refl _)]
          refine ⟨M2, rfl, p2, fun a ha => ?_⟩
          rw [p3 a ha, wyF_eqN hg ht h1])
        FU (n + 1) M1 (by omega) (by unfold FU; omega) ⟨by omega, hF1, fun a ha => by
          rw [h63 a ha, dms_0 (n + 1) (fun k hk => if_neg (fun z => by have := (hbits k z).1; omega)), Nat.add_zero]⟩
    show ∃ M', F_X10_goesWays (F_X10_goesWaysR d) (nI t) (nI n) (nI h) M = some M' ∧ _
    unfold F_X10_goesWays
    rw [r_ans hh (by omega), Option.bind_some, r_followersN hg hR ht h1, Option.bind_some]
    by_cases c : β 8 t n = 0
    · rw [if_pos (show nI (scl (β 8 t n)).length = 0 by rw [(scl_0 _ hv).mpr c]; rfl), if_pos (inb_nI ha64 (by omega)), if_pos (inb_nI ha64 (by omega)), clampI (by omega), bd_eq]
      refine h27 _ (Fr.uI rfl) (fun a ha => ?_)
      rw [uI1]
      by_cases z : a = ansH h n
      · rw [if_pos ⟨rfl, rfl, rfl, z⟩, if_pos ⟨c, z.symm⟩, z]
        rfl
      · rw [if_neg (fun y => z y.2.2.2), if_neg (fun y => z y.2.symm), nI_0, Int32.add_zero]
    · have hlen : (scl (β 8 t n)).length ≠ 0 := fun z => c ((scl_0 _ hv).mp z)
      rw [if_neg (nI_ne0 (by omega) (by omega))]
      refine h27 M Fr.rfl (fun a ha => ?_)
      rw [if_neg (fun y => c y.1), nI_0, Int32.add_zero]
theorem ok_alike : ∀ M : Mw, Inv M → ∀ a1 a2 : Int32, ∃ (r1 : Int32 × Mw) (r2 : Int32 × Mw), F_X9_alike a1 a2 M = some r1 ∧ F_X10_alike a1 a2 r1.2 = some r2 ∧ r1.1 = r2.1 ∧ Inv r2.2 := by
  intro M hM a1 a2
  obtain ⟨β, L, h⟩ := hM
  have hx := h.2.1.1
  have hg := hx.1
  rcases task_cases h.2.1 a1 with ⟨t1, t2⟩ | ⟨t, ht, rfl, t1, t2⟩
  · refine ⟨((-2), M), ((-2), M), ?_, ?_, rfl, β, L, h⟩
    · unfold F_X9_alike
      rw [t1, Option.bind_some, if_pos rfl]
    · show F_X10_alike a1 a2 M = _
      unfold F_X10_alike
      rw [t2 M h.2.1.2.2, Option.bind_some, if_pos rfl]
  rcases ques_cases a2 M with ⟨u1, u2⟩ | ⟨q, hq, rfl, u1, u2⟩
  · refine ⟨((-2), M), ((-2), M), ?_, ?_, rfl, β, L, h⟩
    · unfold F_X9_alike
      rw [t1, Option.bind_some, if_neg (show ¬ (1 : Int32) = 0 by decide), u1, Option.bind_some, if_pos rfl]
    · show F_X10_alike (nI t) a2 M = _
      unfold F_X10_alike
      rw [t2 M h.2.1.2.2, Option.bind_some, if_neg (show ¬ (1 : Int32) = 0 by decide), u2, Option.bind_some, if_pos rfl]
  obtain ⟨-, -, -, -, -, -, -, -, n1, n6⟩ := hg.2.2.2.1 t ht
  obtain ⟨M1, q1, q2, q3⟩ := c_tally hg h.2.1.2.1.d ht hq
  have ho : OnI M M1 := by
    have e : M1.1 50 = M.1 50 := q2.k1 (fun b => by omega)
    exact ⟨q2.mono (fun κ b q => by omega), by rw [e], by rw [e], by rw [e]⟩
  have h1 := h.i ho
  obtain ⟨S, hS⟩ : ∃ S : Nat → Int32, S = Nat.rec 0 (fun i s => s + ((nI (wyF β t i 0 q) * (nI (wyF β t i 0 q) - 1)) / 2)) := ⟨_, rfl⟩
  have hS0 : S 0 = 0 := by
    rw [hS]
    rfl
  have hS1 : ∀ i, S (i + 1) = S i + ((nI (wyF β t i 0 q) * (nI (wyF β t i 0 q) - 1)) / 2) := fun i => by rw [hS]
  have key := it_forA (z := fun _ _ => none) (B := B_X2_countPairs_13 1 M1) (n := 64) (P := fun i a => a = S i) (Q := fun o => o = some (S 64, M1))
    (fun kk i a hi hP => by
      left
      unfold B_X2_countPairs_13
      rw [hP, if_neg (show ¬ (64 : Int32) ≤ nI i from nI_ge (b := 64) hi (by omega)), if_pos (inb_nI hi (by omega)), if_pos (inb_nI hi (by omega)), if_neg (show ¬ (2 : Nat) = 0 by decide), clampI (by omega), q3 i hi, bd_eq, nI_1, bd_eq]
      exact ⟨_, rfl, (hS1 i).symm⟩)
    (fun kk a hP => by
      unfold B_X2_countPairs_13
      rw [hP, if_pos (show (64 : Int32) ≤ nI 64 by decide)])
    FU 0 0 (Nat.zero_le _) (by unfold FU; omega) hS0.symm
  rw [nI_0] at key
  have k2 : ∃ M2, it (fun _ _ => none) (B_X10_alike_25 (nI t) (nI q)) FU (nI 0) M1 = some (S 64, M2) ∧ OnI M1 M2 :=
    it_for (z := fun _ _ => none) (B := B_X10_alike_25 (nI t) (nI q)) (n := 64)
      (P := fun l M2 => Fr (fun κ _ => κ = 63) M1 M2 ∧ ∀ a, a < l → M2.1 63 0 0 a = 0)
      (Q := fun o => ∃ M2, o = some (S 64, M2) ∧ OnI M1 M2)
      (fun kk l M2 hl hP => by
        obtain ⟨p1, p2⟩ := hP
        left
        unfold B_X10_alike_25
        rw [if_neg (show ¬ (64 : Int32) ≤ nI l from nI_ge (b := 64) hl (by omega)), if_pos (inb_nI hl (by omega)), clampI (by omega), bd_eq, nI_1, bd_eq]
        refine ⟨_, rfl, p1.trans (Fr.uI rfl), fun a ha => ?_⟩
        rw [uI1]
        by_cases z : a = l
        · rw [if_pos ⟨rfl, rfl, rfl, z⟩]
        · rw [if_neg (fun y => z y.2.2.2)]
          exact p2 a (by omega))
      (fun kk M2 hP => by
        obtain ⟨p1, p2⟩ := hP
        have hR2 : RNd M2 β := h1.2.1.2.2.n.e (p1.k1 (fun b => by omega))
        obtain ⟨M3, s1, s2, s3⟩ := r_ways hg ht 7 0 q M2 hR2 (by omega) (by omega) hq
        have s1' : F_X10_goesWaysR 7 (nI t) 0 (nI q) M2 = some M3 := s1
        have e63 : ∀ a, a < 64 → M3.1 63 0 0 a = nI (wyF β t a 0 q) := fun a ha => by rw [s3 a ha, p2 a ha, Int32.zero_add]
        have key2 := it_forA (z := fun _ _ => none) (B := B_X10_alike_56 M3) (n := 64) (P := fun i a => a = S i) (Q := fun o => o = some (S 64, M3))
          (fun kk i a hi hP => by
            left
            unfold B_X10_alike_56
            rw [hP, if_neg (show ¬ (64 : Int32) ≤ nI i from nI_ge (b := 64) hi (by omega)), if_pos (inb_nI hi (by omega)), if_pos (inb_nI hi (by omega)), if_neg (show ¬ (2 : Nat) = 0 by decide), clampI (by omega), e63 i hi, bd_eq, nI_1, bd_eq]
            exact ⟨_, rfl, (hS1 i).symm⟩)
          (fun kk a hP => by
            unfold B_X10_alike_56
            rw [hP, if_pos (show (64 : Int32) ≤ nI 64 by decide)])
          FU 0 0 (Nat.zero_le _) (by unfold FU; omega) hS0.symm
        rw [nI_0] at key2
        unfold B_X10_alike_25
        rw [if_pos (show (64 : Int32) ≤ nI 64 by decide), s1', Option.bind_some, key2]
        exact ⟨M3, rfl, oni_k (p1.trans s2) (by omega)⟩)
      FU 0 M1 (Nat.zero_le _) (by unfold FU; omega) ⟨Fr.rfl, fun a ha => by omega⟩
  rw [nI_0] at k2
  obtain ⟨M2, r1, r2⟩ := k2
  refine ⟨(S 64, M1), (S 64, M2), ?_, ?_, rfl, β, L, h1.i r2⟩
  · unfold F_X9_alike F_X2_countPairs
    rw [t1, Option.bind_some, if_neg (show ¬ (1 : Int32) = 0 by decide), u1, Option.bind_some, if_neg (show ¬ (1 : Int32) = 0 by decide), q1, Option.bind_some, key, Option.bind_some]
  · show F_X10_alike (nI t) (nI q) M1 = _
    unfold F_X10_alike
    rw [t2 M1 h1.2.1.2.2, Option.bind_some, if_neg (show ¬ (1 : Int32) = 0 by decide), u2, Option.bind_some, if_neg (show ¬ (1 : Int32) = 0 by decide), r1]
