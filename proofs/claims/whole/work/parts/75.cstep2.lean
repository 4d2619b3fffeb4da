theorem FU_s : FU = 999999 + 1 := rfl
theorem it_FU {γ : Type} (z : γ) (f : γ → γ) : it z f FU = f (it z f 999999) := by
  rw [FU_s]
  exact it_succ z f 999999
theorem c_step {b : Nat} {M : Mw} {β : Bw} {L : Lw} {r : Rsw} {K : List (Nat × Nat)} {A : Nat → Nat → Nat} {k cy l j : Nat} {FO FM : UInt32 → Prop} {FS : Nat → UInt64 → Prop} (hg : GB β L) (hF : FH FO FM FS) (hlow : nf (FP.fdiv (FP.i2f (nI (β 0 0 2))) 1092616192) = true) (hY5 : 5 ≤ β 0 0 1) (hk : k < 200) (hcy : cy ≤ 40) (hh : r.1.2.2.2.2.2.1 = 0) (hI : IVS β L FO FM FS k cy r.1) (hKl : K.length ≤ k) (h : CRun b M β L k r K A l j) :
    ∃ M', F_X5_step b M = some M' ∧ CRun b M' β L (k + 1) (stR β L k r) (tkK β L k r.1 K) (beA β k r.1.1 A (β 0 0 5)) (tkO β L k r.1) (j + (if tkO β L k r.1 = 0 then 1 else 0)) ∧ Fr (SRun b) M M' := by
  obtain ⟨hB, hT, ⟨x, hG⟩, hK, hA, h3, h4⟩ := h
  have hT5 := hg.1.2.2.2.2
  have est : stR β L k r = (tkS β L k r.1, tkK β L k r.1 r.2.1, beA β k r.1.1 r.2.2.1 (β 0 0 5), fun i => if i = k then tkO β L k r.1 else r.2.2.2 i) := if_neg (fun q => q hh)
  obtain ⟨g6, g7, g5, g8, gw, gn, gr⟩ := id hG
  have g5' : M.1 23 b 0 5 = -1 := by
    rw [g5]
    show nI r.1.2.2.2.2.2.1 + (-1) = -1
    rw [hh]
    decide
  obtain ⟨M3, hM3⟩ : ∃ M3, M3 = uIw (uIw M 23 b 0 3 (-1)) 23 b 0 8 0 := ⟨_, rfl⟩
  have hF3 : Fr (fun κ b' => κ = 23 ∧ b' = b) M M3 := by rw [hM3]; exact (Fr.uI ⟨rfl, rfl⟩).trans (Fr.uI ⟨rfl, rfl⟩)
  have e3 : ∀ i, i ≠ 3 → i ≠ 8 → M3.1 23 b 0 i = M.1 23 b 0 i := fun i a d => by rw [hM3, uI1, if_neg (fun q => d q.2.2.2), uI1, if_neg (fun q => a q.2.2.2)]
  have e38 : M3.1 23 b 0 8 = 0 := by rw [hM3, uI1, if_pos ⟨rfl, rfl, rfl, rfl⟩]
  have hB3 : CBd (b + 5) M3 β L := hB.run (hF3.mono (fun κ b' h => ⟨by omega, by omega, h.2⟩))
  have hT3 : CTs b M3 β L r.1.1 := hT.fr hF3 (by omega)
  have hG3 : CG b M3 β k (ovH r.1.2) := by
    refine ⟨?_, ?_, ?_, ?_, fun w hw => ?_, ?_, fun i rr hr => ?_⟩
    · rw [e3 6 (by decide) (by decide), g6]
    · rw [e3 7 (by decide) (by decide), g7]; rfl
    · rw [e3 5 (by decide) (by decide), g5]; rfl
    · rw [e38]; rfl
    · rw [(hF3 33 b (by omega)).1, (hF3 34 b (by omega)).1]
      exact gw w hw
    · rw [(hF3 26 b (by omega)).1]; exact gn
    · rw [(hF3 28 b (by omega)).1]
      exact gr i rr hr
  have hA3 : CA b M3 β r.1.1 A := hA.same (hF3 30 b (by omega)).1 (fun _ => rfl)
  have hIb : IV β L FO FM FS k k cy (beS β k r.1) := IV_be hg hI hh
  have hI1 : IV β L FO FM FS (k + 1) k cy (tk1 β L k r.1) := IV_tk1 hg hF hk hI hh
  obtain ⟨⟨D0, hS0⟩, -⟩ := id hI.1
  have hv0 : VB β r.1.1 := fun t ht => by
    obtain ⟨a7, a0, a1, a2, a5, af⟩ := hS0.2.1 t ht
    have := (hg.2.2.2.1 t ht).2.2.2.2.2.2.2.2.2
    exact ⟨a0, by omega, by omega⟩
  obtain ⟨M4, q1, q2, q3, q4⟩ := c_begin hg hB3 hT3 hA3 hG3.1 (by omega) hv0
  have hB4 : CBd (b + 5) M4 β L := hB3.run (q4.mono (fun κ b' h => ⟨by omega, by omega, h.2⟩))
  have hG4 : CG b M4 β k (ovH r.1.2) := hG3.w (q4 23 b (by omega)).1 (q4 33 b (by omega)).1 (q4 34 b (by omega)).1 (q4 26 b (by omega)).1 (q4 28 b (by omega)).1
  obtain ⟨⟨Db, hSb⟩, hJb, -⟩ := id hIb
  have hvb : VB β (beS β k r.1).1 := fun t ht => by
    obtain ⟨a7, a0, a1, a2, a5, af⟩ := hSb.2.1 t ht
    have := (hg.2.2.2.1 t ht).2.2.2.2.2.2.2.2.2
    exact ⟨a0, by omega, by omega⟩
  have q2' : CTs b M4 β L (beS β k r.1).1 := q2
  have q3' : CA b M4 β (beS β k r.1).1 (beA β k r.1.1 A (β 0 0 5)) := q3
  have hown := c_owner hg hB4 q2' hvb
  have hown' : F_X5_nextOwner b M4 = some (nI (tkO β L k r.1) + (-1)) := hown
  have hol : tkO β L k r.1 ≤ 5 := Nat.le_trans (ow_le _) hT5
  obtain ⟨M5, hM5⟩ : ∃ M5, M5 = uIw M4 23 b 0 3 (nI (tkO β L k r.1) + (-1)) := ⟨_, rfl⟩
  have hF5 : Fr (fun κ b' => κ = 23 ∧ b' = b) M4 M5 := by rw [hM5]; exact Fr.uI ⟨rfl, rfl⟩
  have e5 : ∀ i, i ≠ 3 → M5.1 23 b 0 i = M4.1 23 b 0 i := fun i a => by rw [hM5, uI1, if_neg (fun q => a q.2.2.2)]
  have e53 : M5.1 23 b 0 3 = nI (tkO β L k r.1) + (-1) := by rw [hM5, uI1, if_pos ⟨rfl, rfl, rfl, rfl⟩]
  have hB5 : CBd (b + 5) M5 β L := hB4.run (hF5.mono (fun κ b' h => ⟨by omega, by omega, h.2⟩))
  have hT5' : CTs b M5 β L (beS β k r.1).1 := q2'.fr hF5 (by omega)
  have hG5 : CG b M5 β k (beS β k r.1).2 := by
    obtain ⟨d6, d7, d5, d8, dw, dn, dr⟩ := hG4
    refine ⟨by rw [e5 6 (by decide)]; exact d6, by rw [e5 7 (by decide)]; exact d7, by rw [e5 5 (by decide)]; exact d5, by rw [e5 8 (by decide)]; exact d8, fun w hw => ?_, ?_, fun i rr hr => ?_⟩
    · rw [(hF5 33 b (by omega)).1, (hF5 34 b (by omega)).1]
      exact dw w hw
    · rw [(hF5 26 b (by omega)).1]; exact dn
    · rw [(hF5 28 b (by omega)).1]
      exact dr i rr hr
  have e512 : M5.1 23 b 0 12 = M.1 23 b 0 12 := by rw [e5 12 (by decide), (q4 23 b (by omega)).1, e3 12 (by decide) (by decide)]
  have e54 : M5.1 23 b 0 4 = nI j := by rw [e5 4 (by decide), (q4 23 b (by omega)).1, e3 4 (by decide) (by decide), h4]
  have hK5 : CK b M5 K := hK.fr e512 (by rw [(hF5 31 b (by omega)).1, (q4 31 b (by omega)).1, (hF3 31 b (by omega)).1]) (by rw [(hF5 32 b (by omega)).1, (q4 32 b (by omega)).1, (hF3 32 b (by omega)).1])
  have hA5 : CA b M5 β (beS β k r.1).1 (beA β k r.1.1 A (β 0 0 5)) := q3'.same (hF5 30 b (by omega)).1 (fun _ => rfl)
  -- the tick of the task that has it
  have hwork : ∃ M6, F_X5_work b (M5.1 23 b 0 3) M5 = some M6 ∧ CTs b M6 β L (tk1 β L k r.1).1 ∧ CG b M6 β k (tk1 β L k r.1).2 ∧ CK b M6 (tkK β L k r.1 K) ∧ OnW b M5 M6 := by
    rw [e53]
    by_cases c : tkO β L k r.1 = 0
    · have et : tk1 β L k r.1 = beS β k r.1 := if_pos c
      have eK : tkK β L k r.1 K = K := if_pos c
      rw [et, eK]
      refine ⟨M5, ?_, hT5', hG5, hK5, OnW.rfl⟩
      unfold F_X5_work
      rw [c_hasTask (hB5.1 5 (by omega)) hT5, if_neg (show ¬ (¬ (nI (tkO β L k r.1) + (-1)) < 0 ∧ (nI (tkO β L k r.1) + (-1)) < nI (β 0 0 5)) from fun q => q.1 (by rw [c]; decide)), Option.bind_some, if_pos rfl]
    · have et : tk1 β L k r.1 = wkS β L k (tkO β L k r.1 - 1) (beS β k r.1) := if_neg c
      have eK : tkK β L k r.1 K = wkK β L k (tkO β L k r.1 - 1) (beS β k r.1).1 K := if_neg c
      obtain ⟨w1, w2⟩ := tkO_wB c
      have en : nI (tkO β L k r.1) + (-1) = nI (tkO β L k r.1 - 1) := by
        obtain ⟨n, hn⟩ := Nat.exists_eq_succ_of_ne_zero c
        rw [hn, pk_m1]
        rfl
      rw [et, eK, en]
      exact c_work (V := (beS β k r.1).1) (H := (beS β k r.1).2) hg hF hlow hB5 hT5' hG5 hK5 hk hcy (by omega) w1 w2 rfl hSb (SI_un hSb w1) hJb
  obtain ⟨M6, w1, w2, w3, w4, w5⟩ := hwork
  have hB6 : CBd (b + 5) M6 β L := hB5.run w5.1
  obtain ⟨⟨D1, hS1⟩, hJ1, ho1, -⟩ := id hI1
  obtain ⟨M7, t1, t2, t3, t4, t5, t6⟩ := c_late hg hB6 w2 w3 (by omega) hcy hF.1 hlow hS1 ho1
  have hB7 : CBd (b + 5) M7 β L := hB6.run t6.1
  have hI2 : IV β L FO FM FS (k + 1) k cy (tk2 β L k r.1) := (IV_la hg hF (by omega) hI1 (β 0 0 5) (Nat.le_refl _)).1
  have e73 : M7.1 23 b 0 3 = nI (tkO β L k r.1) + (-1) := by rw [t6.2.2 3 (by decide) (by decide) (by decide), w5.2.2 3 (by decide) (by decide) (by decide) (by decide), e53]
  have e74 : M7.1 23 b 0 4 = nI j := by rw [t6.2.2 4 (by decide) (by decide) (by decide), w5.2.2 4 (by decide) (by decide) (by decide) (by decide), e54]
  have hK7 : CK b M7 (tkK β L k r.1 K) := w4.fr (t6.2.2 12 (by decide) (by decide) (by decide)) (t6.2.1 31 (by decide) (by decide) (by decide) (by decide) (by decide)) (t6.2.1 32 (by decide) (by decide) (by decide) (by decide) (by decide))
  have hA7 : CA b M7 β (beS β k r.1).1 (beA β k r.1.1 A (β 0 0 5)) := hA5.same (by rw [t6.2.1 30 (by decide) (by decide) (by decide) (by decide) (by decide), w5.2.1 30 (by decide) (by decide) (by decide) (by decide) (by decide) (by decide) (by decide)]) (fun _ => rfl)
  obtain ⟨M8, u1, u2, u3, u4, u5, u6, u7, u8, u9, u10⟩ := c_53 (s := tk2 β L k r.1) (l := tkO β L k r.1) (j := j) hg hF hlow hB7 t2 t3 hk hcy (by omega) hI2 hY5 (by omega) e73 e74
  refine ⟨M8, ?_, ⟨hB7.run u6, ?_, ?_, hK7.fr u7 u9 u10, ?_, u4, u5⟩, ?_⟩
  · unfold F_X5_step B_X5_step_19
    have e31 : (uIw M 23 b 0 3 (-1)).1 23 b 0 5 = M.1 23 b 0 5 := by rw [uI1, if_neg (by omega)]
    rw [bd_eq, e31, g5', if_pos rfl, if_pos (by decide), bd_eq, ← hM3, e38, if_pos rfl, q1, Option.bind_some, hown', Option.bind_some, bd_eq, ← hM5, w1, Option.bind_some, t1, Option.bind_some, u1]
  · rw [est]; exact u2
  · have u3' : CG b M8 β (k + 1) (tkS β L k r.1).2 := u3
    rw [est]
    exact ⟨_, u3'⟩
  · rw [est]
    exact hA7.same u8 (fun t => tk_1 t)
  · exact (((((hF3.mono (fun κ b' h => ⟨by omega, by omega, h.2⟩)).trans (q4.mono (fun κ b' h => ⟨by omega, by omega, h.2⟩))).trans (hF5.mono (fun κ b' h => ⟨by omega, by omega, h.2⟩))).trans w5.1).trans t6.1).trans u6
/-- behind a halt -/
theorem c_stepH {b : Nat} {M : Mw} {β : Bw} {L : Lw} {r : Rsw} {K : List (Nat × Nat)} {A : Nat → Nat → Nat} {k l j : Nat} (hg : GB β L) (hk : k < 200) (hh : r.1.2.2.2.2.2.1 ≠ 0) (hh2 : r.1.2.2.2.2.2.1 ≤ 1000) (h : CRun b M β L k r K A l j) :
    ∃ M', F_X5_step b M = some M' ∧ CRun b M' β L (k + 1) (stR β L k r) K A 0 (j + 1) ∧ Fr (SRun b) M M' := by
  obtain ⟨hB, hT, ⟨x, hG⟩, hK, hA, h3, h4⟩ := h
  have hW3 := hg.1.2.2.2.1
  have hT5 := hg.1.2.2.2.2
  have hY50 := hg.1.2.1
  have est : stR β L k r = r := if_pos hh
  obtain ⟨g6, g7, g5, g8, gw, gn, gr⟩ := id hG
  have g5' : ¬ M.1 23 b 0 5 = -1 := by
    rw [g5]
    exact nI_m1n hh (by show r.1.2.2.2.2.2.1 < 2 ^ 31; omega)
  obtain ⟨M3, hM3⟩ : ∃ M3, M3 = uIw (uIw M 23 b 0 3 (-1)) 23 b 0 8 1 := ⟨_, rfl⟩
  have hF3 : Fr (fun κ b' => κ = 23 ∧ b' = b) M M3 := by rw [hM3]; exact (Fr.uI ⟨rfl, rfl⟩).trans (Fr.uI ⟨rfl, rfl⟩)
  have e3 : ∀ i, i ≠ 3 → i ≠ 8 → M3.1 23 b 0 i = M.1 23 b 0 i := fun i a d => by rw [hM3, uI1, if_neg (fun q => d q.2.2.2), uI1, if_neg (fun q => a q.2.2.2)]
  have e38 : M3.1 23 b 0 8 = 1 := by rw [hM3, uI1, if_pos ⟨rfl, rfl, rfl, rfl⟩]
  have e33 : M3.1 23 b 0 3 = nI 0 + (-1) := by
    rw [hM3, uI1, if_neg (by omega), uI1, if_pos ⟨rfl, rfl, rfl, rfl⟩]
    decide
  have hB3 : CBd (b + 5) M3 β L := hB.run (hF3.mono (fun κ b' h => ⟨by omega, by omega, h.2⟩))
  have hT3 : CTs b M3 β L r.1.1 := hT.fr hF3 (by omega)
  have hG3 : CG b M3 β k (r.1.2.1, r.1.2.2.1, r.1.2.2.2.1, r.1.2.2.2.2.1, r.1.2.2.2.2.2.1, 1) := by
    refine ⟨?_, ?_, ?_, ?_, fun w hw => ?_, ?_, fun i rr hr => ?_⟩
    · rw [e3 6 (by decide) (by decide), g6]
    · rw [e3 7 (by decide) (by decide), g7]
    · rw [e3 5 (by decide) (by decide), g5]
    · rw [e38]; rfl
    · rw [(hF3 33 b (by omega)).1, (hF3 34 b (by omega)).1]
      exact gw w hw
    · rw [(hF3 26 b (by omega)).1]; exact gn
    · rw [(hF3 28 b (by omega)).1]
      exact gr i rr hr
  obtain ⟨M', q1, q2, q3, q4, q5, q6, q7⟩ := c_84 (l := 0) (j := j) hT3 hG3 (by omega) e33 (by rw [e3 4 (by decide) (by decide), h4])
  rw [if_pos rfl] at q5
  have h53 : B_X5_step_53 b M3 = some M' := by
    have hlk : F_X5_letWatchersLook b M3 = some M3 := by
      unfold F_X5_letWatchersLook
      rw [hB3.1 4 (by omega), i_sub1, bd_eq]
      rw [it_FU]
      unfold B_X5_letWatchersLook_10
      rw [e38]
      by_cases z : nI (β 0 0 4) + (-1) < 0
      · rw [if_pos z]
      · rw [if_neg z, if_neg (by decide)]
    have hdg : F_X5_askDog b M3 = some M3 := by
      unfold F_X5_askDog
      rw [e38, if_neg (by decide)]
    have hec : F_X5_endCycle b M3 = some M3 := by
      unfold F_X5_endCycle
      rw [it_FU]
      unfold B_X5_endCycle_2
      rw [hB3.1 5 (by omega), e38]
      by_cases z : nI (β 0 0 5) ≤ 0
      · rw [if_pos z]
      · rw [if_neg z, if_neg (by decide)]
    unfold B_X5_step_53
    rw [hB3.1 1 (by omega), hG3.1, nI_1, c_divides (by omega) (by omega), Option.bind_some, hlk, Option.bind_some, hdg, Option.bind_some, hec, Option.bind_some]
    by_cases c : 0 < β 0 0 1 ∧ (k + 1) % β 0 0 1 = 0
    · rw [if_pos c, if_neg (by decide), q1]
    · rw [if_neg c, if_pos rfl, q1]
  refine ⟨M', ?_, ⟨(hB3.run (q6.mono (fun κ b' h => ⟨by omega, by omega, h.2⟩))), by rw [est]; exact q2, by rw [est]; exact ⟨1, q3⟩, ?_, ?_, q4, q5⟩, (hF3.mono (fun κ b' h => ⟨by omega, by omega, h.2⟩)).trans (q6.mono (fun κ b' h => ⟨by omega, by omega, h.2⟩))⟩
  · unfold F_X5_step B_X5_step_19
    have e31 : (uIw M 23 b 0 3 (-1)).1 23 b 0 5 = M.1 23 b 0 5 := by rw [uI1, if_neg (by omega)]
    rw [bd_eq, e31, if_neg g5', if_pos (by decide), bd_eq, ← hM3, e38, if_neg (by decide), h53]
  · exact hK.fr (by rw [q7, e3 12 (by decide) (by decide)]) (by rw [(q6 31 b (by omega)).1, (hF3 31 b (by omega)).1]) (by rw [(q6 32 b (by omega)).1, (hF3 32 b (by omega)).1])
  · rw [est]
    exact hA.same (by rw [(q6 30 b (by omega)).1, (hF3 30 b (by omega)).1]) (fun _ => rfl)
