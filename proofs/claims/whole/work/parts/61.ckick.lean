theorem gdV_f (k : Nat) (V : Vw) (t f : Nat) : (gdV k V t).1 t f = gkF k (V.1 t) f := by
  show (if t = t then gkF k (V.1 t) else V.1 t) f = _
  rw [if_pos rfl]
theorem nI_q (q : Nat) (h : q < 64) : (13 * nI q + 7) - (13 * nI q + 7) / 64 * 64 = nI ((13 * q + 7) % 64) := by
  rw [show (13 : Int32) = nI 13 from rfl, show (7 : Int32) = nI 7 from rfl, show (64 : Int32) = nI 64 from rfl, pk_mul, nI_add, pk_rem (by omega) (by omega) (by omega)]
theorem c_kw22 {b : Nat} {M : Mw} {β : Bw} {L : Lw} {V : Vw} {t k : Nat} (h : CT b M β L V t) (hq : V.1 t 6 < 64) (n1 : nf (FP.fsub FP.fconst1 (V.2.1 t)) = true) (n2 : nf (FP.fmul (FP.fsub FP.fconst1 (V.2.1 t)) 1048576000) = true) (n3 : nf (hUp (V.2.1 t)) = true) :
    ∃ M', B_X7_kickWell_22 b t (nI k) M = some M' ∧ CT b M' β L (gdV k V t) t ∧ On25 b t M M' := by
  obtain ⟨h0, h1, h2, h3, h5, h6, h7, h8, h9, h10, h12, h13, h14, h11, h15, h16⟩ := h
  have eH : hUp (V.2.1 t) = FP.fadd (V.2.1 t) (FP.fmul (FP.fsub FP.fconst1 (V.2.1 t)) 1048576000) := rfl
  rw [eH] at n3
  have eV : ((gdV k V t).2.1 t : UInt32) = FP.fadd (V.2.1 t) (FP.fmul (FP.fsub FP.fconst1 (V.2.1 t)) 1048576000) := if_pos rfl
  unfold B_X7_kickWell_22
  generalize (1048576000 : UInt32) = w at n2 n3 eV ⊢
  clear eH
  rw [bd_eq, bd_eq, bd_eq, bd_eq]
  simp only [uI2, h11]
  rw [if_pos n1, if_pos n2, if_pos n3, bd_eq, if_neg (by decide), bd_eq, bd_eq, bd_eq]
  have e6 : (uFw (uIw (uIw (uIw (uIw M 25 b t 12 (M.1 25 b t 12 + 1)) 25 b t 10 ((uIw M 25 b t 12 (M.1 25 b t 12 + 1)).1 25 b t 10 + 1)) 25 b t 13 (nI k)) 25 b t 5 (nI k)) 25 b t 11 (FP.fadd (V.2.1 t) (FP.fmul (FP.fsub FP.fconst1 (V.2.1 t)) w))).1 25 b t 6 = nI (V.1 t 6) := by
    simp [uF1, uI1, h6]
  rw [e6, nI_q _ hq]
  have e10 : (uIw M 25 b t 12 (M.1 25 b t 12 + 1)).1 25 b t 10 = nI (V.1 t 10) := by simp [uI1, h10]
  rw [e10, h12, nI_1, nI_1]
  refine ⟨_, rfl, ?_, ?_⟩
  · have e2 : (gdV k V t).1 t 2 = 0 := by rw [gdV_f]; rfl
    unfold CT
    simp only [gdV_f]
    rw [eV]
    refine ⟨?_, ?_, ?_, fun q => absurd q (by show ¬ 0 < gkF k (V.1 t) 2; exact Nat.lt_irrefl 0), ?_, ?_, ?_, ?_, ?_, ?_, ?_, ?_, ?_, ?_, ?_, ?_⟩
    · simp [uI1, uF1, gkF, h0]
    · simp [uI1, uF1, gkF, h1]
    · simp [uI1, uF1, gkF]
      decide +kernel
    · simp [uI1, uF1, gkF, pk_m1]
    · simp [uI1, uF1, gkF]
    · simp [uI1, uF1, gkF, h7]
    · simp [uI1, uF1, gkF, h8]
    · simp [uI1, uF1, gkF, h9]
    · simp [uI1, uF1, gkF]
    · simp [uI1, uF1, gkF]
    · simp [uI1, uF1, gkF, pk_m1]
    · simp [uI1, uF1, gkF, h14]
    · simp [uI2, uF2]
    · intro q
      simp [uI2, uF2]
      exact h15 q
    · simp [uI2, uF3]
      exact h16
  · exact ((((On25.uI.trans On25.uI).trans (On25.uI.trans On25.uI)).trans On25.uF).trans (On25.uI.trans On25.uI)).trans On25.uI
theorem c_kickWell {b : Nat} {M : Mw} {β : Bw} {L : Lw} {V : Vw} {t k : Nat} {FO FM : UInt32 → Prop} {FS : Nat → UInt64 → Prop} (hF : FH FO FM FS) (h : CT b M β L V t) (h0 : V.1 t 0 ≤ k) (h5 : V.1 t 5 ≤ k + 1) (hk : k ≤ 200) (hq : V.1 t 6 < 64) (hO : FO (V.2.1 t)) (h14b : V.1 t 14 < 200) (hS : FS (V.1 t 14) (V.2.2.2 t))
    (hA : V.1 t 5 ≠ 0 → β 4 t 2 ≤ gpN V t k ∧ gpN V t k ≤ β 4 t 3) (hAB : β 4 t 2 < β 4 t 3) (hB3 : β 4 t 3 ≤ 120) :
    ∃ M', F_X7_kickWell b t (nI k) (nI (β 4 t 2)) (nI (β 4 t 3)) M = some M' ∧ CT b M' β L (goV β k V t) t ∧ On25 b t M M' := by
  unfold F_X7_kickWell goV
  obtain ⟨f1, f2, f3, f4, f5⟩ := hF
  rw [h.2.2.2.2.1]
  by_cases c : V.1 t 5 = 0
  · obtain ⟨n1, n2, n3, -⟩ := f2 _ hO
    rw [if_pos (by rw [c]; decide), if_pos c]
    exact c_kw22 h hq n1 n2 n3
  · obtain ⟨a1, a2⟩ := hA c
    rw [if_neg (nI_m1n c (by omega)), if_neg c, c_gap h h0 h5 hk, Option.bind_some, pk_sub a2, pk_sub (by omega)]
    obtain ⟨g1, g2⟩ := f3 (β 4 t 3 - gpN V t k) (β 4 t 3 - β 4 t 2) (by omega) (by omega) (by omega)
    obtain ⟨g4, g5⟩ := f5 _ _ _ h14b hS g2
    obtain ⟨M2, q1, q2, q3⟩ := c_margin (a := β 4 t 3 - gpN V t k) (c := β 4 t 3 - β 4 t 2) h (by omega) (by omega) (by omega) g1 (f4 _ g2) g4
    obtain ⟨n1, n2, n3, -⟩ := f2 _ hO
    rw [q1, Option.bind_some]
    obtain ⟨M3, r1, r2, r3⟩ := c_kw22 (k := k) q2 (by rw [mgV_f _ _ _ (by decide)]; exact hq) n1 n2 n3
    exact ⟨M3, r1, r2, q3.trans r3⟩
theorem c_kind {b : Nat} {M : Mw} {β : Bw} {L : Lw} {V : Vw} {t k cut : Nat} (hg : GB β L) (hB : CBd (b + 5) M β L) (h : CT b M β L V t) (h6 : M.1 23 b 0 6 = nI k) (ht : t < β 0 0 5) (h0 : V.1 t 0 ≤ k) (h5 : V.1 t 5 ≤ k + 1) (hk : k ≤ 200) (hj : 1 ≤ V.1 t 1) (hc : cut ≤ 1) :
    F_X5_kindOfKick b (nI t) (nI cut) M = some (nI (kkN β L k t cut V)) := by
  have hT5 := hg.1.2.2.2.2
  have hin : inb (nI t) 5 = true := inb_nI (by omega) (by omega)
  have ea : M.1 4 (b + 5) t 2 = nI (β 4 t 2) := hB.2.2.1 t ht 2 (by omega)
  have hA := (hg.2.2.2.1 t ht).2.2.2.1
  have ej : F_X7_job b t M = some (nI (V.1 t 1 - 1)) := by
    unfold F_X7_job
    rw [h.2.1, show (1 : Int32) = nI 1 from rfl, pk_sub hj]
  unfold F_X5_kindOfKick kkN
  rw [if_pos hin, clampI (by omega), ej, Option.bind_some, c_chg hg.2.2.2.2.2.2.2.1 hB, Option.bind_some, h6, c_gap h h0 h5 hk, Option.bind_some, if_pos hin, ea]
  by_cases c0 : cut = 0
  case neg =>
    rw [if_neg (nI_ne0 (by omega) (by omega)), if_pos c0]
    rfl
  rw [if_pos (show nI cut = 0 by rw [c0]; rfl), if_neg (show ¬ (cut ≠ 0) from fun q => q c0)]
  by_cases c1 : chg L (nI t) (nI (V.1 t 1 - 1)) (-1) = 4
  · rw [if_pos c1, if_pos c1]
    rfl
  rw [if_neg c1, if_neg c1]
  have hgp : gpN V t k ≤ 1000 := by
    unfold gpN
    by_cases c : V.1 t 5 = 0
    · rw [if_pos c]; omega
    · rw [if_neg c]; omega
  unfold B_X5_kindOfKick_59
  rw [h.2.2.2.2.1]
  by_cases c2 : gpN V t k < β 4 t 2
  · rw [if_neg (nI_ge c2 (by omega)), if_neg (by decide)]
    by_cases c3 : V.1 t 5 = 0
    · rw [if_pos (by rw [c3]; decide), if_neg (fun q => q.1 c3)]
      rfl
    · rw [if_neg (nI_m1n c3 (by omega)), if_pos ⟨c3, c2⟩]
      rfl
  · rw [if_pos (nI_le (by omega) (by omega)), if_pos rfl, if_neg (fun q => c2 q.2)]
    rfl
theorem c_note {b : Nat} {M : Mw} {t g : Nat} {K : List (Nat × Nat)} (h : CK b M K) (hl : K.length < 200) :
    ∃ M', F_X5_noteKick b (nI t) (nI g) M = some M' ∧ CK b M' (K ++ [(t, g)]) ∧ Fr (fun κ b' => (κ = 23 ∨ κ = 31 ∨ κ = 32) ∧ b' = b) M M' ∧ ∀ j, j ≠ 12 → M'.1 23 b 0 j = M.1 23 b 0 j := by
  obtain ⟨h1, h2⟩ := h
  have hin : inb (nI K.length) 200 = true := inb_nI hl (by omega)
  unfold F_X5_noteKick
  rw [h1, if_neg (show ¬ (200 : Int32) ≤ nI K.length from nI_ge (b := 200) hl (by omega)), if_pos hin, clampI (by omega), bd_eq, uI_k (by omega), h1, if_pos hin, clampI (by omega), bd_eq, uI_k (by omega), uI_k (by omega), h1, nI_1, bd_eq]
  refine ⟨_, rfl, ⟨?_, fun i r hr => ?_⟩, ?_, fun j hj => ?_⟩
  · simp [uI1]
  · rcases getElem?_snoc hr with ⟨q1, q2⟩ | ⟨q1, q2⟩
    · obtain ⟨a0, a1⟩ := h2 i r q1
      have hne : ¬ i = K.length := by omega
      refine ⟨?_, ?_⟩ <;> simp [uI1, hne, a0, a1]
    · subst q2
      subst q1
      refine ⟨?_, ?_⟩ <;> simp [uI1]
  · exact ((Fr.uI ⟨by omega, rfl⟩).trans (Fr.uI ⟨by omega, rfl⟩)).trans (Fr.uI ⟨by omega, rfl⟩)
  · simp [uI1, hj]
