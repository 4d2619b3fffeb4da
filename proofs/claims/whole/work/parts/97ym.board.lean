/-! BOARD -/
theorem byte_tab : ∀ k, k < 256 → ((Int8.ofNat k).toInt32 &&& 255 = nI k ∧ (k < 128 → (Int8.ofNat k).toInt32 = nI k)) := by decide +kernel
theorem byte_f (w : Int8) : ∃ c, c < 256 ∧ w.toInt32 &&& 255 = nI c ∧ (c < 128 → w.toInt32 = nI c) := by
  have e : Int8.ofNat w.toBitVec.toNat = w := by
    apply Int8.toBitVec_inj.mp
    show BitVec.ofNat 8 w.toBitVec.toNat = w.toBitVec
    simp
  have hlt : w.toBitVec.toNat < 256 := w.toBitVec.isLt
  have h := byte_tab w.toBitVec.toNat hlt
  rw [e] at h
  exact ⟨_, hlt, h.1, h.2⟩
abbrev SBq : Nat → Nat → Prop := fun κ b => (13 ≤ κ ∧ κ ≤ 15) ∨ (κ ≤ 12 ∧ (b = 0 ∨ b = 1 ∨ b = 5 ∨ b = 6)) ∨ (23 ≤ κ ∧ κ ≤ 35 ∧ (b = 0 ∨ b = 1)) ∨ κ = 40 ∨ κ = 98 ∨ κ = 99
theorem c_cut0 {M : Mw} {S : Nat} (h : M.1 15 0 0 1 = nI S) (hS : S ≤ 1000) : F_X6_cut 0 M = some (0, uIw M 15 0 0 1 0) := by
  unfold F_X6_cut
  rw [if_neg (by decide), h, if_pos (show (0 : Int32) ≤ nI S from nI_le (a := 0) (Nat.zero_le _) (by omega)), bd_eq]
theorem c_boardGood {M Mc : Mw} {β : Bw} {L : Lw} {S : Nat} (hz : Zz 1 M) (q1 : F_X1_readTape M = some (1, Mc)) (hx : Gx β L) (hcb : CBs 0 Mc β L) (h15 : Mc.1 15 0 0 1 = nI S) (hS : S ≤ 1000) (hF : Fr SBo M Mc) :
    ∃ M9, F_X9_board M = some (nI (β 0 0 3), M9) ∧ M9.1 13 = Mc.1 13 ∧ M9.1 15 0 0 1 = 0 ∧ CBs 1 M9 β L ∧ CRn 0 M9 β L (β 0 0 0) ∧ CRn 1 M9 β L 0 ∧ TrC M9 β L ∧ Fr SBq M M9 := by
  obtain ⟨M6, hM6⟩ : ∃ M6, M6 = uIw Mc 15 0 0 1 0 := ⟨_, rfl⟩
  have hF6 : Fr SBo M M6 := by
    rw [hM6]
    exact hF.trans (Fr.uI (S := SBo) (Or.inr (Or.inr (Or.inl rfl))))
  obtain ⟨M7, a1, a2, a3⟩ := c_copy (b := 1) (b1 := 0) (M := M6) (by decide) hx.1 (hcb.fr (fun κ hκ => by rw [hM6, uI_k (by omega)]))
  obtain ⟨M9, b1, b2, b3, b4, b5, b6⟩ := c_refresh hx a2 (hz.fr (by rw [(a3 25 1 (fun q => by omega)).1, (hF6 25 1 (fun q => by omega)).1]))
  refine ⟨M9, ?_, ?_, ?_, b2, b3, b4, b5, (hF6.mono (fun κ b q => by omega)).trans ((a3.mono (fun κ b q => by omega)).trans (b6.mono (fun κ b q => by omega)))⟩
  · unfold F_X9_board
    rw [q1, Option.bind_some, bd_eq, c_cut0 h15 hS, Option.bind_some, if_neg (show ¬ (1 : Int32) = 0 by decide), ← hM6, a1, Option.bind_some, b1, Option.bind_some, b2.c 3 (by decide)]
  · rw [b6.k1 (fun b => by omega), a3.k1 (fun b => by omega), hM6, uI_k (by decide)]
  · rw [b6.k1 (fun b => by omega), a3.k1 (fun b => by omega), hM6, uI1, if_pos ⟨rfl, rfl, rfl, rfl⟩]
theorem ok_board : ∀ M : Mw, Inv M → ∃ (r1 : Int32 × Mw) (r2 : Int32 × Mw), F_X9_board M = some r1 ∧ F_X10_board r1.2 = some r2 ∧ r1.1 = r2.1 ∧ Inv r2.2 := by
  intro M hM
  obtain ⟨β0, L0, h⟩ := hM
  obtain ⟨⟨⟨S, s1, s2, s3, s4⟩, f1, f2, im, l1, l2⟩, hI, h3, ⟨kv, hkv, h4⟩, h5⟩ := id h
  obtain ⟨f, hf⟩ : ∃ f : Nat → Nat, f = fun j => if j < S then (M.1 16 0 0 j).toNatClampNeg else 0 := ⟨_, rfl⟩
  have hb : ∀ j, j < S → f j < 256 ∧ M.1 16 0 0 j = nI (f j) ∧ (f j < 128 → M.1 54 0 0 j = nI (f j)) := by
    intro j hj
    obtain ⟨e1, e2⟩ := s4 j hj
    obtain ⟨c, c1, c2, c3⟩ := byte_f (M.1 54 0 0 j).toInt8
    rw [e2] at c2 c3
    have ef : f j = c := by
      rw [hf]
      show (if j < S then (M.1 16 0 0 j).toNatClampNeg else 0) = c
      rw [if_pos hj, e1, c2, clampI (by omega)]
    rw [ef]
    exact ⟨c1, by rw [e1, c2], c3⟩
  have hct : CTp M S f := ⟨s1, fun j => by
    by_cases hj : j < S
    · exact (hb j hj).1
    · rw [hf]
      show (if j < S then (M.1 16 0 0 j).toNatClampNeg else 0) < 256
      rw [if_neg hj]
      decide, fun j hj => (hb j hj).2.1, s2⟩
  have hr1 : ∀ M' : Mw, M'.1 54 = M.1 54 → ∀ j, j < S → M'.1 54 0 0 j &&& 255 = nI (f j) ∧ (f j < 128 → M'.1 54 0 0 j = nI (f j)) := fun M' e j hj => by
    rw [e]
    exact ⟨by rw [← (s4 j hj).1]; exact (hb j hj).2.1, (hb j hj).2.2⟩
  -- images and the law's scratch stay
  have himg : ∀ M9 M2 : Mw, Fr SBq M M9 → Fr (fun κ _ => κ = 50 ∨ κ = 51 ∨ κ = 56) M9 M2 → M2.1 15 0 0 1 = 0 → M2.1 50 0 0 5 = 0 → M2.1 13 0 0 2 = M2.1 50 0 0 12 → M2.1 13 0 0 3 = M2.1 50 0 0 13 → ITp M2 := by
    intro M9 M2 hF hF2 e15 e50 e12 e13
    have e : ∀ κ, (16 ≤ κ ∧ κ ≤ 22) ∨ (41 ≤ κ ∧ κ ≤ 49) ∨ (52 ≤ κ ∧ κ ≤ 54) → M2.1 κ = M.1 κ := fun κ hκ => by rw [hF2.k1 (fun b => by omega), hF.k1 (fun b => by omega)]
    refine ⟨⟨0, Nat.zero_le _, e15, e50, fun j hj => absurd hj (Nat.not_lt_zero _)⟩, e12, e13, fun k hk => ?_, by rw [e 21 (by omega)]; exact l1, by rw [e 21 (by omega)]; exact l2⟩
    rw [e 43 (by omega), e 53 (by omega), e 52 (by omega)]
    rcases im k hk with q | ⟨β', L', q1, q2, q3, q4, q5⟩
    · exact Or.inl q
    · exact Or.inr ⟨β', L', q1, q2, q3, q4.fr (fun κ hκ => by rw [(hF2 κ (k + 2) (by omega)).1, (hF κ (k + 2) (by omega)).1]), q5⟩
  rcases board_pair (Mr := M) hct (hr1 M rfl) s3 with ⟨β1, L1, Mc1, Mr1, p1, -, p3, p4, p5, p6, p7, p8, -⟩ | ⟨e1, pl1, Mc1, Mr1, p1, -, p3, -, p5, -⟩
  · obtain ⟨M9, g1, g2, g3, g4, g5, g6, g7, g8⟩ := c_boardGood h5.1 p1 p3 p4 p7 s1 p8
    have e54 : M9.1 54 = M.1 54 := g8.k1 (fun b => by omega)
    have e505 : M9.1 50 0 0 5 = nI S := by rw [g8.k1 (κ := 50) (fun b => by omega)]; exact s3
    rcases board_pair (Mr := M9) hct (hr1 M9 e54) e505 with ⟨β, L, Mc, M2, q1, q2, q3, q4, q5, q6, q7, q8, q9, q10, q11, q12, q13⟩ | ⟨e, pl, Mc, M2, q1, -⟩
    case inr =>
      rw [p1] at q1
      have hz1 := (Prod.mk.inj (Option.some.inj q1)).1
      exact absurd (show (1 : Int32) = 0 from hz1) (by decide)
    obtain ⟨M9', g1', g2', g3', g4', g5', g6', g7', g8'⟩ := c_boardGood h5.1 q1 q3 q4 q7 s1 q8
    have e9 : M9' = M9 ∧ nI (β 0 0 3) = nI (β1 0 0 3) := by
      rw [g1] at g1'
      obtain ⟨w1, w2⟩ := Prod.mk.inj (Option.some.inj g1')
      exact ⟨w2.symm, w1.symm⟩
    rw [e9.1] at g2' g3' g4' g5' g6' g7' g8'
    refine ⟨_, (nI (β 0 0 3), M2), g1, q2, e9.2.symm, β, L, ?_, ⟨q3, ?_, q9⟩, ?_, ⟨0, Nat.zero_le _, ?_⟩, ?_, fun t ht kd hkd => ?_⟩
    · refine himg M9 M2 g8' q13 ?_ q12 ?_ ?_
      · rw [q13.k1 (κ := 15) (fun b => by omega)]; exact g3'
      · rw [q13.k1 (κ := 13) (fun b => by omega), g2', q5, q10]
      · rw [q13.k1 (κ := 13) (fun b => by omega), g2', q6, q11]
    · exact g4'.fr (fun κ hκ => (q13 κ 1 (by omega)).1)
    · exact g5'.fr (fun κ hκ => (q13 κ 5 (by omega)).1) (fun κ x y => q13 κ 0 (by omega))
    · exact g6'.fr (fun κ hκ => (q13 κ 6 (by omega)).1) (fun κ x y => q13 κ 1 (by omega))
    · exact g7'.1.fr (q13 25 1 (by omega)).1
    · rw [q13.k1 (κ := 40) (fun b => by omega), q13.k1 (κ := 38) (fun b => by omega)]
      exact g7'.2 t ht kd hkd
  · obtain ⟨S', t1, t2⟩ := p3.2.2
    obtain ⟨M9, hM9⟩ : ∃ M9, M9 = uIw Mc1 15 0 0 1 0 := ⟨_, rfl⟩
    have g1 : F_X9_board M = some ((-4), M9) := by
      unfold F_X9_board
      rw [p1, Option.bind_some, bd_eq, c_cut0 t2 t1, Option.bind_some, if_pos rfl, ← hM9]
    have g8 : Fr SBo M M9 := by
      rw [hM9]
      exact p5.trans (Fr.uI (S := SBo) (Or.inr (Or.inr (Or.inl rfl))))
    have e54 : M9.1 54 = M.1 54 := g8.k1 (fun b => by omega)
    have e505 : M9.1 50 0 0 5 = nI S := by rw [g8.k1 (κ := 50) (fun b => by omega)]; exact s3
    rcases board_pair (Mr := M9) hct (hr1 M9 e54) e505 with ⟨β, L, Mc, M2, q1, -⟩ | ⟨e, pl, Mc, M2, q1, q2, q3, q4, q5, q6, q7⟩
    · rw [p1] at q1
      have hz1 := (Prod.mk.inj (Option.some.inj q1)).1
      exact absurd (show (0 : Int32) = 1 from hz1) (by decide)
    have ec : Mc = Mc1 := by
      rw [p1] at q1
      cases q1
      rfl
    rw [ec] at q3
    have eM : ∀ κ b, ¬ SBo κ b → κ ≠ 50 → κ ≠ 56 → M2.1 κ b = M.1 κ b ∧ M2.2.1 κ b = M.2.1 κ b ∧ M2.2.2 κ b = M.2.2 κ b := fun κ b h1 h2 h3 => by
      obtain ⟨x1, x2, x3⟩ := q7 κ b (by omega)
      obtain ⟨y1, y2, y3⟩ := g8 κ b h1
      exact ⟨by rw [x1, y1], by rw [x2, y2], by rw [x3, y3]⟩
    refine ⟨_, (-4, M2), g1, q2, rfl, β0, L0, ?_, ⟨hI.1, ?_, ?_⟩, ?_, ⟨kv, hkv, ?_⟩, ?_, fun t ht kd hkd => ?_⟩
    · refine himg M9 M2 (g8.mono (fun κ b q => by omega)) (q7.mono (fun κ b q => by omega)) ?_ q6 ?_ ?_
      · rw [q7.k1 (κ := 15) (fun b => by omega), hM9, uI1, if_pos ⟨rfl, rfl, rfl, rfl⟩]
      · rw [q7.k1 (κ := 13) (fun b => by omega), hM9, uI_k (by decide), q3.1, q4.2.2.1]
      · rw [q7.k1 (κ := 13) (fun b => by omega), hM9, uI_k (by decide), q3.2.1, q4.2.2.2]
    · exact hI.2.1.fr (fun κ hκ => (eM κ 1 (by omega) (by omega) (by omega)).1)
    · have e51 : M2.1 51 = M.1 51 := funext fun b => (eM 51 b (by omega) (by omega) (by omega)).1
      rw [e51]
      exact hI.2.2
    · exact h3.fr (fun κ hκ => (eM κ 5 (by omega) (by omega) (by omega)).1) (fun κ x y => eM κ 0 (by omega) (by omega) (by omega))
    · exact h4.fr (fun κ hκ => (eM κ 6 (by omega) (by omega) (by omega)).1) (fun κ x y => eM κ 1 (by omega) (by omega) (by omega))
    · exact h5.1.fr (eM 25 1 (by omega) (by omega) (by omega)).1
    · have e40 : M2.1 40 = M.1 40 := funext fun b => (eM 40 b (by omega) (by omega) (by omega)).1
      have e38 : M2.1 38 = M.1 38 := funext fun b => (eM 38 b (by omega) (by omega) (by omega)).1
      rw [e40, e38]
      exact h5.2 t ht kd hkd
