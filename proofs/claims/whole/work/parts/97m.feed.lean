/-! FEED -/
/-- the byte that a word gives -/
def bytN (a : Nat → Int32) (i : Nat) : Int32 := ((a (i / 4)).toUInt32 >>> ((nI (24 - 8 * (i % 4))).toUInt32 &&& Int32.toUInt32 31)).toInt32 &&& 255
theorem c_put {M : Mw} {S : Nat} {x : Int32} (hS : M.1 15 0 0 1 = nI S) (hle : S + 4 ≤ 1000) : ∃ M', F_X6_put x M = some M' ∧ M'.1 15 0 0 1 = nI (S + 4) ∧ Fr (fun κ _ => κ = 15 ∨ κ = 16) M M' ∧ (∀ j, j < 4 → M'.1 16 0 0 (S + j) = (x.toUInt32 >>> ((nI (24 - 8 * j)).toUInt32 &&& Int32.toUInt32 31)).toInt32 &&& 255) ∧ ∀ j, j < S → M'.1 16 0 0 j = M.1 16 0 0 j := by
  have step : ∀ (kk : Int32 → Mw → Option Mw) (j : Nat) (M1 : Mw), j < 4 → M1.1 15 0 0 1 = nI (S + j) → ∃ M2, B_X6_put_3 x kk (nI (24 - 8 * j)) M1 = kk (nI (24 - 8 * j) + (-8)) M2 ∧ M2.1 15 0 0 1 = nI (S + j + 1) ∧ Fr (fun κ _ => κ = 15 ∨ κ = 16) M1 M2 ∧ M2.1 16 0 0 (S + j) = ((x.toUInt32 >>> ((nI (24 - 8 * j)).toUInt32 &&& Int32.toUInt32 31)).toInt32 &&& 255) ∧ ∀ i, i ≠ S + j → M2.1 16 0 0 i = M1.1 16 0 0 i := by
    intro kk j M1 hj h1
    unfold B_X6_put_3
    rw [if_neg (nI_pos (by omega)), h1, if_neg (show ¬ (1000 : Int32) ≤ nI (S + j) from nI_ge (b := 1000) (by omega) (by omega)), if_pos (inb_nI (by omega) (by omega)), clampI (by omega), bd_eq, uI_k (show 15 ≠ 16 by decide), h1, nI_1, bd_eq, bd_eq]
    refine ⟨_, rfl, by rw [uI1, if_pos ⟨rfl, rfl, rfl, rfl⟩], (Fr.uI (Or.inr rfl)).trans (Fr.uI (Or.inl rfl)), ?_, fun i hi => ?_⟩
    · rw [uI_k (by decide), uI1, if_pos ⟨rfl, rfl, rfl, rfl⟩]
    · rw [uI_k (by decide), uI1, if_neg (fun z => hi z.2.2.2)]
  unfold F_X6_put
  rw [it_FU]
  obtain ⟨M1, a1, a2, a3, a4, a5⟩ := step (it (fun _ _ => none) (B_X6_put_3 x) 999999) 0 M (by omega) hS
  have e1 : B_X6_put_3 x (it (fun _ _ => none) (B_X6_put_3 x) 999999) 24 M = it (fun _ _ => none) (B_X6_put_3 x) 999999 (nI 16) M1 := a1
  obtain ⟨M2, b1, b2, b3, b4, b5⟩ := step (it (fun _ _ => none) (B_X6_put_3 x) 999998) 1 M1 (by omega) a2
  have e2 : it (fun _ _ => none) (B_X6_put_3 x) 999999 (nI 16) M1 = it (fun _ _ => none) (B_X6_put_3 x) 999998 (nI 8) M2 := by
    rw [show (999999 : Nat) = 999998 + 1 from rfl, it_succ]
    exact b1
  obtain ⟨M3, c1, c2, c3, c4, c5⟩ := step (it (fun _ _ => none) (B_X6_put_3 x) 999997) 2 M2 (by omega) b2
  have e3 : it (fun _ _ => none) (B_X6_put_3 x) 999998 (nI 8) M2 = it (fun _ _ => none) (B_X6_put_3 x) 999997 (nI 0) M3 := by
    rw [show (999998 : Nat) = 999997 + 1 from rfl, it_succ]
    exact c1
  obtain ⟨M4, d1, d2, d3, d4, d5⟩ := step (it (fun _ _ => none) (B_X6_put_3 x) 999996) 3 M3 (by omega) c2
  have e4 : it (fun _ _ => none) (B_X6_put_3 x) 999997 (nI 0) M3 = it (fun _ _ => none) (B_X6_put_3 x) 999996 (nI 0 + (-8)) M4 := by
    rw [show (999997 : Nat) = 999996 + 1 from rfl, it_succ]
    exact d1
  have e5 : it (fun _ _ => none) (B_X6_put_3 x) 999996 (nI 0 + (-8)) M4 = some M4 := by
    rw [show (999996 : Nat) = 999995 + 1 from rfl, it_succ]
    unfold B_X6_put_3
    rw [if_pos (by decide)]
  rw [e1, e2, e3, e4, e5]
  refine ⟨M4, rfl, d2, ((a3.trans b3).trans c3).trans d3, fun j hj => ?_, fun j hj => ?_⟩
  · rcases (by omega : j = 0 ∨ j = 1 ∨ j = 2 ∨ j = 3) with rfl | rfl | rfl | rfl
    · rw [d5 _ (by omega), c5 _ (by omega), b5 _ (by omega)]; exact a4
    · rw [d5 _ (by omega), c5 _ (by omega)]; exact b4
    · rw [d5 _ (by omega)]; exact c4
    · exact d4
  · rw [d5 _ (by omega), c5 _ (by omega), b5 _ (by omega), a5 _ (by omega)]
def ar5 (a1 a2 a3 a4 a5 : Int32) : Nat → Int32
  | 0 => a1
  | 1 => a2
  | 2 => a3
  | 3 => a4
  | _ => a5
theorem ok_feed : ∀ M : Mw, Inv M → ∀ a1 a2 a3 a4 a5 : Int32, ∃ (r1 : Int32 × Mw) (r2 : Int32 × Mw), F_X9_feed a1 a2 a3 a4 a5 M = some r1 ∧ F_X10_feed a1 a2 a3 a4 a5 r1.2 = some r2 ∧ r1.1 = r2.1 ∧ Inv r2.2 := by
  intro M hM a1 a2 a3 a4 a5
  obtain ⟨β, L, h⟩ := hM
  obtain ⟨S, s1, s2, s3, s4⟩ := h.1.1
  unfold F_X9_feed F_X6_append
  rw [s2, show (20 : Int32) = nI 20 from rfl, nI_add]
  by_cases c : S + 20 ≤ 1000
  case neg =>
    rw [if_neg (show ¬ nI (S + 20) ≤ 1000 from nI_ge (a := 1000) (by omega) (by omega)), Option.bind_some]
    refine ⟨_, ((-1), M), rfl, ?_, rfl, β, L, h⟩
    show F_X10_feed a1 a2 a3 a4 a5 M = _
    unfold F_X10_feed
    rw [s3, show (20 : Int32) = nI 20 from rfl, nI_add, if_neg (show ¬ nI (S + 20) ≤ 1000 from nI_ge (a := 1000) (by omega) (by omega))]
  rw [if_pos (show nI (S + 20) ≤ 1000 from nI_le (b := 1000) c (by omega))]
  obtain ⟨M1, p1, p2, p3, p4, p5⟩ := c_put (x := a1) s2 (by omega)
  obtain ⟨M2, q1, q2, q3, q4, q5⟩ := c_put (x := a2) p2 (by omega)
  obtain ⟨M3, r1, r2, r3, r4, r5⟩ := c_put (x := a3) q2 (by omega)
  obtain ⟨M4, t1, t2, t3, t4, t5⟩ := c_put (x := a4) r2 (by omega)
  obtain ⟨M5, u1, u2, u3, u4, u5⟩ := c_put (x := a5) t2 (by omega)
  rw [p1, Option.bind_some, q1, Option.bind_some, r1, Option.bind_some, t1, Option.bind_some, u1, Option.bind_some, u2, Option.bind_some]
  have hF : Fr (fun κ _ => κ = 15 ∨ κ = 16) M M5 := (((p3.trans q3).trans r3).trans t3).trans u3
  have h16 : ∀ i, i < 20 → M5.1 16 0 0 (S + i) = bytN (ar5 a1 a2 a3 a4 a5) i := by
    intro i hi
    unfold bytN
    rcases (by omega : i / 4 = 0 ∨ i / 4 = 1 ∨ i / 4 = 2 ∨ i / 4 = 3 ∨ i / 4 = 4) with z | z | z | z | z
    · rw [z, u5 _ (by omega), t5 _ (by omega), r5 _ (by omega), q5 _ (by omega), show S + i = S + i % 4 by omega]
      exact p4 _ (by omega)
    · rw [z, u5 _ (by omega), t5 _ (by omega), r5 _ (by omega), show S + i = S + 4 + i % 4 by omega]
      exact q4 _ (by omega)
    · rw [z, u5 _ (by omega), t5 _ (by omega), show S + i = S + 4 + 4 + i % 4 by omega]
      exact r4 _ (by omega)
    · rw [z, u5 _ (by omega), show S + i = S + 4 + 4 + 4 + i % 4 by omega]
      exact t4 _ (by omega)
    · rw [z, show S + i = S + 4 + 4 + 4 + 4 + i % 4 by omega]
      exact u4 _ (by omega)
  have hlow : ∀ j, j < S → M5.1 16 0 0 j = M.1 16 0 0 j := fun j hj => by rw [u5 _ (by omega), t5 _ (by omega), r5 _ (by omega), q5 _ (by omega), p5 _ hj]
  -- the reference
  obtain ⟨M6, hM6⟩ : ∃ M6, M6 = uIw (uIw (uIw (uIw (uIw M5 55 0 0 0 a1) 55 0 0 1 a2) 55 0 0 2 a3) 55 0 0 3 a4) 55 0 0 4 a5 := ⟨_, rfl⟩
  have hF6 : Fr (fun κ _ => κ = 55) M5 M6 := by
    rw [hM6]
    exact ((((Fr.uI (S := fun κ _ => κ = 55) rfl).trans (Fr.uI (S := fun κ _ => κ = 55) rfl)).trans (Fr.uI (S := fun κ _ => κ = 55) rfl)).trans (Fr.uI (S := fun κ _ => κ = 55) rfl)).trans (Fr.uI (S := fun κ _ => κ = 55) rfl)
  have h55 : ∀ i, i < 5 → M6.1 55 0 0 i = ar5 a1 a2 a3 a4 a5 i := by
    intro i hi
    rw [hM6]
    rcases (by omega : i = 0 ∨ i = 1 ∨ i = 2 ∨ i = 3 ∨ i = 4) with rfl | rfl | rfl | rfl | rfl <;> simp [uI1, ar5]
  have e505 : M5.1 50 0 0 5 = nI S := by rw [hF.k1 (κ := 50) (fun b => by omega)]; exact s3
  have key : ∃ M7, it (fun _ _ => none) (B_X10_feed_55) FU (nI 0) M6 = some (nI (S + 20), M7) ∧ M7.1 50 0 0 5 = nI (S + 20) ∧ Fr (fun κ _ => κ = 50 ∨ κ = 54) M6 M7 ∧ (∀ j, j ≠ 5 → M7.1 50 0 0 j = M6.1 50 0 0 j) ∧ (∀ i, i < 20 → M7.1 54 0 0 (S + i) &&& 255 = bytN (ar5 a1 a2 a3 a4 a5) i ∧ (M7.1 54 0 0 (S + i)).toInt8.toInt32 = M7.1 54 0 0 (S + i)) ∧ ∀ j, j < S → M7.1 54 0 0 j = M6.1 54 0 0 j :=
    it_for (z := fun _ _ => none) (B := B_X10_feed_55) (n := 20)
      (P := fun n M7 => Fr (fun κ _ => κ = 54) M6 M7 ∧ (∀ i, i < n → M7.1 54 0 0 (S + i) &&& 255 = bytN (ar5 a1 a2 a3 a4 a5) i ∧ (M7.1 54 0 0 (S + i)).toInt8.toInt32 = M7.1 54 0 0 (S + i)) ∧ ∀ j, j < S → M7.1 54 0 0 j = M6.1 54 0 0 j)
      (Q := fun o => ∃ M7, o = some (nI (S + 20), M7) ∧ M7.1 50 0 0 5 = nI (S + 20) ∧ Fr (fun κ _ => κ = 50 ∨ κ = 54) M6 M7 ∧ (∀ j, j ≠ 5 → M7.1 50 0 0 j = M6.1 50 0 0 j) ∧ (∀ i, i < 20 → M7.1 54 0 0 (S + i) &&& 255 = bytN (ar5 a1 a2 a3 a4 a5) i ∧ (M7.1 54 0 0 (S + i)).toInt8.toInt32 = M7.1 54 0 0 (S + i)) ∧ ∀ j, j < S → M7.1 54 0 0 j = M6.1 54 0 0 j)
      (fun kk n M7 hn hP => by
        obtain ⟨x1, x2, x3⟩ := hP
        left
        have e5 : M7.1 50 0 0 5 = nI S := by rw [x1.k1 (κ := 50) (fun b => by omega), hF6.k1 (κ := 50) (fun b => by omega)]; exact e505
        have ed : nI n / 4 = nI (n / 4) := by rw [show (4 : Int32) = nI 4 from rfl, pk_div (by omega) (by omega) (by omega)]
        have em : 24 - (8 * (nI n - nI n / 4 * 4)) = nI (24 - 8 * (n % 4)) := by
          rw [show (4 : Int32) = nI 4 from rfl, pk_rem (by omega) (by omega) (by omega), show (8 : Int32) = nI 8 from rfl, pk_mul, show (24 : Int32) = nI 24 from rfl, pk_sub (by omega)]
        have e55 : M7.1 55 0 0 (n / 4) = ar5 a1 a2 a3 a4 a5 (n / 4) := by rw [x1.k1 (κ := 55) (fun b => by omega)]; exact h55 _ (by omega)
        unfold B_X10_feed_55
        rw [if_neg (show ¬ (20 : Int32) ≤ nI n from nI_ge (b := 20) hn (by omega)), if_neg (by decide), em, ed, if_pos (inb_nI (by omega) (by omega)), if_neg (by decide), e5, nI_add, if_pos (inb_nI (by omega) (by omega)), clampI (by omega), clampI (by omega), e55, bd_eq, nI_1, bd_eq]
        refine ⟨_, rfl, x1.trans (Fr.uI rfl), fun i hi => ?_, fun j hj => ?_⟩
        · rw [uI1]
          by_cases z : i = n
          · subst z
            rw [if_pos ⟨rfl, rfl, rfl, rfl⟩]
            exact ⟨(byt _ _ (by omega)).symm, nar_id _⟩
          · rw [if_neg (fun y => by have := y.2.2.2; omega)]
            exact x2 i (by omega)
        · rw [uI1, if_neg (fun y => by have := y.2.2.2; omega)]
          exact x3 j hj)
      (fun kk M7 hP => by
        obtain ⟨x1, x2, x3⟩ := hP
        have e5 : M7.1 50 0 0 5 = nI S := by rw [x1.k1 (κ := 50) (fun b => by omega), hF6.k1 (κ := 50) (fun b => by omega)]; exact e505
        unfold B_X10_feed_55
        rw [if_pos (show (20 : Int32) ≤ nI 20 by decide), e5, show (20 : Int32) = nI 20 from rfl, nI_add, bd_eq]
        refine ⟨uIw M7 50 0 0 5 (nI (S + 20)), ?_, ?_, (x1.mono (fun κ _ z => Or.inr z)).trans (Fr.uI (Or.inl rfl)), fun j hj => ?_, fun i hi => ?_, fun j hj => ?_⟩
        · rw [uI1, if_pos ⟨rfl, rfl, rfl, rfl⟩]
        · rw [uI1, if_pos ⟨rfl, rfl, rfl, rfl⟩]
        · rw [uI1, if_neg (fun z => hj z.2.2.2), x1.k1 (κ := 50) (fun b => by omega)]
        · rw [uI_k (by decide)]; exact x2 i hi
        · rw [uI_k (by decide)]; exact x3 j hj)
      FU 0 M6 (Nat.zero_le _) (by unfold FU; omega) ⟨Fr.rfl, fun i hi => by omega, fun j _ => rfl⟩
  obtain ⟨M7, k1, k2, k3, k4, k5, k6⟩ := key
  rw [nI_0] at k1
  refine ⟨_, (nI (S + 20), M7), rfl, ?_, rfl, β, L, ?_⟩
  · show F_X10_feed a1 a2 a3 a4 a5 M5 = _
    unfold F_X10_feed
    rw [e505, show (20 : Int32) = nI 20 from rfl, nI_add, if_pos (show nI (S + 20) ≤ 1000 from nI_le (b := 1000) c (by omega)), bd_eq, bd_eq, bd_eq, bd_eq, bd_eq, ← hM6, k1]
  · obtain ⟨hT, hI, h3, ⟨k, hk, h4⟩, h5⟩ := h
    obtain ⟨-, f1, f2, im, l1, l2⟩ := hT
    have hF7 : Fr (fun κ _ => κ = 15 ∨ κ = 16 ∨ κ = 50 ∨ κ = 54 ∨ κ = 55) M M7 := ((hF.mono (fun κ _ z => by omega)).trans (hF6.mono (fun κ _ z => by omega))).trans (k3.mono (fun κ _ z => by omega))
    have e : ∀ κ, κ ≠ 15 → κ ≠ 16 → κ ≠ 50 → κ ≠ 54 → κ ≠ 55 → M7.1 κ = M.1 κ := fun κ z1 z2 z3 z4 z5 => hF7.k1 (fun b => by omega)
    have e50 : ∀ j, j ≠ 5 → M7.1 50 0 0 j = M.1 50 0 0 j := fun j hj => by rw [k4 j hj, hF6.k1 (κ := 50) (fun b => by omega), hF.k1 (κ := 50) (fun b => by omega)]
    have e15 : M7.1 15 = M5.1 15 := by rw [k3.k1 (κ := 15) (fun b => by omega), hF6.k1 (κ := 15) (fun b => by omega)]
    have e16 : M7.1 16 = M5.1 16 := by rw [k3.k1 (κ := 16) (fun b => by omega), hF6.k1 (κ := 16) (fun b => by omega)]
    refine ⟨⟨⟨S + 20, c, by rw [e15]; exact u2, k2, fun j hj => ?_⟩, ?_, ?_, fun k hk => ?_, ?_, ?_⟩, ⟨hI.1, hI.2.1.fr (fun κ hκ => (hF7 κ 1 (by omega)).1), by rw [e 51 (by decide) (by decide) (by decide) (by decide) (by decide)]; exact hI.2.2⟩, h3.fr (fun κ hκ => (hF7 κ 5 (by omega)).1) (fun κ z1 z2 => hF7 κ 0 (by omega)), ⟨k, hk, h4.fr (fun κ hκ => (hF7 κ 6 (by omega)).1) (fun κ z1 z2 => hF7 κ 1 (by omega))⟩, h5.1.fr (hF7 25 1 (by omega)).1, fun t ht kd hkd => by rw [e 40 (by decide) (by decide) (by decide) (by decide) (by decide), e 38 (by decide) (by decide) (by decide) (by decide) (by decide)]; exact h5.2 t ht kd hkd⟩
    · rw [e16]
      by_cases z : j < S
      · rw [hlow j z, k6 j z, hF6.k1 (κ := 54) (fun b => by omega), hF.k1 (κ := 54) (fun b => by omega)]
        exact s4 j z
      · obtain ⟨i, rfl⟩ : ∃ i, j = S + i := ⟨j - S, by omega⟩
        exact ⟨by rw [h16 i (by omega), (k5 i (by omega)).1], (k5 i (by omega)).2⟩
    · rw [e 13 (by decide) (by decide) (by decide) (by decide) (by decide), e50 12 (by decide)]; exact f1
    · rw [e 13 (by decide) (by decide) (by decide) (by decide) (by decide), e50 13 (by decide)]; exact f2
    · rw [e 43 (by decide) (by decide) (by decide) (by decide) (by decide), e 53 (by decide) (by decide) (by decide) (by decide) (by decide), e 52 (by decide) (by decide) (by decide) (by decide) (by decide)]
      rcases im k hk with q | ⟨β', L', q1, q2, q3, q4, q5⟩
      · exact Or.inl q
      · exact Or.inr ⟨β', L', q1, q2, q3, q4.fr (fun κ hκ => (hF7 κ (k + 2) (by omega)).1), q5⟩
    · rw [e 21 (by decide) (by decide) (by decide) (by decide) (by decide)]; exact l1
    · rw [e 21 (by decide) (by decide) (by decide) (by decide) (by decide)]; exact l2
