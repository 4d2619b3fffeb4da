/-! IMAGE, BACK, NODE -/
/-- a board's words, looked at through an equal row -/
theorem RWd.eq {f f' : Nat → Int32} {β : Bw} {L : Lw} (hx : Gx β L) (h : RWd f β L) (e : ∀ i, i < 201 → f' i = f i) : RWd f' β L := by
  have hl := hx.len
  have hT5 := hx.1.1.2.2.2.2
  have hW3 := hx.1.1.2.2.2.1
  obtain ⟨⟨w0, w1, w2, w3, w4, w5, w6, w7⟩, wt, wn, ww, wi⟩ := h
  refine ⟨⟨by rw [e 0 (by omega)]; exact w0, by rw [e 1 (by omega)]; exact w1, by rw [e 2 (by omega)]; exact w2, by rw [e 3 (by omega)]; exact w3, by rw [e 4 (by omega)]; exact w4, by rw [e 5 (by omega)]; exact w5, by rw [e 6 (by omega)]; exact w6, by rw [e 7 (by omega)]; exact w7⟩, fun t ht i hi => by rw [e _ (by omega)]; exact wt t ht i hi, fun t ht n hn => ?_, fun w hw => by rw [e _ (by omega)]; exact ww w hw, fun i hi => ?_⟩
  · have h66 := (hx.1.2.2.2.1 t ht).2.2.2.2.2.2.2.2.2
    rw [e _ (by omega), e _ (by omega)]
    exact wn t ht n hn
  · rw [wi i hi]
    show some (f (106 + 5 * i + 0), f (106 + 5 * i + 1), f (106 + 5 * i + 2), f (106 + 5 * i + 3), f (106 + 5 * i + 4)) = some (f' (106 + 5 * i + 0), f' (106 + 5 * i + 1), f' (106 + 5 * i + 2), f' (106 + 5 * i + 3), f' (106 + 5 * i + 4))
    rw [e _ (by omega), e _ (by omega), e _ (by omega), e _ (by omega), e _ (by omega)]
theorem ok_image : ∀ M : Mw, Inv M → ∀ a1 : Int32, ∃ (r1 : Int32 × Mw) (r2 : Int32 × Mw), F_X9_image a1 M = some r1 ∧ F_X10_image a1 r1.2 = some r2 ∧ r1.1 = r2.1 ∧ Inv r2.2 := by
  intro M hM a1
  obtain ⟨β, L, h⟩ := hM
  have hx := h.2.1.1
  unfold F_X9_image
  rcases rng_cases a1 (show 3 < 2 ^ 31 by omega) with ⟨k, hk, rfl⟩ | c
  case inr =>
    have : (if a1 < 0 then some ((-2), M) else (if a1 < 3 then (if inb a1 3 then ((F_X0_copyFrom (a1.toNatClampNeg + 2) 1 M).bind (fun M4 => (if inb a1 3 then (bd (uIw M4 43 0 0 a1.toNatClampNeg (vp_nar .boolean 1)) (fun M6 => some (0, M6))) else none))) else none) else some ((-2), M))) = some ((-2 : Int32), M) := by
      by_cases c1 : a1 < 0
      · rw [if_pos c1]
      · rw [if_neg c1, if_neg (show ¬ a1 < 3 from fun q => c ⟨c1, q⟩)]
    rw [this]
    refine ⟨_, ((-2), M), rfl, ?_, rfl, β, L, h⟩
    unfold F_X10_image
    show (F_X10_in a1.toInt64 0 2 M).bind _ = _
    rw [r_in0n a1 (n := 2) (by omega) (by decide), Option.bind_some, if_neg (show ¬ (¬ a1 < 0 ∧ a1 < nI (2 + 1)) from c), if_pos rfl]
  obtain ⟨M1, q1, q2, q3⟩ := c_copy (b := k + 2) (b1 := 1) (by omega) hx.1 h.2.1.2.1
  have hin : inb (nI k) 3 = true := inb_nI hk (by omega)
  rw [if_neg (nI_pos (by omega)), if_pos (show nI k < 3 from nI_lt (b := 3) hk (by omega)), if_pos hin, clampI (by omega), q1, Option.bind_some, if_pos hin, nar1, bd_eq]
  obtain ⟨M2, hM2⟩ : ∃ M2, M2 = uIw M1 43 0 0 k 1 := ⟨_, rfl⟩
  rw [← hM2]
  have e2 : ∀ κ, 13 ≤ κ → κ ≠ 43 → M2.1 κ = M.1 κ := fun κ a b => by rw [hM2, uI_k b, q3.k1 (fun b' => by omega)]
  have hF2 : Fr (fun κ b => (κ ≤ 12 ∧ b = k + 2) ∨ κ = 43) M M2 := by
    rw [hM2]
    exact (q3.mono (fun κ b q => Or.inl q)).trans (Fr.uI (Or.inr rfl))
  have hw2 : RWd (M2.1 51 0 0) β L := by rw [e2 51 (by decide) (by decide)]; exact h.2.1.2.2
  -- the reference's loop
  have key := it_for (z := fun _ _ => none) (B := B_X10_image_17 (nI k)) (n := 201) (P := fun n M3 => (∀ i, i < n → M3.1 52 0 0 (201 * k + i) = M2.1 51 0 0 i) ∧ (∀ i, ¬ (201 * k ≤ i ∧ i < 201 * k + 201) → M3.1 52 0 0 i = M2.1 52 0 0 i) ∧ Fr (fun κ _ => κ = 52) M2 M3)
    (Q := fun o => ∃ M', o = some (0, M') ∧ (∀ i, i < 201 → M'.1 52 0 0 (201 * k + i) = M2.1 51 0 0 i) ∧ (∀ i, ¬ (201 * k ≤ i ∧ i < 201 * k + 201) → M'.1 52 0 0 i = M2.1 52 0 0 i) ∧ M'.1 53 0 0 k = 1 ∧ (∀ j, j ≠ k → M'.1 53 0 0 j = M2.1 53 0 0 j) ∧ Fr (fun κ _ => κ = 52 ∨ κ = 53) M2 M')
    (fun kk n M3 hn hP => by
      obtain ⟨p1, p2, p3⟩ := hP
      left
      have ea : (201 * nI k) + nI n = nI (201 * k + n) := by rw [show (201 : Int32) = nI 201 from rfl, pk_mul, nI_add]
      unfold B_X10_image_17
      rw [if_neg (show ¬ (201 : Int32) ≤ nI n from nI_ge (b := 201) hn (by omega)), if_pos (inb_nI hn (by omega)), ea, if_pos (inb_nI (by omega) (by omega)), clampI (by omega), clampI (by omega), bd_eq, bd_eq, nI_1]
      refine ⟨_, rfl, fun i hi => ?_, fun i hi => ?_, p3.trans (Fr.uI rfl)⟩
      · rw [uI1]
        by_cases z : i = n
        · rw [if_pos ⟨rfl, rfl, rfl, by rw [z]⟩, p3.k1 (fun b => by omega), z]
        · rw [if_neg (fun q => z (by have := q.2.2.2; omega))]
          exact p1 i (by omega)
      · rw [uI1, if_neg (fun q => by have := q.2.2.2; omega)]
        exact p2 i hi)
    (fun kk M3 hP => by
      obtain ⟨p1, p2, p3⟩ := hP
      unfold B_X10_image_17
      rw [if_pos (show (201 : Int32) ≤ nI 201 by decide), if_pos hin, clampI (by omega), nar1, bd_eq]
      refine ⟨_, rfl, fun i hi => by rw [uI_k (by decide)]; exact p1 i hi, fun i hi => by rw [uI_k (by decide)]; exact p2 i hi, by rw [uI1, if_pos ⟨rfl, rfl, rfl, rfl⟩], fun j hj => ?_, (p3.mono (fun κ _ q => Or.inl q)).trans (Fr.uI (Or.inr rfl))⟩
      rw [uI1, if_neg (fun q => hj q.2.2.2), p3.k1 (fun b => by omega)])
    FU 0 M2 (by omega) (by unfold FU; omega) ⟨fun i hi => by omega, fun i _ => rfl, Fr.rfl⟩
  rw [nI_0] at key
  obtain ⟨M', k0, k1, k2, k3, k4, k5⟩ := key
  refine ⟨(0, M2), (0, M'), rfl, ?_, rfl, β, L, ?_⟩
  · unfold F_X10_image
    show (F_X10_in (nI k).toInt64 0 2 M2).bind _ = _
    rw [r_in0n _ (n := 2) (by omega) (by decide), Option.bind_some, if_pos (show ¬ nI k < 0 ∧ nI k < nI (2 + 1) from rng_in hk (by omega)), if_neg (show ¬ (1 : Int32) = 0 by decide)]
    exact k0
  · have e : ∀ κ, 13 ≤ κ → κ ≠ 43 → κ ≠ 52 → κ ≠ 53 → M'.1 κ = M.1 κ := fun κ a b c d => by rw [k5.k1 (fun b' => by omega), e2 κ a b]
    have hFa : Fr (fun κ b => (κ ≤ 12 ∧ b = k + 2) ∨ κ = 43 ∨ κ = 52 ∨ κ = 53) M M' := (hF2.mono (fun κ b q => by omega)).trans (k5.mono (fun κ b q => by omega))
    obtain ⟨⟨⟨S, s1, s2, s3, s4⟩, f1, f2, im, l1, l2⟩, hI, h3, ⟨k', hk', h4⟩, h5⟩ := h
    refine ⟨⟨⟨S, s1, by rw [e 15 (by decide) (by decide) (by decide) (by decide)]; exact s2, by rw [e 50 (by decide) (by decide) (by decide) (by decide)]; exact s3, fun j hj => by rw [e 16 (by decide) (by decide) (by decide) (by decide), e 54 (by decide) (by decide) (by decide) (by decide)]; exact s4 j hj⟩, ?_, ?_, fun j hj => ?_, by rw [e 21 (by decide) (by decide) (by decide) (by decide)]; exact l1, by rw [e 21 (by decide) (by decide) (by decide) (by decide)]; exact l2⟩, ⟨hI.1, hI.2.1.fr (fun κ hκ => (hFa κ 1 (by omega)).1), by rw [e 51 (by decide) (by decide) (by decide) (by decide)]; exact hI.2.2⟩, h3.fr (fun κ hκ => (hFa κ 5 (by omega)).1) (fun κ a b => hFa κ 0 (by omega)), ⟨k', hk', h4.fr (fun κ hκ => (hFa κ 6 (by omega)).1) (fun κ a b => hFa κ 1 (by omega))⟩, h5.1.fr (hFa 25 1 (by omega)).1, fun t ht kd hkd => by rw [e 40 (by decide) (by decide) (by decide) (by decide), e 38 (by decide) (by decide) (by decide) (by decide)]; exact h5.2 t ht kd hkd⟩
    · rw [e 13 (by decide) (by decide) (by decide) (by decide), e 50 (by decide) (by decide) (by decide) (by decide)]; exact f1
    · rw [e 13 (by decide) (by decide) (by decide) (by decide), e 50 (by decide) (by decide) (by decide) (by decide)]; exact f2
    · have e43 : M'.1 43 0 0 j = if j = k then 1 else M.1 43 0 0 j := by
        rw [k5.k1 (fun b => by omega), hM2, uI1]
        by_cases z : j = k
        · rw [if_pos ⟨rfl, rfl, rfl, z⟩, if_pos z]
        · rw [if_neg (fun q => z q.2.2.2), if_neg z, q3.k1 (fun b => by omega)]
      by_cases z : j = k
      · subst z
        right
        refine ⟨β, L, by rw [e43, if_pos rfl], k3, hI.1, ?_, ?_⟩
        · refine q2.fr (fun κ hκ => ?_)
          rw [(k5 κ (j + 2) (by omega)).1, hM2, uI_k (by omega)]
        · exact hw2.eq hI.1 (fun i hi => k1 i hi)
      · have e53 : M'.1 53 0 0 j = M.1 53 0 0 j := by rw [k4 j z, e2 53 (by decide) (by decide)]
        have e52 : ∀ i, i < 201 → M'.1 52 0 0 (201 * j + i) = M.1 52 0 0 (201 * j + i) := fun i hi => by rw [k2 _ (by omega), e2 52 (by decide) (by decide)]
        rw [e43, if_neg z, e53]
        rcases im j hj with q | ⟨β', L', y1, y2, y3, y4, y5⟩
        · exact Or.inl q
        · right
          exact ⟨β', L', y1, y2, y3, y4.fr (fun κ hκ => (hFa κ (j + 2) (by omega)).1), y5.eq y3 (fun i hi => e52 i hi)⟩
theorem ok_back : ∀ M : Mw, Inv M → ∀ a1 : Int32, ∃ (r1 : Int32 × Mw) (r2 : Int32 × Mw), F_X9_back a1 M = some r1 ∧ F_X10_back a1 r1.2 = some r2 ∧ r1.1 = r2.1 ∧ Inv r2.2 := by
  intro M hM a1
  obtain ⟨β, L, h⟩ := hM
  unfold F_X9_back
  rcases rng_cases a1 (show 3 < 2 ^ 31 by omega) with ⟨k, hk, rfl⟩ | c
  case inr =>
    have : (if a1 < 0 then some ((-2), M) else (if a1 < 3 then (if inb a1 3 then (if (M.1 43 0 0 a1.toNatClampNeg) = 0 then some ((-6), M) else (if inb a1 3 then ((F_X0_copyFrom 1 (a1.toNatClampNeg + 2) M).bind (fun M6 => ((F_X9_refresh M6).bind (fun M8 => some (0, M8))))) else none)) else none) else some ((-2), M))) = some ((-2 : Int32), M) := by
      by_cases c1 : a1 < 0
      · rw [if_pos c1]
      · rw [if_neg c1, if_neg (show ¬ a1 < 3 from fun q => c ⟨c1, q⟩)]
    rw [this]
    refine ⟨_, ((-2), M), rfl, ?_, rfl, β, L, h⟩
    unfold F_X10_back
    show (F_X10_in a1.toInt64 0 2 M).bind _ = _
    rw [r_in0n a1 (n := 2) (by omega) (by decide), Option.bind_some, if_neg (show ¬ (¬ a1 < 0 ∧ a1 < nI (2 + 1)) from c), if_pos rfl]
  have hin : inb (nI k) 3 = true := inb_nI hk (by omega)
  have hrb : ∀ M' : Mw, F_X10_back (nI k) M' = if M'.1 53 0 0 k = 0 then some ((-6), M') else it (fun _ _ => none) (B_X10_back_29 (nI k)) FU 0 M' := by
    intro M'
    unfold F_X10_back
    rw [r_in0n _ (n := 2) (by omega) (by decide), Option.bind_some, if_pos (show ¬ nI k < 0 ∧ nI k < nI (2 + 1) from rng_in hk (by omega)), if_neg (show ¬ (1 : Int32) = 0 by decide), if_pos hin, clampI (by omega)]
  rw [if_neg (nI_pos (by omega)), if_pos (show nI k < 3 from nI_lt (b := 3) hk (by omega)), if_pos hin, clampI (by omega)]
  rcases h.1.2.2.2.1 k hk with ⟨z1, z2⟩ | ⟨β', L', y1, y2, y3, y4, y5⟩
  · rw [if_pos z1]
    refine ⟨_, ((-6), M), rfl, ?_, rfl, β, L, h⟩
    show F_X10_back (nI k) M = _
    rw [hrb, if_pos z2]
  obtain ⟨M1, q1, q2, q3⟩ := c_copy (b := 1) (b1 := k + 2) (by omega) y3.1 y4
  obtain ⟨M', t1, t2, t3, t4, t5⟩ := inv_refresh y3 (h.1.g (fun κ hκ => q3.k1 (fun b => by omega)) (fun j _ => by rw [q3.k1 (κ := 50) (fun b => by omega)]) (fun κ b _ _ _ => (q3 κ b (by omega)).1)) q2 (h.2.2.2.2.1.fr (q3 25 1 (by omega)).1)
  have e : ∀ κ, 44 ≤ κ → M'.1 κ = M.1 κ := fun κ a => by rw [t4 κ a, q3.k1 (fun b => by omega)]
  rw [if_neg (by rw [y1]; decide), if_pos hin, q1, Option.bind_some, t1, Option.bind_some]
  have key := it_for (z := fun _ _ => none) (B := B_X10_back_29 (nI k)) (n := 201) (P := fun n M3 => (∀ i, i < n → M3.1 51 0 0 i = M'.1 52 0 0 (201 * k + i)) ∧ Fr (fun κ _ => κ = 51) M' M3)
    (Q := fun o => ∃ M2, o = some (0, M2) ∧ (∀ i, i < 201 → M2.1 51 0 0 i = M'.1 52 0 0 (201 * k + i)) ∧ Fr (fun κ _ => κ = 51) M' M2)
    (fun kk n M3 hn hP => by
      obtain ⟨p1, p3⟩ := hP
      left
      have ea : (201 * nI k) + nI n = nI (201 * k + n) := by rw [show (201 : Int32) = nI 201 from rfl, pk_mul, nI_add]
      unfold B_X10_back_29
      rw [if_neg (show ¬ (201 : Int32) ≤ nI n from nI_ge (b := 201) hn (by omega)), ea, if_pos (inb_nI (by omega) (by omega)), if_pos (inb_nI hn (by omega)), clampI (by omega), clampI (by omega), bd_eq, bd_eq, nI_1]
      refine ⟨_, rfl, fun i hi => ?_, p3.trans (Fr.uI rfl)⟩
      rw [uI1]
      by_cases z : i = n
      · rw [if_pos ⟨rfl, rfl, rfl, z⟩, p3.k1 (fun b => by omega), z]
      · rw [if_neg (fun q => z q.2.2.2)]
        exact p1 i (by omega))
    (fun kk M3 hP => by
      unfold B_X10_back_29
      rw [if_pos (show (201 : Int32) ≤ nI 201 by decide)]
      exact ⟨M3, rfl, hP⟩)
    FU 0 M' (by omega) (by unfold FU; omega) ⟨fun i hi => by omega, Fr.rfl⟩
  rw [nI_0] at key
  obtain ⟨M2, k0, k1, k2⟩ := key
  refine ⟨(0, M'), (0, M2), rfl, ?_, rfl, β', L', t5 M2 ?_ (Or.inr k2)⟩
  · show F_X10_back (nI k) M' = _
    rw [hrb, if_neg (by rw [e 53 (by decide), y2]; decide)]
    exact k0
  · refine y5.eq y3 (fun i hi => ?_)
    rw [k1 i hi, e 52 (by decide)]
theorem or_bit : ∀ v, v < 64 → ∀ k, k < 6 → (if v.testBit k = true then nI (v % 2 ^ k) ||| (1 <<< (nI k &&& 31)) else nI (v % 2 ^ k) ||| 0) = nI (v % 2 ^ (k + 1)) := by decide +kernel
theorem r_followersOf {M : Mw} {β : Bw} {L : Lw} (hx : Gx β L) (hw : RWd (M.1 51 0 0) β L) {t n : Nat} (ht : t < β 0 0 5) (hn : n < β 4 t 6) : F_X10_followersOf (nI t) (nI n) M = some (nI (β 8 t n)) := by
  have hT5 := hx.1.1.2.2.2.2
  have h66 := (hx.1.2.2.2.1 t ht).2.2.2.2.2.2.2.2.2
  obtain ⟨-, -, hv, hbits⟩ := hx.1.2.2.2.2.1 t n ht hn
  have eN : F_X10_nodesOf (nI t) M = some (nI (β 4 t 6)) := by
    unfold F_X10_nodesOf
    rw [show (6 : Int32) = nI 6 from rfl, r_told (by omega) (by omega), Option.bind_some, hw.2.1 t ht 6 (by omega)]
  have eB : ∀ k, k < β 4 t 6 → F_X10_isBehind (nI t) (nI k) (nI n) M = some (if n < k ∧ (β 8 t n).testBit k = true then 1 else 0) := by
    intro k hk
    obtain ⟨-, s, hs, es, hb⟩ := hw.2.2.1 t ht k hk
    unfold F_X10_isBehind
    have e : (46 + (2 * ((6 * nI t) + nI k))) + 1 = nI (46 + 2 * (6 * t + k) + 1) := by
      rw [show (46 : Int32) = nI 46 from rfl, show (2 : Int32) = nI 2 from rfl, show (6 : Int32) = nI 6 from rfl, show (1 : Int32) = nI 1 from rfl, pk_mul, nI_add, pk_mul, nI_add, nI_add]
    rw [e, if_pos (inb_nI (by omega) (by omega)), clampI (by omega), es]
    have hbb := hb n
    by_cases c : s.testBit n = true
    · rw [if_pos ((bit_at s hs n (by omega)).mpr c)]
      rw [c] at hbb
      rw [if_pos (of_decide_eq_true hbb.symm)]
    · rw [if_neg (mt (bit_at s hs n (by omega)).mp c)]
      rw [if_neg (fun q => c (by rw [hbb]; exact decide_eq_true q))]
  have hlow : (β 8 t n) % 2 ^ (n + 1) = 0 := by
    apply Nat.eq_of_testBit_eq
    intro i
    rw [Nat.testBit_mod_two_pow, Nat.zero_testBit]
    by_cases c : (β 8 t n).testBit i = true
    · have := (hbits i c).1
      rw [decide_eq_false (by omega)]
      rfl
    · rw [Bool.eq_false_iff.mpr c, Bool.and_false]
  have htop : (β 8 t n) % 2 ^ (β 4 t 6) = β 8 t n := by
    apply Nat.eq_of_testBit_eq
    intro i
    rw [Nat.testBit_mod_two_pow]
    by_cases c : (β 8 t n).testBit i = true
    · have := (hbits i c).2
      rw [decide_eq_true this, Bool.true_and]
    · rw [Bool.eq_false_iff.mpr c, Bool.and_false]
  unfold F_X10_followersOf
  rw [bd_eq, nI_1]
  exact it_forA (z := fun _ _ => none) (B := B_X10_followersOf_7 (nI t) (nI n) M) (n := β 4 t 6) (P := fun k a => n < k ∧ a = nI (β 8 t n % 2 ^ k)) (Q := fun o => o = some (nI (β 8 t n))) (fun k i a hi hP => by
    obtain ⟨p0, rfl⟩ := hP
    left
    unfold B_X10_followersOf_7
    rw [eN, Option.bind_some, if_neg (nI_ge hi (by omega)), eB i hi, Option.bind_some]
    have hob := or_bit (β 8 t n) hv i (by omega)
    by_cases c : (β 8 t n).testBit i = true
    · rw [if_pos c] at hob
      rw [if_pos (show n < i ∧ (β 8 t n).testBit i = true from ⟨p0, c⟩), if_neg (show ¬ (1 : Int32) = 0 by decide), bd_eq, bd_eq, nI_1, hob]
      exact ⟨_, rfl, by omega, rfl⟩
    · rw [if_neg c] at hob
      rw [if_neg (show ¬ (n < i ∧ (β 8 t n).testBit i = true) from fun q => c q.2), if_pos rfl, bd_eq, bd_eq, nI_1, hob]
      exact ⟨_, rfl, by omega, rfl⟩) (fun k a hP => by
    obtain ⟨p0, rfl⟩ := hP
    unfold B_X10_followersOf_7
    rw [eN, Option.bind_some, if_pos (Int32.le_refl _), htop]) FU (n + 1) 0 hn (by unfold FU; omega) ⟨by omega, by rw [hlow]; rfl⟩
theorem ok_node : ∀ M : Mw, Inv M → ∀ a1 a2 a3 : Int32, ∃ (r1 : Int32) (r2 : Int32), F_X9_node a1 a2 a3 M = some r1 ∧ F_X10_node a1 a2 a3 M = some r2 ∧ r1 = r2 ∧ Inv M := by
  intro M hM a1 a2 a3
  obtain ⟨β, L, h⟩ := hM
  have hx := h.2.1.1
  have hT5 := hx.1.1.2.2.2.2
  have hw := h.2.1.2.2
  unfold F_X9_node F_X10_node
  rcases task_cases h.2.1 a1 with ⟨t1, t2⟩ | ⟨t, ht, rfl, t1, t2⟩
  · unfold F_X0_hasNode
    rw [t1, t2 M hw, Option.bind_some, Option.bind_some, if_pos rfl, if_pos rfl, Option.bind_some, if_pos rfl]
    exact ⟨_, _, rfl, rfl, rfl, β, L, h⟩
  have h66 := (hx.1.2.2.2.1 t ht).2.2.2.2.2.2.2.2.2
  have eN : F_X10_nodesOf (nI t) M = some (nI (β 4 t 6)) := by
    unfold F_X10_nodesOf
    rw [show (6 : Int32) = nI 6 from rfl, r_told (by omega) (by omega), Option.bind_some, hw.2.1 t ht 6 (by omega)]
  rw [c_hasNode hx.1 h.2.1.2.1.d ht, t2 M hw, Option.bind_some, Option.bind_some, if_neg (show ¬ (1 : Int32) = 0 by decide), eN, Option.bind_some, r_in0 a2 (by omega), Option.bind_some]
  rcases rng_cases a2 (show β 4 t 6 < 2 ^ 31 by omega) with ⟨n, hn, rfl⟩ | c
  case inr =>
    rw [if_neg c, if_pos rfl, if_pos rfl]
    exact ⟨_, _, rfl, rfl, rfl, β, L, h⟩
  rw [if_pos (rng_in hn (by omega)), if_neg (show ¬ (1 : Int32) = 0 by decide), if_neg (show ¬ (1 : Int32) = 0 by decide), r_in0n a3 (n := 1) (by omega) (by decide), Option.bind_some]
  rcases rng_cases a3 (show 2 < 2 ^ 31 by omega) with ⟨j, hj, rfl⟩ | c
  case inr =>
    rw [if_neg (show ¬ (¬ a3 < 0 ∧ a3 < nI (1 + 1)) from c), if_pos rfl]
    have : ∀ X : Option Int32, (if a3 < 0 then some (-2) else if a3 ≤ 1 then X else some (-2)) = some (-2) := by
      intro X
      by_cases c1 : a3 < 0
      · rw [if_pos c1]
      · rw [if_neg c1, if_neg (show ¬ a3 ≤ 1 from fun q => c ⟨c1, (le_pred a3 (n := 1) (by omega)).mp q⟩)]
    rw [this]
    exact ⟨_, _, rfl, rfl, rfl, β, L, h⟩
  rw [if_pos (show ¬ nI j < 0 ∧ nI j < nI (1 + 1) from rng_in hj (by omega)), if_neg (show ¬ (1 : Int32) = 0 by decide), if_neg (nI_pos (by omega)), if_pos (show nI j ≤ 1 from nI_le (b := 1) (by omega) (by omega)), if_pos (inb_nI (by omega) (by omega)), if_pos (inb_nI (by omega) (by omega)), if_pos (inb_nI (by omega) (by omega)), if_pos (inb_nI (by omega) (by omega)), clampI (by omega), clampI (by omega), (h.2.1.2.1.d.2.2.2.1 t ht n hn).1, (h.2.1.2.1.d.2.2.2.1 t ht n hn).2, r_units (by omega) (by omega), (hw.2.2.1 t ht n hn).1, Option.bind_some, r_followersOf hx hw ht hn, Option.bind_some]
  by_cases c0 : nI j = 0
  · rw [if_pos c0]
    exact ⟨_, _, rfl, rfl, rfl, β, L, h⟩
  · rw [if_neg c0]
    exact ⟨_, _, rfl, rfl, rfl, β, L, h⟩
