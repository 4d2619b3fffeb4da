/-! FLOATS, 64 bits -/
theorem sd64 (a : UInt64) (h : a.toNat < 9218868437227405312) : SD FP.Core.b64 (FP.Core.val64 a) (FP.Core.unitsOf FP.Core.b64 a.toNat) := by
  have hm : a.toNat % 2 ^ 63 = a.toNat := Nat.mod_eq_of_lt (Nat.lt_of_lt_of_le h (by decide))
  obtain ⟨s, c, q, hs⟩ := (FP.Core.fin_bits a).mpr (by rw [hm]; exact h)
  have hn : FP.Core.val64 a ≠ .nan := by
    rw [hs]
    intro q
    cases q
  have hsg := FP.Core.sgn_bits hn
  have hz := FP.Core.zmag_bits hn
  have hfit := FP.Core.val64_fits a
  rw [hm] at hz
  rw [decide_eq_false (Nat.not_le.mpr (Nat.lt_of_lt_of_le h (show 9218868437227405312 ≤ 2 ^ 63 by decide)))] at hsg
  rw [hs] at hsg hz hfit ⊢
  have e : s = false := hsg
  rw [e] at hz hfit ⊢
  exact ⟨hfit, c, q, rfl, hz⟩
theorem bt64 {a : UInt64} {z : Nat} (h : SD FP.Core.b64 (FP.Core.val64 a) z) : a.toNat < 9218868437227405312 ∧ FP.Core.unitsOf FP.Core.b64 a.toNat = z := by
  have hn := h.nn
  have hsg := FP.Core.sgn_bits hn
  rw [h.sg] at hsg
  have h1 : ¬ 2 ^ 63 ≤ a.toNat := of_decide_eq_false hsg.symm
  have hm : a.toNat % 2 ^ 63 = a.toNat := Nat.mod_eq_of_lt (Nat.lt_of_not_le h1)
  have hz := FP.Core.zmag_bits hn
  rw [hm, h.zm] at hz
  have hf := (FP.Core.fin_bits a).mp (by
    obtain ⟨-, c, q, e, -⟩ := h
    exact ⟨false, c, q, e⟩)
  rw [hm] at hf
  exact ⟨hf, hz.symm⟩
theorem nd_nn {a : UInt64} (h : FP.Core.val64 a ≠ .nan) : nd a = true := by
  have h2 := (FP.Core.ne_nan a).mp h
  rw [← FP.Core.mask_toNat] at h2
  unfold nd
  exact decide_eq_true (UInt64.le_iff_toNat_le.mpr h2)
theorem nd_sd {a : UInt64} {z : Nat} (h : SD FP.Core.b64 (FP.Core.val64 a) z) : nd a = true := nd_nn h.nn
theorem u64 : uO FP.Core.b64 = FP.Core.b64.tails * 2 ^ 1022 := by decide +kernel
theorem p1074 : 2 ^ 1074 = uO FP.Core.b64 := by decide +kernel
theorem u64p : 0 < uO FP.Core.b64 := Nat.two_pow_pos _
theorem k64c (a : UInt64) (v : Nat) (h : a.toNat < 9218868437227405312) (e : FP.Core.unitsOf FP.Core.b64 a.toNat = v) : SD FP.Core.b64 (FP.Core.val64 a) v := by
  rw [← e]
  exact sd64 a h
theorem k64_0 : SD FP.Core.b64 (FP.Core.val64 FP.dconst0) 0 := k64c _ _ (by decide +kernel) (by decide +kernel)
theorem k64_1 : SD FP.Core.b64 (FP.Core.val64 FP.dconst1) (uO FP.Core.b64) := k64c _ _ (by decide +kernel) (by decide +kernel)
theorem k64_2 : SD FP.Core.b64 (FP.Core.val64 4611686018427387904) (2 * uO FP.Core.b64) := k64c _ _ (by decide +kernel) (by decide +kernel)
theorem k64_m : SD FP.Core.b64 (FP.Core.val64 4841369599423283200) (FP.Core.b64.tails * uO FP.Core.b64) := k64c _ _ (by decide +kernel) (by decide +kernel)
theorem mul64 {x y : UInt64} {V : Dtw} {a b v : Nat} (hx : SD FP.Core.b64 (FP.Core.val64 x) a) (hy : SD FP.Core.b64 (FP.Core.val64 y) b) (hV : SD FP.Core.b64 V v) (h : a * b ≤ v * uO FP.Core.b64) :
    ∃ z, z ≤ v ∧ SD FP.Core.b64 (FP.Core.val64 (FP.dmul x y)) z ∧ (v * uO FP.Core.b64 ≤ a * b → z = v) := by
  have := sd_mul FP.Core.good_b64 hx hy hV h
  rw [← FP.Core.val64_dmul] at this
  exact this
theorem div64 {x y : UInt64} {V : Dtw} {a b v : Nat} (hx : SD FP.Core.b64 (FP.Core.val64 x) a) (hy : SD FP.Core.b64 (FP.Core.val64 y) b) (hV : SD FP.Core.b64 V v) (hb : 0 < b) (h : a * uO FP.Core.b64 ≤ v * b) :
    ∃ z, z ≤ v ∧ SD FP.Core.b64 (FP.Core.val64 (FP.ddiv x y)) z ∧ (v * b ≤ a * uO FP.Core.b64 → z = v) := by
  have := sd_div FP.Core.good_b64 hx hy hV hb h
  rw [← FP.Core.val64_ddiv] at this
  exact this
theorem add64 {x y : UInt64} {V : Dtw} {a b v : Nat} (hx : SD FP.Core.b64 (FP.Core.val64 x) a) (hy : SD FP.Core.b64 (FP.Core.val64 y) b) (hV : SD FP.Core.b64 V v) (h : a + b ≤ v) :
    ∃ z, z ≤ v ∧ SD FP.Core.b64 (FP.Core.val64 (FP.dadd x y)) z := by
  have := sd_add FP.Core.good_b64 hx hy hV h
  rw [← FP.Core.val64_dadd] at this
  exact this
theorem sub64 {x y : UInt64} {V : Dtw} {a b v : Nat} (hx : SD FP.Core.b64 (FP.Core.val64 x) a) (hy : SD FP.Core.b64 (FP.Core.val64 y) b) (hV : SD FP.Core.b64 V v) (hab : b ≤ a) (h : a - b ≤ v) :
    ∃ z, z ≤ v ∧ SD FP.Core.b64 (FP.Core.val64 (FP.dsub x y)) z ∧ (v ≤ a - b → z = v) := by
  have := sd_sub FP.Core.good_b64 hx hy hV hab h
  rw [← FP.Core.val64_dsub] at this
  exact this
theorem cmp64 {x y : UInt64} {a b : Nat} (hx : SD FP.Core.b64 (FP.Core.val64 x) a) (hy : SD FP.Core.b64 (FP.Core.val64 y) b) : FP.dcmp x y = some (compare (a : Int) (b : Int)) := by
  show FP.Core.dcmp x y = _
  rw [FP.Core.dcmp_zval hx.nn hy.nn, hx.zv, hy.zv]
theorem nL_toInt {t : Nat} (ht : t < 2 ^ 63) : (Int64.ofNat t).toInt = (t : Int) := Int64.toInt_ofNat_of_lt ht
theorem nL_add (a b : Nat) : Int64.ofNat a + Int64.ofNat b = Int64.ofNat (a + b) := (Int64.ofNat_add a b).symm
theorem nL_m1 (n : Nat) : Int64.ofNat (n + 1) - 1 = Int64.ofNat n := by
  rw [← nL_add]
  show Int64.ofNat n + 1 - 1 = _
  rw [Int64.add_sub_cancel]
theorem cast64 {x : UInt64} {t : Nat} (h : SD FP.Core.b64 (FP.Core.val64 x) (t * uO FP.Core.b64)) (ht : t < 2 ^ 63) : FP.d2l x = Int64.ofNat t := by
  apply Int64.toInt.inj
  have h2 := FP.Core.d2l_val h.nn
  rw [h.sg, h.zm, show FP.Core.one64 = uO FP.Core.b64 from p1074, Nat.mul_div_cancel _ u64p] at h2
  have h3 : FP.Core.signed false t = (t : Int) := rfl
  rw [h3] at h2
  rw [nL_toInt ht]
  show (FP.Core.d2l x).toInt = _
  rw [h2]
  omega
theorem shl52 : ∀ e, e < 1024 → Int64.ofNat e <<< ((52 : Int32).toInt64 &&& 63) = Int64.ofNat (e * 4503599627370496) := by
  decide +kernel
theorem t64 : FP.Core.b64.tails = 4503599627370496 := by decide
theorem bd_87 {x : UInt64} {n b Z : Nat} (M : Mw) (hn : n < 4611686018427387904) (hx : SD FP.Core.b64 (FP.Core.val64 x) Z) (hZ : Z < 2 * uO FP.Core.b64) (he : Z = FP.Core.unitsOf FP.Core.b64 n * 2 ^ b) (hb : b ≤ 1022) (hc : uO FP.Core.b64 ≤ Z ∨ b = 1022) : B_X9_bitsOfDouble_87 x (Int64.ofNat (1023 - b)) M = some (Int64.ofNat n) := by
  have hg := FP.Core.good_b64
  unfold B_X9_bitsOfDouble_87
  rw [cmp64 hx k64_1]
  by_cases c : uO FP.Core.b64 ≤ Z
  · rw [if_pos ((cvg_ge _ _).mpr c)]
    obtain ⟨t, t1, t2⟩ := sd_band hg (N := 1022) hx (by rw [← u64]; exact c) (by rw [← u64]; exact hZ)
    have hn2 := cr_norm (f := FP.Core.b64) (N := 1022) (n := n) (t := t) (a := 0) (b := b) t1 (by omega) (by rw [Nat.pow_zero, Nat.mul_one, ← t2]; exact he)
    have t3 : Z - uO FP.Core.b64 = t * 2 ^ 1022 := by
      rw [t2, u64, Nat.add_mul, Nat.add_sub_cancel_left]
    have hp : t < 2 ^ FP.Core.b64.p := Nat.lt_of_lt_of_le t1 (by decide)
    obtain ⟨V, hV⟩ := sd_ex hg (t := t) (j := 1022) hp (by decide)
    obtain ⟨z, -, s1, s2⟩ := sub64 hx k64_1 hV c (by rw [t3]; exact Nat.le_refl _)
    rw [s2 (by rw [t3]; exact Nat.le_refl _)] at s1
    obtain ⟨W, hW⟩ := sd_ex hg (t := t) (j := 1074) hp (by decide)
    rw [p1074] at hW
    have e1 : t * 2 ^ 1022 * (FP.Core.b64.tails * uO FP.Core.b64) = t * uO FP.Core.b64 * uO FP.Core.b64 := by
      rw [← Nat.mul_assoc, Nat.mul_assoc t, Nat.mul_comm (2 ^ 1022), ← u64]
    obtain ⟨z2, -, m1, m2⟩ := mul64 s1 k64_m hW (by rw [e1]; exact Nat.le_refl _)
    rw [m2 (by rw [e1]; exact Nat.le_refl _)] at m1
    rw [if_pos (nd_sd s1), if_pos (nd_sd m1), cast64 m1 (Nat.lt_of_lt_of_le t1 (by decide))]
    rw [t64] at hn2
    rw [shl52 _ (by omega), nL_add, hn2]
  · rw [if_neg (fun q => c ((cvg_ge _ _).mp q))]
    rcases hc with hc | hb0
    · exact absurd hc c
    · rw [hb0] at he
      have hU := cr_sub (f := FP.Core.b64) (n := n) (N := 1022) (by rw [← he, ← u64]; exact Nat.lt_of_not_le c)
      rw [hU] at he
      have hnt : n < FP.Core.b64.tails := by
        have : n * 2 ^ 1022 < FP.Core.b64.tails * 2 ^ 1022 := by rw [← he, ← u64]; exact Nat.lt_of_not_le c
        exact Nat.lt_of_mul_lt_mul_right this
      obtain ⟨W, hW⟩ := sd_ex hg (t := n) (j := 1074) (Nat.lt_of_lt_of_le hnt (by decide)) (by decide)
      rw [p1074] at hW
      have e1 : Z * (FP.Core.b64.tails * uO FP.Core.b64) = n * uO FP.Core.b64 * uO FP.Core.b64 := by
        rw [he, ← Nat.mul_assoc, Nat.mul_assoc n, Nat.mul_comm (2 ^ 1022), ← u64]
      obtain ⟨z2, -, m1, m2⟩ := mul64 hx k64_m hW (by rw [e1]; exact Nat.le_refl _)
      rw [m2 (by rw [e1]; exact Nat.le_refl _)] at m1
      rw [if_pos (nd_sd m1), cast64 m1 (Nat.lt_of_lt_of_le hnt (by decide))]
theorem bd_all (x : UInt64) (hx : x.toNat < 4611686018427387904) (M : Mw) : F_X9_bitsOfDouble x M = some (Int64.ofNat x.toNat) := by
  have hg := FP.Core.good_b64
  have hs := sd64 x (Nat.lt_trans hx (by decide))
  have hU : FP.Core.unitsOf FP.Core.b64 x.toNat < 2 * uO FP.Core.b64 := by
    have h1 := FP.Core.unitsOf_lt (f := FP.Core.b64) hx
    exact Nat.lt_of_lt_of_le h1 (by decide +kernel)
  unfold F_X9_bitsOfDouble
  rw [cmp64 hs k64_0]
  by_cases c : 0 < FP.Core.unitsOf FP.Core.b64 x.toNat
  · rw [if_pos ((cvl_gt _ _).mpr c), bd_eq, bd_eq]
    unfold FU
    rw [it_succ]
    unfold B_X9_bitsOfDouble_18
    rw [if_neg (by decide), cmp64 hs k64_2, if_pos ((cvl_lt _ _).mpr hU)]
    have key := it_c3 (z := fun _ _ _ => none) (B := B_X9_bitsOfDouble_55 M) (n := 1022)
      (P := fun t y e => ∃ Y, SD FP.Core.b64 (FP.Core.val64 y) Y ∧ Y < 2 * uO FP.Core.b64 ∧ Y = FP.Core.unitsOf FP.Core.b64 x.toNat * 2 ^ t ∧ e = Int64.ofNat (1023 - t))
      (Q := fun o => o = some (Int64.ofNat x.toNat))
      (fun k t y e ht hP => by
        obtain ⟨Y, p1, p2, p3, p4⟩ := hP
        unfold B_X9_bitsOfDouble_55
        rw [if_neg (show ¬ (1022 : Int32) ≤ nI t from nI_ge (b := 1022) ht (by omega)), cmp64 p1 k64_1]
        by_cases c : uO FP.Core.b64 ≤ Y
        · right
          rw [if_pos ((cvg_ge _ _).mpr c), p4]
          exact bd_87 M hx p1 p2 p3 (by omega) (Or.inl c)
        · left
          rw [if_neg (fun q => c ((cvg_ge _ _).mp q))]
          obtain ⟨V, hV⟩ := sd_dbl hg (N := 1022) p1 (by decide) (by rw [← u64]; exact Nat.lt_of_not_le c)
          have e1 : Y * (2 * uO FP.Core.b64) = 2 * Y * uO FP.Core.b64 := by rw [← Nat.mul_assoc, Nat.mul_comm Y]
          obtain ⟨z, -, m1, m2⟩ := mul64 p1 k64_2 hV (by rw [e1]; exact Nat.le_refl _)
          rw [m2 (by rw [e1]; exact Nat.le_refl _)] at m1
          rw [if_pos (nd_sd m1), bd_eq, bd_eq, bd_eq, nI_1]
          refine ⟨_, _, rfl, 2 * Y, m1, by omega, ?_, ?_⟩
          · rw [Nat.pow_succ, ← Nat.mul_assoc, ← p3, Nat.mul_comm]
          · rw [p4, show 1023 - t = 1023 - (t + 1) + 1 by omega, nL_m1])
      (fun k y e hP => by
        obtain ⟨Y, p1, p2, p3, p4⟩ := hP
        unfold B_X9_bitsOfDouble_55
        rw [if_pos (show (1022 : Int32) ≤ nI 1022 by decide), p4]
        exact bd_87 M hx p1 p2 p3 (Nat.le_refl _) (Or.inr rfl))
      FU 0 x 1023 (Nat.zero_le _) (by unfold FU; omega) ⟨_, hs, hU, by rw [Nat.pow_zero, Nat.mul_one], rfl⟩
    rw [nI_0] at key
    unfold B_X9_bitsOfDouble_52
    exact key
  · rw [if_neg (fun q => c ((cvl_gt _ _).mp q))]
    have h0 := FP.Core.unitsOf_eq_zero.mp (Nat.le_zero.mp (Nat.le_of_not_lt c))
    rw [h0]
    rfl
theorem db_all (x : UInt64) (hx : x.toNat < 9218868437227405312) (M : Mw) : F_Jxe99ae_doubleToLongBits_ccdee x M = some (Int64.ofNat x.toNat) := by
  have hs := sd64 x hx
  unfold F_Jxe99ae_doubleToLongBits_ccdee F_Jxe99ae_isNaN_b9ae7
  rw [cmp64 hs hs, cvl_self, if_pos rfl, Option.bind_some, if_pos rfl]
  refine congrArg some (Int64.toBitVec_inj.mp (BitVec.eq_of_toNat_eq ?_))
  show x.toBitVec.toNat = (BitVec.ofNat 64 x.toNat).toNat
  rw [BitVec.toNat_ofNat]
  exact (Nat.mod_eq_of_lt x.toBitVec.isLt).symm
