/-! FLOATS: what the runs ask of them -/
theorem fo_sd {x : UInt32} (h : FOx x) : SD FP.Core.b32 (FP.Core.val32 x) (FP.Core.unitsOf FP.Core.b32 x.toNat) ∧ FP.Core.unitsOf FP.Core.b32 x.toNat ≤ uO FP.Core.b32 := by
  unfold FOx at h
  refine ⟨sd32 x (Nat.lt_of_le_of_lt h (by decide)), ?_⟩
  have h2 := (FP.Core.unitsOf_le_iff (f := FP.Core.b32)).mpr h
  exact Nat.le_trans h2 (by decide +kernel)
theorem sd_fo {x : UInt32} {z : Nat} (h : SD FP.Core.b32 (FP.Core.val32 x) z) (hz : z ≤ uO FP.Core.b32) : FOx x := by
  have h2 := (bt32 h).2
  have e : FP.Core.unitsOf FP.Core.b32 1065353216 = uO FP.Core.b32 := by decide +kernel
  unfold FOx
  refine (FP.Core.unitsOf_le_iff (f := FP.Core.b32)).mp ?_
  rw [h2, e]
  exact hz
theorem i2f_sd (n : Nat) (hn : n ≤ 1000) : SD FP.Core.b32 (FP.Core.val32 (FP.i2f (nI n))) (n * uO FP.Core.b32) := by
  have ht : (nI n).toInt = (n : Int) := nI_toInt (by omega)
  have h1 : FP.Core.FInt (nI n).toInt (FP.Core.i2f (nI n)) := FP.Core.i2f_int (by
    rw [ht]
    omega)
  have hz := FP.Core.FInt_zval h1
  obtain ⟨c, q, hs⟩ := FP.Core.l2f_shape (nI n).toInt64
  rw [← FP.Core.i2f_l2f, Int32.toInt_toInt64, ht, decide_eq_false (show ¬ (n : Int) < 0 by omega)] at hs
  refine ⟨FP.Core.val32_fits _, c, q, hs, ?_⟩
  rw [hs, ht] at hz
  have hz2 : ((FP.Core.inUnits c q FP.Core.b32.qmin : Nat) : Int) = (n : Int) * (FP.Core.one32 : Int) := hz
  rw [← Int.natCast_mul] at hz2
  rw [Int.ofNat_inj.mp hz2, show FP.Core.one32 = uO FP.Core.b32 from p149]
theorem i2d_sd (n : Nat) (hn : n ≤ 1000) : SD FP.Core.b64 (FP.Core.val64 (FP.i2d (nI n))) (n * uO FP.Core.b64) := by
  have ht : (nI n).toInt = (n : Int) := nI_toInt (by omega)
  have h1 : FP.Core.DInt (nI n).toInt (FP.Core.i2d (nI n)) := FP.Core.i2d_int _
  have hz := FP.Core.DInt_zval h1
  obtain ⟨c, q, hs⟩ := FP.Core.l2d_shape (nI n).toInt64
  rw [← FP.Core.i2d_l2d, Int32.toInt_toInt64, ht, decide_eq_false (show ¬ (n : Int) < 0 by omega)] at hs
  refine ⟨FP.Core.val64_fits _, c, q, hs, ?_⟩
  rw [hs, ht] at hz
  have hz2 : ((FP.Core.inUnits c q FP.Core.b64.qmin : Nat) : Int) = (n : Int) * (FP.Core.one64 : Int) := hz
  rw [← Int.natCast_mul] at hz2
  rw [Int.ofNat_inj.mp hz2, show FP.Core.one64 = uO FP.Core.b64 from p1074]
theorem f2d_sd {m : UInt32} {a : Nat} (h : SD FP.Core.b32 (FP.Core.val32 m) a) (ha : a ≤ uO FP.Core.b32) : ∃ z, z ≤ uO FP.Core.b64 ∧ SD FP.Core.b64 (FP.Core.val64 (FP.f2d m)) z := by
  have hn : FP.Core.fIsNaN m = false := (FP.Core.notNaN_iff32 m).mpr h.nn
  unfold FP.f2d
  rw [hn, if_neg (by decide), FP.Core.val64_f2d]
  obtain ⟨hf, c, q, e, hz⟩ := h
  rw [e] at hf ⊢
  have hq : -149 ≤ q := hf.2.1
  obtain ⟨z, z1, z2, -⟩ := sd_rnd FP.Core.good_b64 (n := c) (e := q) (u := FP.Core.inUnits c q FP.Core.b64.qmin) (by
    rw [FP.Core.qmin_b64]
    omega) rfl k64_1 (by
    rw [← hz] at ha
    unfold FP.Core.inUnits at ha ⊢
    rw [FP.Core.qmin_b32] at ha
    rw [FP.Core.qmin_b64, show (q - -1074).toNat = (q - -149).toNat + 925 by omega, Nat.pow_add, ← Nat.mul_assoc]
    have h2 := Nat.mul_le_mul_right (2 ^ 925) ha
    exact Nat.le_trans h2 (by decide +kernel))
  exact ⟨z, z1, z2⟩
theorem fs_sd {n : Nat} {d : UInt64} (hn : n ≤ 1000) (h : FSx n d) : SD FP.Core.b64 (FP.Core.val64 d) (FP.Core.unitsOf FP.Core.b64 d.toNat) ∧ FP.Core.unitsOf FP.Core.b64 d.toNat ≤ n * uO FP.Core.b64 := by
  unfold FSx at h
  obtain ⟨b1, b2⟩ := bt64 (i2d_sd n hn)
  refine ⟨sd64 d (Nat.lt_of_le_of_lt h b1), ?_⟩
  rw [← b2]
  exact (FP.Core.unitsOf_le_iff (f := FP.Core.b64)).mpr h
theorem sd_fs {n z : Nat} {d : UInt64} (hn : n ≤ 1000) (h : SD FP.Core.b64 (FP.Core.val64 d) z) (hz : z ≤ n * uO FP.Core.b64) : FSx n d := by
  obtain ⟨b1, b2⟩ := bt64 (i2d_sd n hn)
  have h2 := (bt64 h).2
  unfold FSx
  refine (FP.Core.unitsOf_le_iff (f := FP.Core.b64)).mp ?_
  rw [b2, h2]
  exact hz
theorem q147 : uO FP.Core.b32 = 4 * 2 ^ 147 := by decide +kernel
theorem q125 : uO FP.Core.b32 = 2 ^ 24 * 2 ^ 125 := by decide +kernel
theorem fx_up {x : UInt32} (h : FOx x) : nf (FP.fsub FP.fconst1 x) = true ∧ nf (FP.fmul (FP.fsub FP.fconst1 x) 1048576000) = true ∧ nf (hUp x) = true ∧ FOx (hUp x) := by
  have hg := FP.Core.good_b32
  obtain ⟨hs, ha⟩ := fo_sd h
  generalize FP.Core.unitsOf FP.Core.b32 x.toNat = a at hs ha
  have fin : ∀ z w : Nat, SD FP.Core.b32 (FP.Core.val32 (FP.fsub FP.fconst1 x)) z → SD FP.Core.b32 (FP.Core.val32 (FP.fmul (FP.fsub FP.fconst1 x) 1048576000)) w → a + w ≤ uO FP.Core.b32 → nf (FP.fsub FP.fconst1 x) = true ∧ nf (FP.fmul (FP.fsub FP.fconst1 x) 1048576000) = true ∧ nf (hUp x) = true ∧ FOx (hUp x) := by
    intro z w hz hw hle
    obtain ⟨v, v1, v2⟩ := add32 hs hw k32_1 hle
    exact ⟨nf_sd hz, nf_sd hw, nf_sd v2, sd_fo v2 v1⟩
  by_cases c : 2 * a < uO FP.Core.b32
  · obtain ⟨z, z1, z2, -⟩ := sub32 k32_1 hs k32_1 ha (Nat.sub_le _ _)
    obtain ⟨w, w1, w2, -⟩ := mul32 z2 k32_q k32_q (by
      rw [Nat.mul_comm]
      exact Nat.mul_le_mul_left _ z1)
    refine fin z w z2 w2 ?_
    have := q147
    omega
  · obtain ⟨c0, k, c1, c2, c3⟩ := hs.can
    have c1' : c0 < 2 ^ 24 := c1
    have hk : 125 ≤ k := by
      apply Nat.le_of_not_lt
      intro q
      have h1 : c0 * 2 ^ k ≤ c0 * 2 ^ 124 := Nat.mul_le_mul_left _ (Nat.pow_le_pow_right (by decide) (by omega))
      have h2 := q125
      omega
    have e : c0 * 2 ^ k = c0 * 2 ^ (k - 125) * 2 ^ 125 := by
      rw [Nat.mul_assoc, ← Nat.pow_add, show k - 125 + 125 = k by omega]
    rw [e] at c2
    generalize c0 * 2 ^ (k - 125) = y at c2
    have h2 := q125
    have hy : y ≤ 2 ^ 24 ∧ 0 < y := by
      constructor
      · omega
      · omega
    obtain ⟨t, ht⟩ : ∃ t, t = 2 ^ 24 - y := ⟨_, rfl⟩
    have e1 : uO FP.Core.b32 - a = t * 2 ^ 125 := by omega
    have ht2 : t < 2 ^ FP.Core.b32.p := by
      show t < 2 ^ 24
      omega
    obtain ⟨V, hV⟩ := sd_ex hg (t := t) (j := 125) ht2 (by decide)
    obtain ⟨z, -, z2, z3⟩ := sub32 k32_1 hs hV ha (by rw [e1]; exact Nat.le_refl _)
    rw [z3 (by rw [e1]; exact Nat.le_refl _)] at z2
    obtain ⟨W, hW⟩ := sd_ex hg (t := t) (j := 123) ht2 (by decide)
    obtain ⟨w, w1, w2, -⟩ := mul32 z2 k32_q hW (by
      rw [q147]
      omega)
    refine fin _ w z2 w2 ?_
    omega
theorem fx_H : FH FOx FOx FSx := by
  have u3 := u32p
  refine ⟨fun x h => ?_, fun x h => fx_up h, fun a c hac h1 h2 => ?_, fun m h => ?_, fun n d m hn hd hm => ?_⟩
  · obtain ⟨hs, ha⟩ := fo_sd h
    obtain ⟨z, z1, z2, -⟩ := div32 hs k32_2 k32_1 (by omega) (Nat.le_trans (Nat.mul_le_mul_right _ ha) (Nat.mul_le_mul_left _ (by omega)))
    exact ⟨nf_sd z2, sd_fo z2 z1⟩
  · obtain ⟨z, z1, z2, -⟩ := div32 (i2f_sd a (by omega)) (i2f_sd c (by omega)) k32_1 (Nat.mul_pos (by omega) u3) (by
      rw [Nat.mul_comm]
      exact Nat.mul_le_mul_left _ (Nat.mul_le_mul_right _ hac))
    exact ⟨nf_sd z2, sd_fo z2 z1⟩
  · obtain ⟨hs, ha⟩ := fo_sd h
    obtain ⟨z, z1, z2⟩ := f2d_sd hs ha
    exact nd_sd z2
  · obtain ⟨hs, ha⟩ := fo_sd hm
    obtain ⟨z, z1, z2⟩ := f2d_sd hs ha
    obtain ⟨ds, da⟩ := fs_sd (by omega) hd
    obtain ⟨w, w1, w2⟩ := add64 ds z2 (i2d_sd (n + 1) (by omega)) (by
      rw [Nat.add_mul, Nat.one_mul]
      omega)
    exact ⟨nd_sd w2, sd_fs (by omega) w2 w1⟩
theorem fx_low : ∀ n, n ≤ 9 → nf (FP.fdiv (FP.i2f (nI n)) 1092616192) = true := by
  decide +kernel
theorem fx_1 : FOx FP.fconst1 := by
  unfold FOx
  decide +kernel
theorem fx_0 : FSx 0 FP.dconst0 := by
  unfold FSx
  decide +kernel
theorem fx_bits (x : UInt32) (h : FOx x) (M M' : Mw) : ∃ r, F_X9_bitsOfFloat x M = some r ∧ F_Jxf58ca_floatToIntBits_5c35a x M' = some r := by
  have h2 : x.toNat < 2139095040 := Nat.lt_of_le_of_lt h (by decide)
  exact ⟨_, bf_all x h2 M, fb_all x h2 M'⟩
theorem fx_tenths (x : UInt32) (h : FOx x) : nf (FP.fmul x 1092616192) = true := by
  obtain ⟨hs, ha⟩ := fo_sd h
  obtain ⟨z, z1, z2, -⟩ := mul32 hs k32_10 k32_10 (by
    rw [Nat.mul_comm]
    exact Nat.mul_le_mul_left _ ha)
  exact nf_sd z2
theorem fx_mean (n : Nat) (d : UInt64) (hn : 0 < n) (hn2 : n ≤ 200) (h : FSx n d) (M M' : Mw) : nd (FP.ddiv d (FP.i2d (nI n))) = true ∧ ∃ r, F_X9_bitsOfDouble (FP.ddiv d (FP.i2d (nI n))) M = some r ∧ F_Jxe99ae_doubleToLongBits_ccdee (FP.ddiv d (FP.i2d (nI n))) M' = some r := by
  obtain ⟨ds, da⟩ := fs_sd (by omega) h
  obtain ⟨z, z1, z2, -⟩ := div64 ds (i2d_sd n (by omega)) k64_1 (Nat.mul_pos hn u64p) (by
    rw [Nat.mul_comm]
    exact Nat.mul_le_mul_left _ da)
  have e : FP.Core.unitsOf FP.Core.b64 4607182418800017408 = uO FP.Core.b64 := by decide +kernel
  have h3 : (FP.ddiv d (FP.i2d (nI n))).toNat ≤ 4607182418800017408 := by
    refine (FP.Core.unitsOf_le_iff (f := FP.Core.b64)).mp ?_
    rw [(bt64 z2).2, e]
    exact z1
  exact ⟨nd_sd z2, _, bd_all _ (Nat.lt_of_le_of_lt h3 (by decide)) M, db_all _ (bt64 z2).1 M'⟩
/-- the load's sum -/
def ldF (c p : Nat → Nat) : Nat → UInt32
  | 0 => FP.fconst0
  | n + 1 => FP.fadd (ldF c p n) (FP.fdiv (FP.i2f (nI (c n))) (FP.i2f (nI (p n))))
theorem fx_ldq {c p : Nat} (h : c ≤ 54 ∧ 4 ≤ p ∧ p ≤ 60) : ∃ z, z ≤ 54 * uO FP.Core.b32 ∧ SD FP.Core.b32 (FP.Core.val32 (FP.fdiv (FP.i2f (nI c)) (FP.i2f (nI p)))) z := by
  obtain ⟨h1, h2, h3⟩ := h
  have u3 := u32p
  obtain ⟨z, z1, z2, -⟩ := div32 (i2f_sd c (by omega)) (i2f_sd p (by omega)) (i2f_sd 54 (by omega)) (Nat.mul_pos (by omega) u3) (Nat.mul_le_mul (Nat.mul_le_mul_right _ h1) (Nat.le_mul_of_pos_left _ (by omega)))
  exact ⟨z, z1, z2⟩
theorem fx_lds (c p : Nat → Nat) : ∀ n, n ≤ 5 → (∀ i, i < n → c i ≤ 54 ∧ 4 ≤ p i ∧ p i ≤ 60) → ∃ z, z ≤ (54 * n) * uO FP.Core.b32 ∧ SD FP.Core.b32 (FP.Core.val32 (ldF c p n)) z := by
  intro n
  induction n with
  | zero => intro _ _; exact ⟨0, Nat.zero_le _, k32_0⟩
  | succ n ih =>
    intro hn h
    obtain ⟨z, z1, z2⟩ := ih (by omega) (fun i hi => h i (by omega))
    obtain ⟨w, w1, w2⟩ := fx_ldq (h n (by omega))
    obtain ⟨v, v1, v2⟩ := add32 z2 w2 (i2f_sd (54 * (n + 1)) (by omega)) (by
      rw [Nat.mul_add, Nat.mul_one, Nat.add_mul]
      omega)
    exact ⟨v, v1, v2⟩
theorem fx_ld (c p : Nat → Nat) (n : Nat) (hn : n < 5) (h : ∀ i, i ≤ n → c i ≤ 54 ∧ 4 ≤ p i ∧ p i ≤ 60) : nf (FP.fdiv (FP.i2f (nI (c n))) (FP.i2f (nI (p n)))) = true ∧ nf (ldF c p (n + 1)) = true := by
  obtain ⟨w, w1, w2⟩ := fx_ldq (h n (Nat.le_refl n))
  obtain ⟨z, z1, z2⟩ := fx_lds c p (n + 1) hn (fun i hi => h i (by omega))
  exact ⟨nf_sd w2, nf_sd z2⟩
theorem fx_ldbits (c p : Nat → Nat) (n : Nat) (hn : n ≤ 5) (h : ∀ i, i < n → c i ≤ 54 ∧ 4 ≤ p i ∧ p i ≤ 60) (M M' : Mw) : ∃ r, F_X9_bitsOfFloat (ldF c p n) M = some r ∧ F_Jxf58ca_floatToIntBits_5c35a (ldF c p n) M' = some r := by
  obtain ⟨z, z1, z2⟩ := fx_lds c p n hn h
  have h2 := (bt32 z2).1
  exact ⟨_, bf_all _ h2 M, fb_all _ h2 M'⟩
