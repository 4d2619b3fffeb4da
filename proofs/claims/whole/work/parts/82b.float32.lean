/-! FLOATS, 32 bits -/
theorem sd32 (a : UInt32) (h : a.toNat < 2139095040) : SD FP.Core.b32 (FP.Core.val32 a) (FP.Core.unitsOf FP.Core.b32 a.toNat) := by
  have hm : a.toNat % 2 ^ 31 = a.toNat := Nat.mod_eq_of_lt (Nat.lt_of_lt_of_le h (by decide))
  obtain ⟨s, c, q, hs⟩ := (FP.Core.fin_bits32 a).mpr (by rw [hm]; exact h)
  have hn : FP.Core.val32 a ≠ .nan := by
    rw [hs]
    intro q
    cases q
  have hsg := FP.Core.sgn_bits32 hn
  have hz := FP.Core.zmag_toNat32 hn
  have hfit := FP.Core.val32_fits a
  rw [hm] at hz
  rw [decide_eq_false (Nat.not_le.mpr (Nat.lt_of_lt_of_le h (show 2139095040 ≤ 2 ^ 31 by decide)))] at hsg
  rw [hs] at hsg hz hfit ⊢
  have e : s = false := hsg
  rw [e] at hz hfit ⊢
  exact ⟨hfit, c, q, rfl, hz⟩
theorem bt32 {a : UInt32} {z : Nat} (h : SD FP.Core.b32 (FP.Core.val32 a) z) : a.toNat < 2139095040 ∧ FP.Core.unitsOf FP.Core.b32 a.toNat = z := by
  have hn := h.nn
  have hsg := FP.Core.sgn_bits32 hn
  rw [h.sg] at hsg
  have h1 : ¬ 2 ^ 31 ≤ a.toNat := of_decide_eq_false hsg.symm
  have hm : a.toNat % 2 ^ 31 = a.toNat := Nat.mod_eq_of_lt (Nat.lt_of_not_le h1)
  have hz := FP.Core.zmag_toNat32 hn
  rw [hm, h.zm] at hz
  have hf := (FP.Core.fin_bits32 a).mp (by
    obtain ⟨-, c, q, e, -⟩ := h
    exact ⟨false, c, q, e⟩)
  rw [hm] at hf
  exact ⟨hf, hz.symm⟩
theorem nf_nn {a : UInt32} (h : FP.Core.val32 a ≠ .nan) : nf a = true := by
  have h2 := (FP.Core.ne_nan32 a).mp h
  rw [← FP.Core.mask_toNat32] at h2
  unfold nf
  exact decide_eq_true (UInt32.le_iff_toNat_le.mpr h2)
theorem nf_sd {a : UInt32} {z : Nat} (h : SD FP.Core.b32 (FP.Core.val32 a) z) : nf a = true := nf_nn h.nn
theorem u32 : uO FP.Core.b32 = FP.Core.b32.tails * 2 ^ 126 := by decide +kernel
theorem p149 : 2 ^ 149 = uO FP.Core.b32 := by decide +kernel
theorem u32p : 0 < uO FP.Core.b32 := Nat.two_pow_pos _
theorem k32c (a : UInt32) (v : Nat) (h : a.toNat < 2139095040) (e : FP.Core.unitsOf FP.Core.b32 a.toNat = v) : SD FP.Core.b32 (FP.Core.val32 a) v := by
  rw [← e]
  exact sd32 a h
theorem k32_0 : SD FP.Core.b32 (FP.Core.val32 FP.fconst0) 0 := k32c _ _ (by decide +kernel) (by decide +kernel)
theorem k32_1 : SD FP.Core.b32 (FP.Core.val32 FP.fconst1) (uO FP.Core.b32) := k32c _ _ (by decide +kernel) (by decide +kernel)
theorem k32_2 : SD FP.Core.b32 (FP.Core.val32 FP.fconst2) (2 * uO FP.Core.b32) := k32c _ _ (by decide +kernel) (by decide +kernel)
theorem k32_m : SD FP.Core.b32 (FP.Core.val32 1258291200) (FP.Core.b32.tails * uO FP.Core.b32) := k32c _ _ (by decide +kernel) (by decide +kernel)
theorem k32_q : SD FP.Core.b32 (FP.Core.val32 1048576000) (2 ^ 147) := k32c _ _ (by decide +kernel) (by decide +kernel)
theorem k32_10 : SD FP.Core.b32 (FP.Core.val32 1092616192) (10 * uO FP.Core.b32) := k32c _ _ (by decide +kernel) (by decide +kernel)
theorem mul32 {x y : UInt32} {V : Dtw} {a b v : Nat} (hx : SD FP.Core.b32 (FP.Core.val32 x) a) (hy : SD FP.Core.b32 (FP.Core.val32 y) b) (hV : SD FP.Core.b32 V v) (h : a * b ≤ v * uO FP.Core.b32) :
    ∃ z, z ≤ v ∧ SD FP.Core.b32 (FP.Core.val32 (FP.fmul x y)) z ∧ (v * uO FP.Core.b32 ≤ a * b → z = v) := by
  have := sd_mul FP.Core.good_b32 hx hy hV h
  rw [← FP.Core.val32_fmul] at this
  exact this
theorem div32 {x y : UInt32} {V : Dtw} {a b v : Nat} (hx : SD FP.Core.b32 (FP.Core.val32 x) a) (hy : SD FP.Core.b32 (FP.Core.val32 y) b) (hV : SD FP.Core.b32 V v) (hb : 0 < b) (h : a * uO FP.Core.b32 ≤ v * b) :
    ∃ z, z ≤ v ∧ SD FP.Core.b32 (FP.Core.val32 (FP.fdiv x y)) z ∧ (v * b ≤ a * uO FP.Core.b32 → z = v) := by
  have := sd_div FP.Core.good_b32 hx hy hV hb h
  rw [← FP.Core.val32_fdiv] at this
  exact this
theorem add32 {x y : UInt32} {V : Dtw} {a b v : Nat} (hx : SD FP.Core.b32 (FP.Core.val32 x) a) (hy : SD FP.Core.b32 (FP.Core.val32 y) b) (hV : SD FP.Core.b32 V v) (h : a + b ≤ v) :
    ∃ z, z ≤ v ∧ SD FP.Core.b32 (FP.Core.val32 (FP.fadd x y)) z := by
  have := sd_add FP.Core.good_b32 hx hy hV h
  rw [← FP.Core.val32_fadd] at this
  exact this
theorem sub32 {x y : UInt32} {V : Dtw} {a b v : Nat} (hx : SD FP.Core.b32 (FP.Core.val32 x) a) (hy : SD FP.Core.b32 (FP.Core.val32 y) b) (hV : SD FP.Core.b32 V v) (hab : b ≤ a) (h : a - b ≤ v) :
    ∃ z, z ≤ v ∧ SD FP.Core.b32 (FP.Core.val32 (FP.fsub x y)) z ∧ (v ≤ a - b → z = v) := by
  have := sd_sub FP.Core.good_b32 hx hy hV hab h
  rw [← FP.Core.val32_fsub] at this
  exact this
theorem cmp32 {x y : UInt32} {a b : Nat} (hx : SD FP.Core.b32 (FP.Core.val32 x) a) (hy : SD FP.Core.b32 (FP.Core.val32 y) b) : FP.fcmp x y = some (compare (a : Int) (b : Int)) := by
  show FP.Core.fcmp x y = _
  rw [FP.Core.fcmp_zval hx.nn hy.nn, hx.zv, hy.zv]
theorem cvg_ge (u v : Nat) : (0 ≤ Op.cmpValue (some (compare (u : Int) (v : Int))) .g) ↔ v ≤ u := by
  rcases Int.lt_trichotomy (u : Int) v with h | h | h
  · rw [(FP.Core.compare_lt_iff _ _).mpr h]
    exact ⟨fun q => absurd q (by decide), fun q => by omega⟩
  · rw [(FP.Core.compare_eq_iff _ _).mpr h]
    exact ⟨fun _ => by omega, fun _ => by decide⟩
  · rw [(FP.Core.compare_gt_iff _ _).mpr h]
    exact ⟨fun _ => by omega, fun _ => by decide⟩
theorem cvl_lt (u v : Nat) : (Op.cmpValue (some (compare (u : Int) (v : Int))) .l < 0) ↔ u < v := by
  rcases Int.lt_trichotomy (u : Int) v with h | h | h
  · rw [(FP.Core.compare_lt_iff _ _).mpr h]
    exact ⟨fun _ => by omega, fun _ => by decide⟩
  · rw [(FP.Core.compare_eq_iff _ _).mpr h]
    exact ⟨fun q => absurd q (by decide), fun q => by omega⟩
  · rw [(FP.Core.compare_gt_iff _ _).mpr h]
    exact ⟨fun q => absurd q (by decide), fun q => by omega⟩
theorem cvl_gt (u v : Nat) : (0 < Op.cmpValue (some (compare (u : Int) (v : Int))) .l) ↔ v < u := by
  rcases Int.lt_trichotomy (u : Int) v with h | h | h
  · rw [(FP.Core.compare_lt_iff _ _).mpr h]
    exact ⟨fun q => absurd q (by decide), fun q => by omega⟩
  · rw [(FP.Core.compare_eq_iff _ _).mpr h]
    exact ⟨fun q => absurd q (by decide), fun q => by omega⟩
  · rw [(FP.Core.compare_gt_iff _ _).mpr h]
    exact ⟨fun _ => by omega, fun _ => by decide⟩
theorem cvl_self (u : Int) : Op.cmpValue (some (compare u u)) .l = 0 := by
  rw [(FP.Core.compare_eq_iff _ _).mpr rfl]
  rfl
theorem cast32 {x : UInt32} {t : Nat} (h : SD FP.Core.b32 (FP.Core.val32 x) (t * uO FP.Core.b32)) (ht : t < 2 ^ 31) : FP.f2i x = nI t := by
  apply Int32.toInt.inj
  have h2 := FP.Core.f2i_val h.nn
  rw [h.sg, h.zm, show uO FP.Core.b32 = FP.Core.one32 from rfl, Nat.mul_div_cancel _ FP.Core.one32_pos] at h2
  have h3 : FP.Core.signed false t = (t : Int) := rfl
  rw [h3] at h2
  rw [nI_toInt ht]
  show (FP.Core.f2i x).toInt = _
  rw [h2]
  omega
/-- a loop of three numbers with a counter -/
theorem it_c3 {α γ β : Type} {z : α → γ → Int32 → Option β} {B : (α → γ → Int32 → Option β) → α → γ → Int32 → Option β} {n : Nat} {P : Nat → α → γ → Prop} {Q : Option β → Prop}
    (step : ∀ (k : α → γ → Int32 → Option β) (t : Nat) (a : α) (e : γ), t < n → P t a e → (∃ a' e', B k a e (nI t) = k a' e' (nI (t + 1)) ∧ P (t + 1) a' e') ∨ Q (B k a e (nI t)))
    (done : ∀ (k : α → γ → Int32 → Option β) (a : α) (e : γ), P n a e → Q (B k a e (nI n))) :
    ∀ (f t : Nat) (a : α) (e : γ), t ≤ n → n < t + f → P t a e → Q (it z B f a e (nI t)) := by
  intro f
  induction f with
  | zero => intro t a e h1 h2; omega
  | succ f ih =>
    intro t a e h1 h2 hP
    rw [it_succ]
    by_cases h : t < n
    · rcases step (it z B f) t a e h hP with ⟨a', e', q, hP'⟩ | hq
      · rw [q]
        exact ih (t + 1) a' e' h (by omega) hP'
      · exact hq
    · obtain rfl : t = n := by omega
      exact done _ a e hP
theorem shl23 : ∀ e, e < 256 → nI e <<< ((23 : Int32) &&& 31) = nI (e * 8388608) := by
  decide +kernel
theorem t32 : FP.Core.b32.tails = 8388608 := by decide
theorem bf_68 {x : UInt32} {n a b Z : Nat} (hn : n < 2139095040) (M : Mw) (hx : SD FP.Core.b32 (FP.Core.val32 x) Z) (hZ : Z < 2 * uO FP.Core.b32) (he : Z * 2 ^ a = FP.Core.unitsOf FP.Core.b32 n * 2 ^ b) (hb : b ≤ 126) (ha : a ≤ 128) (hc : uO FP.Core.b32 ≤ Z ∨ (a = 0 ∧ b = 126)) : B_X9_bitsOfFloat_68 x (nI (127 + a - b)) M = some (nI n) := by
  have hg := FP.Core.good_b32
  unfold B_X9_bitsOfFloat_68
  rw [cmp32 hx k32_1]
  by_cases c : uO FP.Core.b32 ≤ Z
  · rw [if_pos ((cvg_ge _ _).mpr c)]
    obtain ⟨t, t1, t2⟩ := sd_band hg (N := 126) hx (by rw [← u32]; exact c) (by rw [← u32]; exact hZ)
    have hn2 := cr_norm (f := FP.Core.b32) (N := 126) (n := n) (t := t) (a := a) (b := b) t1 (by omega) (by rw [← t2]; exact he)
    have t3 : Z - uO FP.Core.b32 = t * 2 ^ 126 := by
      rw [t2, u32, Nat.add_mul, Nat.add_sub_cancel_left]
    have hp : t < 2 ^ FP.Core.b32.p := Nat.lt_of_lt_of_le t1 (by decide)
    obtain ⟨V, hV⟩ := sd_ex hg (t := t) (j := 126) hp (by decide)
    obtain ⟨z, -, s1, s2⟩ := sub32 hx k32_1 hV c (by omega)
    rw [s2 (by omega)] at s1
    obtain ⟨W, hW⟩ := sd_ex hg (t := t) (j := 149) hp (by decide)
    rw [p149] at hW
    have e1 : t * 2 ^ 126 * (FP.Core.b32.tails * uO FP.Core.b32) = t * uO FP.Core.b32 * uO FP.Core.b32 := by
      rw [← Nat.mul_assoc, Nat.mul_assoc t, Nat.mul_comm (2 ^ 126), ← u32]
    obtain ⟨z2, -, m1, m2⟩ := mul32 s1 k32_m hW (by rw [e1]; exact Nat.le_refl _)
    rw [m2 (by rw [e1]; exact Nat.le_refl _)] at m1
    rw [if_pos (nf_sd s1), if_pos (nf_sd m1), cast32 m1 (Nat.lt_of_lt_of_le t1 (by decide))]
    rw [shl23 _ (by
      rw [t32] at hn2
      omega), nI_add, hn2, t32]
  · rw [if_neg (fun q => c ((cvg_ge _ _).mp q))]
    rcases hc with hc | ⟨ha0, hb0⟩
    · exact absurd hc c
    · rw [ha0, hb0, Nat.pow_zero, Nat.mul_one] at he
      have hU := cr_sub (f := FP.Core.b32) (n := n) (N := 126) (by rw [← he, ← u32]; omega)
      rw [hU] at he
      have hnt : n < FP.Core.b32.tails := by
        have : n * 2 ^ 126 < FP.Core.b32.tails * 2 ^ 126 := by rw [← he, ← u32]; omega
        exact Nat.lt_of_mul_lt_mul_right this
      obtain ⟨W, hW⟩ := sd_ex hg (t := n) (j := 149) (Nat.lt_of_lt_of_le hnt (by decide)) (by decide)
      rw [p149] at hW
      have e1 : Z * (FP.Core.b32.tails * uO FP.Core.b32) = n * uO FP.Core.b32 * uO FP.Core.b32 := by
        rw [he, ← Nat.mul_assoc, Nat.mul_assoc n, Nat.mul_comm (2 ^ 126), ← u32]
      obtain ⟨z2, -, m1, m2⟩ := mul32 hx k32_m hW (by rw [e1]; exact Nat.le_refl _)
      rw [m2 (by rw [e1]; exact Nat.le_refl _)] at m1
      rw [if_pos (nf_sd m1), cast32 m1 (Nat.lt_of_lt_of_le hnt (by decide))]
theorem bf_41 {x : UInt32} {n a Z : Nat} (hn : n < 2139095040) (M : Mw) (hx : SD FP.Core.b32 (FP.Core.val32 x) Z) (hZ : Z < 2 * uO FP.Core.b32) (he : Z * 2 ^ a = FP.Core.unitsOf FP.Core.b32 n) (ha : a ≤ 128) (hc : a = 0 ∨ uO FP.Core.b32 ≤ Z) : B_X9_bitsOfFloat_41 x (nI (127 + a)) M = some (nI n) := by
  have hg := FP.Core.good_b32
  have key := it_c3 (z := fun _ _ _ => none) (B := B_X9_bitsOfFloat_43 M) (n := 126)
    (P := fun t y e => ∃ Y, SD FP.Core.b32 (FP.Core.val32 y) Y ∧ Y < 2 * uO FP.Core.b32 ∧ Y * 2 ^ a = FP.Core.unitsOf FP.Core.b32 n * 2 ^ t ∧ e = nI (127 + a - t) ∧ (a = 0 ∨ uO FP.Core.b32 ≤ Y))
    (Q := fun o => o = some (nI n))
    (fun k t y e ht hP => by
      obtain ⟨Y, p1, p2, p3, p4, p5⟩ := hP
      unfold B_X9_bitsOfFloat_43
      rw [if_neg (show ¬ (126 : Int32) ≤ nI t from nI_ge (b := 126) ht (by omega)), cmp32 p1 k32_1]
      by_cases c : uO FP.Core.b32 ≤ Y
      · right
        rw [if_pos ((cvg_ge _ _).mpr c), p4]
        exact bf_68 hn M p1 p2 p3 (by omega) ha (Or.inl c)
      · left
        have ha0 : a = 0 := by
          rcases p5 with q | q
          · exact q
          · exact absurd q c
        rw [if_neg (fun q => c ((cvg_ge _ _).mp q))]
        obtain ⟨V, hV⟩ := sd_dbl hg (N := 126) p1 (by decide) (by rw [← u32]; omega)
        have e1 : Y * (2 * uO FP.Core.b32) = 2 * Y * uO FP.Core.b32 := by rw [← Nat.mul_assoc, Nat.mul_comm Y]
        obtain ⟨z, -, m1, m2⟩ := mul32 p1 k32_2 hV (by rw [e1]; exact Nat.le_refl _)
        rw [m2 (by rw [e1]; exact Nat.le_refl _)] at m1
        rw [if_pos (nf_sd m1), bd_eq, bd_eq, bd_eq, nI_1]
        refine ⟨_, _, rfl, 2 * Y, m1, by omega, ?_, ?_, Or.inl ha0⟩
        · rw [Nat.pow_succ, ← Nat.mul_assoc, ← p3, Nat.mul_assoc 2, Nat.mul_comm 2]
        · rw [p4, show 127 + a - t = 127 + a - (t + 1) + 1 by omega, pk_m1])
    (fun k y e hP => by
      obtain ⟨Y, p1, p2, p3, p4, p5⟩ := hP
      unfold B_X9_bitsOfFloat_43
      rw [if_pos (show (126 : Int32) ≤ nI 126 by decide), p4]
      refine bf_68 hn M p1 p2 p3 (Nat.le_refl _) ha ?_
      rcases p5 with q | q
      · exact Or.inr ⟨q, rfl⟩
      · exact Or.inl q)
    FU 0 x (nI (127 + a)) (Nat.zero_le _) (by unfold FU; omega) ⟨Z, hx, hZ, by rw [Nat.pow_zero, Nat.mul_one]; exact he, rfl, hc⟩
  rw [nI_0] at key
  unfold B_X9_bitsOfFloat_41
  exact key
theorem bf_all (x : UInt32) (hx : x.toNat < 2139095040) (M : Mw) : F_X9_bitsOfFloat x M = some (nI x.toNat) := by
  have hg := FP.Core.good_b32
  have hs := sd32 x hx
  have hU : FP.Core.unitsOf FP.Core.b32 x.toNat < 2 ^ 277 := by
    have h1 := FP.Core.unitsOf_lt (f := FP.Core.b32) hx
    rw [show (2139095040 : Nat) = FP.Core.infBits FP.Core.b32 by rw [FP.Core.infBits_b32], FP.Core.unitsOf_inf hg] at h1
    exact Nat.lt_of_lt_of_le h1 (by decide +kernel)
  unfold F_X9_bitsOfFloat
  rw [cmp32 hs k32_0]
  by_cases c : 0 < FP.Core.unitsOf FP.Core.b32 x.toNat
  · rw [if_pos ((cvl_gt _ _).mpr c), bd_eq]
    have key := it_c3 (z := fun _ _ _ => none) (B := B_X9_bitsOfFloat_15 M) (n := 128)
      (P := fun t y e => ∃ Y, SD FP.Core.b32 (FP.Core.val32 y) Y ∧ Y * 2 ^ t = FP.Core.unitsOf FP.Core.b32 x.toNat ∧ e = nI (127 + t) ∧ (t = 0 ∨ uO FP.Core.b32 ≤ Y))
      (Q := fun o => o = some (nI x.toNat))
      (fun k t y e ht hP => by
        obtain ⟨Y, p1, p2, p3, p4⟩ := hP
        unfold B_X9_bitsOfFloat_15
        rw [if_neg (show ¬ (128 : Int32) ≤ nI t from nI_ge (b := 128) ht (by omega)), cmp32 p1 k32_2]
        by_cases c2 : Y < 2 * uO FP.Core.b32
        · right
          rw [if_pos ((cvl_lt _ _).mpr c2), p3]
          exact bf_41 hx M p1 c2 p2 (by omega) p4
        · left
          rw [if_neg (fun q => c2 ((cvl_lt _ _).mp q))]
          obtain ⟨Y2, V, y1, hV⟩ := sd_hlv hg (N := 126) p1 (by rw [← u32]; omega)
          have e1 : Y * uO FP.Core.b32 = Y2 * (2 * uO FP.Core.b32) := by
            rw [y1, ← Nat.mul_assoc, Nat.mul_comm Y2]
          obtain ⟨z, -, m1, m2⟩ := div32 p1 k32_2 hV (by have := u32p; omega) (by rw [e1]; exact Nat.le_refl _)
          rw [m2 (by rw [e1]; exact Nat.le_refl _)] at m1
          rw [if_pos (nf_sd m1), bd_eq, bd_eq, bd_eq, nI_1, p3, nI_1]
          refine ⟨_, _, rfl, Y2, m1, ?_, by rw [Nat.add_assoc], Or.inr (by omega)⟩
          rw [Nat.pow_succ, Nat.mul_comm (2 ^ t), ← Nat.mul_assoc, Nat.mul_comm Y2, ← y1]
          exact p2)
      (fun k y e hP => by
        obtain ⟨Y, p1, p2, p3, p4⟩ := hP
        unfold B_X9_bitsOfFloat_15
        rw [if_pos (show (128 : Int32) ≤ nI 128 by decide), p3]
        refine bf_41 hx M p1 (Nat.lt_of_not_le (fun q => ?_)) p2 (Nat.le_refl _) p4
        have h2 : 2 * uO FP.Core.b32 * 2 ^ 128 ≤ Y * 2 ^ 128 := Nat.mul_le_mul_right _ q
        rw [p2] at h2
        exact absurd (Nat.lt_of_le_of_lt h2 hU) (by decide +kernel))
      FU 0 x 127 (Nat.zero_le _) (by unfold FU; omega) ⟨_, hs, by rw [Nat.pow_zero, Nat.mul_one], rfl, Or.inl rfl⟩
    rw [nI_0] at key
    exact key
  · rw [if_neg (fun q => c ((cvl_gt _ _).mp q))]
    have h0 := FP.Core.unitsOf_eq_zero.mp (Nat.le_zero.mp (Nat.le_of_not_lt c))
    rw [h0, nI_0]
theorem fb_all (x : UInt32) (hx : x.toNat < 2139095040) (M : Mw) : F_Jxf58ca_floatToIntBits_5c35a x M = some (nI x.toNat) := by
  have hs := sd32 x hx
  unfold F_Jxf58ca_floatToIntBits_5c35a F_Jxf58ca_isNaN_12338
  rw [cmp32 hs hs, cvl_self, if_pos rfl, Option.bind_some, if_pos rfl]
  refine congrArg some (Int32.toBitVec_inj.mp (BitVec.eq_of_toNat_eq ?_))
  show x.toBitVec.toNat = (BitVec.ofNat 32 x.toNat).toNat
  rw [BitVec.toNat_ofNat]
  exact (Nat.mod_eq_of_lt x.toBitVec.isLt).symm
