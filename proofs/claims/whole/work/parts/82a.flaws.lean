/-! FLOATS: what the four operations answer, in units of a format's least number -/
abbrev Fmw : Type := FP.Core.Fmt
abbrev Dtw : Type := FP.Core.Datum
def uO (f : Fmw) : Nat := 2 ^ (-f.qmin).toNat
/-- a finite number with the sign +, in units -/
def SD (f : Fmw) (d : Dtw) (z : Nat) : Prop := FP.Core.fits f d ∧ ∃ c q, d = .fin false c q ∧ FP.Core.inUnits c q f.qmin = z
theorem SD.zm {f : Fmw} {d : Dtw} {z : Nat} (h : SD f d z) : FP.Core.zmag f d = z := by
  obtain ⟨-, c, q, e, h⟩ := h
  rw [e]
  exact h
theorem SD.zv {f : Fmw} {d : Dtw} {z : Nat} (h : SD f d z) : FP.Core.zval f d = (z : Int) := by
  obtain ⟨-, c, q, e, h⟩ := h
  rw [e, ← h]
  rfl
theorem SD.nn {f : Fmw} {d : Dtw} {z : Nat} (h : SD f d z) : d ≠ .nan := by
  obtain ⟨-, c, q, e, h⟩ := h
  rw [e]
  intro q
  cases q
theorem SD.sg {f : Fmw} {d : Dtw} {z : Nat} (h : SD f d z) : FP.Core.sgn d = false := by
  obtain ⟨-, c, q, e, h⟩ := h
  rw [e]
  rfl
theorem SD.can {f : Fmw} {d : Dtw} {z : Nat} (h : SD f d z) : ∃ c k : Nat, c < 2 ^ f.p ∧ z = c * 2 ^ k ∧ (k = 0 ∨ f.tails ≤ c) := by
  obtain ⟨hf, c, q, e, h⟩ := h
  rw [e] at hf
  obtain ⟨h1, h2, h3, h4⟩ := hf
  refine ⟨c, (q - f.qmin).toNat, h1, h.symm, ?_⟩
  rcases h4 with h4 | h4
  · left; omega
  · exact Or.inr h4
theorem sd_of {f : Fmw} (hf : FP.Core.Good f) {A B : Nat} {e : Int} {V : Dtw} {v : Nat} (hB : 0 < B) (hV : SD f V v) (h : FP.Core.zmag f (FP.Core.roundRatio f false A B e) ≤ v) : SD f (FP.Core.roundRatio f false A B e) (FP.Core.zmag f (FP.Core.roundRatio f false A B e)) := by
  have hfit := FP.Core.roundRatio_fits hf false A hB e
  rcases FP.Core.roundRatio_cases f false A B e with ⟨c, q, hc⟩ | hc
  · rw [hc] at hfit ⊢
    exact ⟨hfit, c, q, rfl, rfl⟩
  · exfalso
    obtain ⟨f1, c, q, e1, e2⟩ := hV
    rw [e1] at f1
    have h2 := FP.Core.zmag_lt_top hf f1
    rw [hc] at h
    rw [e2] at h2
    exact absurd (Nat.lt_of_le_of_lt h h2) (Nat.lt_irrefl _)
theorem sd_rr {f : Fmw} (hf : FP.Core.Good f) {A B : Nat} {e e0 : Int} {V : Dtw} {v u w : Nat} (hB : 0 < B) (h0 : e0 ≤ f.qmin) (h0e : e0 ≤ e) (hV : SD f V v) (hu : FP.Core.inUnits A e e0 = u) (hw : 2 ^ (f.qmin - e0).toNat * B = w) (h : u ≤ v * w) :
    ∃ z, z ≤ v ∧ SD f (FP.Core.roundRatio f false A B e) z ∧ (v * w ≤ u → z = v) := by
  have hle := FP.Core.zmag_roundRatio_le hf (s := false) (A := A) (B := B) (e := e) (e0 := e0) (V := V) hB hV.1 hV.nn h0 h0e (by
    rw [hV.zm, hu, Nat.mul_assoc, hw]
    exact h)
  rw [hV.zm] at hle
  refine ⟨_, hle, sd_of hf hB hV hle, fun h2 => ?_⟩
  have hge := FP.Core.zmag_roundRatio_ge hf (s := false) (A := A) (B := B) (e := e) (e0 := e0) (V := V) hB hV.1 h0 h0e (by
    rw [hV.zm, hu, Nat.mul_assoc, hw]
    exact h2)
  rw [hV.zm] at hge
  exact Nat.le_antisymm hle hge
theorem sd_mul {f : Fmw} (hf : FP.Core.Good f) {x y V : Dtw} {a b v : Nat} (hx : SD f x a) (hy : SD f y b) (hV : SD f V v) (h : a * b ≤ v * uO f) :
    ∃ z, z ≤ v ∧ SD f (FP.Core.round f (FP.Core.exactProduct x y)) z ∧ (v * uO f ≤ a * b → z = v) := by
  obtain ⟨fx, c, q, ex, e1⟩ := hx
  obtain ⟨fy, d, r, ey, e2⟩ := hy
  rw [ex] at fx ⊢
  rw [ey] at fy ⊢
  obtain ⟨p1, p2, p3⟩ := FP.Core.product_units fx fy
  have p4 : FP.Core.inUnits (c * d) (q + r) (2 * f.qmin) = a * b := by
    rw [p3, ← e1, ← e2]
    rfl
  rw [p1]
  have hn := FP.Core.qmin_neg hf
  exact sd_rr hf (A := c * d) (B := 1) (e := q + r) (e0 := 2 * f.qmin) (by decide) (by omega) p2 hV p4 (by
    rw [Nat.mul_one]
    unfold uO
    rw [show f.qmin - 2 * f.qmin = -f.qmin by omega]) h
theorem sd_div {f : Fmw} (hf : FP.Core.Good f) {x y V : Dtw} {a b v : Nat} (hx : SD f x a) (hy : SD f y b) (hV : SD f V v) (hb : 0 < b) (h : a * uO f ≤ v * b) :
    ∃ z, z ≤ v ∧ SD f (FP.Core.quotient f x y) z ∧ (v * b ≤ a * uO f → z = v) := by
  obtain ⟨fx, c, q, ex, e1⟩ := hx
  obtain ⟨fy, d, r, ey, e2⟩ := hy
  rw [ex] at fx ⊢
  rw [ey] at fy ⊢
  have hd : d ≠ 0 := by
    intro q
    rw [q] at e2
    unfold FP.Core.inUnits at e2
    rw [Nat.zero_mul] at e2
    omega
  have hq : FP.Core.quotient f (.fin false c q) (.fin false d r) = FP.Core.roundRatio f false c d (q - r) := by
    show (if d = 0 then _ else FP.Core.roundRatio f (false != false) c d (q - r)) = _
    rw [if_neg hd]
    rfl
  rw [hq]
  have hn := FP.Core.qmin_neg hf
  obtain ⟨x1, x2, x3, x4⟩ := fx
  obtain ⟨y1, y2, y3, y4⟩ := fy
  refine sd_rr hf (A := c) (B := d) (e := q - r) (e0 := 2 * f.qmin - r) (by omega) (by omega) (by omega) hV ?_ ?_ h
  · rw [← e1]
    unfold FP.Core.inUnits uO
    rw [show (q - r - (2 * f.qmin - r)).toNat = (q - f.qmin).toNat + (-f.qmin).toNat by omega, Nat.pow_add, Nat.mul_assoc]
  · rw [← e2]
    unfold FP.Core.inUnits
    rw [show f.qmin - (2 * f.qmin - r) = r - f.qmin by omega, Nat.mul_comm]
theorem sd_rnd {f : Fmw} (hf : FP.Core.Good f) {n : Nat} {e : Int} {V : Dtw} {u v : Nat} (he : f.qmin ≤ e) (hu : FP.Core.inUnits n e f.qmin = u) (hV : SD f V v) (h : u ≤ v) :
    ∃ z, z ≤ v ∧ SD f (FP.Core.round f (.fin false n e)) z ∧ (v ≤ u → z = v) := by
  obtain ⟨z, z1, z2, z3⟩ := sd_rr hf (A := n) (B := 1) (e := e) (e0 := f.qmin) (w := 1) (by decide) (Int.le_refl _) he hV hu (by
    rw [Int.sub_self]
    rfl) (by
    rw [Nat.mul_one]
    exact h)
  exact ⟨z, z1, z2, fun q => z3 (by
    rw [Nat.mul_one]
    exact q)⟩
theorem sd_sum {f : Fmw} (hf : FP.Core.Good f) {s : Bool} {c d : Nat} {q r : Int} {V : Dtw} {u v : Nat} (hx : FP.Core.fits f (.fin false c q)) (hy : FP.Core.fits f (.fin s d r)) (hu : FP.Core.zval f (.fin false c q) + FP.Core.zval f (.fin s d r) = (u : Int)) (hV : SD f V v) (h : u ≤ v) :
    ∃ z, z ≤ v ∧ SD f (FP.Core.round f (FP.Core.exactSum (.fin false c q) (.fin s d r))) z ∧ (v ≤ u → z = v) := by
  obtain ⟨sg, n, e, h1, h2, h3⟩ := FP.Core.sum_units hx hy
  rw [hu] at h3
  have hs : sg = FP.Core.sumSign false s (FP.Core.sumUnits false c q s d r (min q r)) ∧ (FP.Core.sumUnits false c q s d r (min q r)).natAbs = n := by
    have h4 : FP.Core.Datum.fin (FP.Core.sumSign false s (FP.Core.sumUnits false c q s d r (min q r))) (FP.Core.sumUnits false c q s d r (min q r)).natAbs (min q r) = .fin sg n e := h1
    injection h4 with a1 a2 a3
    exact ⟨a1.symm, a2⟩
  have hsg : sg = false := by
    cases sg with
    | false => rfl
    | true =>
      exfalso
      have h5 : -((FP.Core.inUnits n e f.qmin : Nat) : Int) = (u : Int) := h3
      have h6 : FP.Core.inUnits n e f.qmin = 0 := by omega
      have hn : n = 0 := by
        unfold FP.Core.inUnits at h6
        rcases Nat.mul_eq_zero.mp h6 with h7 | h7
        · exact h7
        · exact absurd h7 (Nat.pos_iff_ne_zero.mp (Nat.two_pow_pos _))
      rw [hn] at hs
      have h8 : FP.Core.sumUnits false c q s d r (min q r) = 0 := Int.natAbs_eq_zero.mp hs.2
      rw [h8] at hs
      have h9 := hs.1
      unfold FP.Core.sumSign at h9
      rw [if_pos rfl] at h9
      cases h9
  rw [h1, hsg]
  rw [hsg] at h3
  have h10 : ((FP.Core.inUnits n e f.qmin : Nat) : Int) = (u : Int) := h3
  exact sd_rnd hf h2 (by omega) hV h
theorem sd_add {f : Fmw} (hf : FP.Core.Good f) {x y V : Dtw} {a b v : Nat} (hx : SD f x a) (hy : SD f y b) (hV : SD f V v) (h : a + b ≤ v) :
    ∃ z, z ≤ v ∧ SD f (FP.Core.round f (FP.Core.exactSum x y)) z := by
  have zx := hx.zv
  have zy := hy.zv
  obtain ⟨fx, c, q, ex, e1⟩ := hx
  obtain ⟨fy, d, r, ey, e2⟩ := hy
  rw [ex] at fx zx ⊢
  rw [ey] at fy zy ⊢
  obtain ⟨z, z1, z2, z3⟩ := sd_sum hf (u := a + b) fx fy (by rw [zx, zy]; omega) hV h
  exact ⟨z, z1, z2⟩
theorem sd_sub {f : Fmw} (hf : FP.Core.Good f) {x y V : Dtw} {a b v : Nat} (hx : SD f x a) (hy : SD f y b) (hV : SD f V v) (hab : b ≤ a) (h : a - b ≤ v) :
    ∃ z, z ≤ v ∧ SD f (FP.Core.round f (FP.Core.exactSum x (FP.Core.negate y))) z ∧ (v ≤ a - b → z = v) := by
  have zx := hx.zv
  have zy : FP.Core.zval f (FP.Core.negate y) = -(b : Int) := by rw [FP.Core.zval_negate, hy.zv]
  obtain ⟨fx, c, q, ex, e1⟩ := hx
  obtain ⟨fy, d, r, ey, e2⟩ := hy
  have fy' := FP.Core.negate_fits fy
  rw [ex] at fx zx ⊢
  rw [ey] at fy' zy ⊢
  exact sd_sum hf (s := true) (c := c) (d := d) (q := q) (r := r) (u := a - b) fx fy' (by
    have zy' : FP.Core.zval f (.fin true d r) = -(b : Int) := zy
    rw [zx, zy']
    omega) hV h
/-- a number of few digits is one of the format's -/
theorem sd_ex {f : Fmw} (hf : FP.Core.Good f) {t j : Nat} (ht : t < 2 ^ f.p) (hj : (j : Int) ≤ f.qmax - f.qmin) : ∃ V, SD f V (t * 2 ^ j) := by
  obtain ⟨c', q', h1, h2⟩ := FP.Core.round_exact hf false ht (show f.qmin ≤ f.qmin + (j : Int) by omega) (show f.qmin + (j : Int) ≤ f.qmax by omega)
  refine ⟨.fin false c' q', ?_, c', q', rfl, ?_⟩
  · rw [← h1]
    exact FP.Core.round_fits hf _
  · rw [h2]
    unfold FP.Core.inUnits
    rw [show (f.qmin + (j : Int) - f.qmin).toNat = j by omega]
/-- exponents and digits are unique -/
theorem cr_exp {T u v x y : Nat} (hu : T ≤ u) (hu2 : u < 2 * T) (hv : T ≤ v) (hv2 : v < 2 * T) (h : u * 2 ^ x = v * 2 ^ y) : x = y ∧ u = v := by
  have key : ∀ u v x d : Nat, T ≤ u → u < 2 * T → T ≤ v → v < 2 * T → u * 2 ^ x = v * 2 ^ (x + d) → d = 0 ∧ u = v := by
    intro u v x d hu hu2 hv hv2 h
    rw [Nat.pow_add, Nat.mul_comm (2 ^ x), ← Nat.mul_assoc] at h
    have h2 := Nat.eq_of_mul_eq_mul_right (Nat.two_pow_pos x) h
    cases d with
    | zero =>
      rw [Nat.pow_zero, Nat.mul_one] at h2
      exact ⟨rfl, h2⟩
    | succ d =>
      exfalso
      have h3 : v * 2 ≤ v * 2 ^ (d + 1) := Nat.mul_le_mul_left v (by
        rw [Nat.pow_succ]
        have := Nat.two_pow_pos d
        omega)
      omega
  by_cases c : x ≤ y
  · have e : y = x + (y - x) := by omega
    rw [e] at h
    obtain ⟨h1, h2⟩ := key u v x (y - x) hu hu2 hv hv2 h
    exact ⟨by omega, h2⟩
  · have e : x = y + (x - y) := by omega
    rw [e] at h
    obtain ⟨h1, h2⟩ := key v u y (x - y) hv hv2 hu hu2 h.symm
    exact ⟨by omega, h2.symm⟩
theorem cr_norm {f : Fmw} {N n t a b : Nat} (ht : t < f.tails) (hb : b ≤ N + a) (h : (f.tails + t) * 2 ^ N * 2 ^ a = FP.Core.unitsOf f n * 2 ^ b) : n = (N + 1 + a - b) * f.tails + t := by
  have hT := FP.Core.tails_pos f
  unfold FP.Core.unitsOf at h
  rw [Nat.mul_assoc, ← Nat.pow_add] at h
  by_cases c : n < f.tails
  · exfalso
    rw [if_pos c, show N + a = (N + a - b) + b by omega, Nat.pow_add, ← Nat.mul_assoc] at h
    have h2 := Nat.eq_of_mul_eq_mul_right (Nat.two_pow_pos b) h
    have h3 : (f.tails + t) * 1 ≤ (f.tails + t) * 2 ^ (N + a - b) := Nat.mul_le_mul_left _ (Nat.two_pow_pos _)
    omega
  · rw [if_neg c, Nat.mul_assoc, ← Nat.pow_add] at h
    have hm := Nat.mod_lt n hT
    obtain ⟨h1, h2⟩ := cr_exp (T := f.tails) (by omega) (by omega) (by omega) (by omega) h
    have h3 := Nat.div_add_mod n f.tails
    have h4 : 1 ≤ n / f.tails := (Nat.le_div_iff_mul_le hT).mpr (by omega)
    have h5 : N + 1 + a - b = n / f.tails := by omega
    have h6 : n % f.tails = t := by omega
    rw [h5, Nat.mul_comm, ← h6]
    exact h3.symm
theorem cr_sub {f : Fmw} {n N : Nat} (h : FP.Core.unitsOf f n * 2 ^ N < f.tails * 2 ^ N) : FP.Core.unitsOf f n = n := by
  have h2 := Nat.lt_of_mul_lt_mul_right h
  unfold FP.Core.unitsOf at h2 ⊢
  by_cases c : n < f.tails
  · rw [if_pos c]
  · exfalso
    rw [if_neg c] at h2
    have h3 : (f.tails + n % f.tails) * 1 ≤ (f.tails + n % f.tails) * 2 ^ (n / f.tails - 1) := Nat.mul_le_mul_left _ (Nat.two_pow_pos _)
    omega
/-- the steps of the two loops, in units; the one is tails * 2 ^ N -/
theorem sd_band {f : Fmw} (hf : FP.Core.Good f) {d : Dtw} {z N : Nat} (h : SD f d z) (h1 : f.tails * 2 ^ N ≤ z) (h2 : z < 2 * (f.tails * 2 ^ N)) : ∃ t, t < f.tails ∧ z = (f.tails + t) * 2 ^ N := by
  obtain ⟨c, k, c1, c2, c3⟩ := h.can
  have hp := FP.Core.two_tails hf
  have hT := FP.Core.tails_pos f
  have hk : N ≤ k := by
    apply Nat.le_of_not_lt
    intro q
    have h3 : c * 2 ^ k < 2 * f.tails * 2 ^ k := Nat.mul_lt_mul_of_pos_right (by omega) (Nat.two_pow_pos k)
    have h4 : f.tails * 2 ^ (k + 1) ≤ f.tails * 2 ^ N := Nat.mul_le_mul_left _ (Nat.pow_le_pow_right (by decide) q)
    rw [Nat.pow_succ, Nat.mul_comm (2 ^ k), ← Nat.mul_assoc, Nat.mul_comm f.tails 2] at h4
    omega
  have e : c * 2 ^ k = c * 2 ^ (k - N) * 2 ^ N := by
    rw [Nat.mul_assoc, ← Nat.pow_add, show k - N + N = k by omega]
  rw [e] at c2
  rw [c2] at h1 h2
  rw [← Nat.mul_assoc] at h2
  have h5 := Nat.le_of_mul_le_mul_right h1 (Nat.two_pow_pos N)
  have h6 := Nat.lt_of_mul_lt_mul_right h2
  exact ⟨c * 2 ^ (k - N) - f.tails, by omega, by rw [c2, show f.tails + (c * 2 ^ (k - N) - f.tails) = c * 2 ^ (k - N) by omega]⟩
theorem sd_dbl {f : Fmw} (hf : FP.Core.Good f) {d : Dtw} {z N : Nat} (h : SD f d z) (hN : ((N + 1 : Nat) : Int) ≤ f.qmax - f.qmin) (h1 : z < f.tails * 2 ^ N) : ∃ V, SD f V (2 * z) := by
  obtain ⟨c, k, c1, c2, c3⟩ := h.can
  have hT := FP.Core.tails_pos f
  have hk : k ≤ N := by
    rcases c3 with c3 | c3
    · omega
    · apply Nat.le_of_not_lt
      intro q
      have h4 : f.tails * 2 ^ N ≤ f.tails * 2 ^ k := Nat.mul_le_mul_left _ (Nat.pow_le_pow_right (by decide) (by omega))
      have h5 : f.tails * 2 ^ k ≤ c * 2 ^ k := Nat.mul_le_mul_right _ c3
      omega
  obtain ⟨V, hV⟩ := sd_ex hf (t := c) (j := k + 1) c1 (by omega)
  refine ⟨V, ?_⟩
  rw [c2, show 2 * (c * 2 ^ k) = c * 2 ^ (k + 1) by rw [Nat.pow_succ, Nat.mul_comm 2, Nat.mul_assoc]]
  exact hV
theorem sd_hlv {f : Fmw} (hf : FP.Core.Good f) {d : Dtw} {z N : Nat} (h : SD f d z) (h1 : 2 * (f.tails * 2 ^ N) ≤ z) : ∃ z' V, z = 2 * z' ∧ SD f V z' := by
  have hp := FP.Core.two_tails hf
  obtain ⟨hfit, c, q, e, hz⟩ := h
  rw [e] at hfit
  obtain ⟨f1, f2, f3, f4⟩ := hfit
  have hk : 1 ≤ (q - f.qmin).toNat := by
    apply Nat.le_of_not_lt
    intro q0
    have e0 : (q - f.qmin).toNat = 0 := by omega
    unfold FP.Core.inUnits at hz
    rw [e0, Nat.pow_zero, Nat.mul_one] at hz
    have h4 : f.tails * 1 ≤ f.tails * 2 ^ N := Nat.mul_le_mul_left _ (Nat.two_pow_pos N)
    omega
  obtain ⟨k, ek⟩ : ∃ k, (q - f.qmin).toNat = k + 1 := ⟨(q - f.qmin).toNat - 1, by omega⟩
  obtain ⟨V, hV⟩ := sd_ex hf (t := c) (j := k) f1 (by omega)
  refine ⟨_, V, ?_, hV⟩
  rw [← hz]
  unfold FP.Core.inUnits
  rw [ek, Nat.pow_succ, ← Nat.mul_assoc, Nat.mul_comm]
