/-! THE LAW: demands and responses -/
/-- what one task ahead asks for, up to a time -/
def trm (β : Bw) (C1 : Nat → Nat) (b i : Nat) : Nat := (b + β 4 i 1 - 1) / β 4 i 1 * C1 i
def rspF (dem : Nat → Nat) : Nat → Nat → Nat
  | 0, _ => 0
  | d + 1, b => if dem b = b then b + 1 else rspF dem d (b + 1)
/-- the response (one more; 0: none) -/
def rspN (dem : Nat → Nat) (per : Nat) : Nat := rspF dem per 1
theorem rspF_skip {dem : Nat → Nat} {C : Nat} (h : ∀ b, C ≤ dem b) : ∀ e d b, b + e = C → rspF dem (d + e) b = rspF dem d C := by
  intro e
  induction e with
  | zero => intro d b hb; rw [show b = C by omega]; rfl
  | succ e ih =>
    intro d b hb
    show rspF dem (d + e + 1) b = _
    show (if dem b = b then b + 1 else rspF dem (d + e) (b + 1)) = _
    have := h b
    rw [if_neg (by omega), ih d (b + 1) (by omega)]
theorem rspF_0 {dem : Nat → Nat} {C : Nat} (h : ∀ b, C ≤ dem b) : ∀ d b, b + d ≤ C → rspF dem d b = 0 := by
  intro d
  induction d with
  | zero => intro b _; rfl
  | succ d ih =>
    intro b hb
    show (if dem b = b then b + 1 else rspF dem d (b + 1)) = 0
    have := h b
    rw [if_neg (by omega), ih (b + 1) (by omega)]
theorem rspF_b {dem : Nat → Nat} {C : Nat} (h : ∀ b, C ≤ dem b) : ∀ d b, rspF dem d b = 0 ∨ (C + 1 ≤ rspF dem d b ∧ b + 1 ≤ rspF dem d b ∧ rspF dem d b ≤ b + d) := by
  intro d
  induction d with
  | zero => intro b; exact Or.inl rfl
  | succ d ih =>
    intro b
    show (if dem b = b then b + 1 else rspF dem d (b + 1)) = 0 ∨ (C + 1 ≤ (if dem b = b then b + 1 else rspF dem d (b + 1)) ∧ b + 1 ≤ (if dem b = b then b + 1 else rspF dem d (b + 1)) ∧ (if dem b = b then b + 1 else rspF dem d (b + 1)) ≤ b + (d + 1))
    have := h b
    by_cases c : dem b = b
    · rw [if_pos c]
      omega
    · rw [if_neg c]
      rcases ih (b + 1) with z | z
      · exact Or.inl z
      · omega
/-- what the law sees: costs (at least, at most) of the tasks -/
def GC (β : Bw) (C : Nat → Nat → Nat) : Prop := ∀ t, t < β 0 0 5 → C 0 t ≤ C 1 t ∧ 1 ≤ C 1 t ∧ C 1 t ≤ 104
/-- the class's: an order of the tasks, the costs -/
def LwC (M : Mw) (β : Bw) (C : Nat → Nat → Nat) (ord : Nat → Nat) : Prop :=
  (∀ t, t < β 0 0 5 → F_X3_costOf 1 (nI t) 0 M = some (nI (C 0 t)) ∧ F_X3_costOf 1 (nI t) 1 M = some (nI (C 1 t))) ∧ (∀ p, p < β 0 0 5 → M.1 22 0 0 p = nI (ord p) ∧ ord p < β 0 0 5)
/-- the reference's: who is ahead, the costs -/
def LwR (M : Mw) (β : Bw) (L : Lw) (C : Nat → Nat → Nat) (msk : Nat → Nat) : Prop :=
  RWd (M.1 51 0 0) β L ∧ (∀ t, t < β 0 0 5 → M.1 59 0 0 t = nI (C 0 t) ∧ M.1 58 0 0 t = nI (C 1 t) ∧ M.1 60 0 0 t = nI (msk t) ∧ msk t < 32)
def dmC (β : Bw) (C : Nat → Nat → Nat) (ord : Nat → Nat) (p b : Nat) : Nat := C 1 (ord p) + dms (fun i => trm β (C 1) b (ord i)) p
def dmR (β : Bw) (C : Nat → Nat → Nat) (msk : Nat → Nat) (t b : Nat) : Nat := C 1 t + dms (fun i => if (msk t).testBit i = true then trm β (C 1) b i else 0) (β 0 0 5)
theorem c_div {a T : Nat} (hT : 0 < T) (hT2 : T ≤ 1000) (ha : a ≤ 10000) (M : Mw) : F_X9_divideUp (nI a) (nI T) M = some (nI ((a + T - 1) / T)) := by
  unfold F_X9_divideUp
  rw [if_neg (nI_nle hT (by omega)), if_neg (nI_ne0 hT (by omega)), nI_add, nI_predm (by omega), pk_div (by omega) (by omega) (by omega)]
theorem c_demand {M : Mw} {β : Bw} {L : Lw} {C : Nat → Nat → Nat} {ord : Nat → Nat} (hg : GB β L) (hB : CBd 1 M β L) (h : LwC M β C ord) {p b : Nat} (hp : p < β 0 0 5) (hb : b ≤ 1000) : F_X3_demandAt 1 (nI p) (nI b) M = some (nI (dmC β C ord p b)) := by
  have hT5 := hg.1.2.2.2.2
  obtain ⟨h1, h2⟩ := h
  unfold F_X3_demandAt
  rw [if_pos (inb_nI (by omega) (by omega)), clampI (by omega), (h2 p hp).1, (h1 _ (h2 p hp).2).2, Option.bind_some]
  have key := it_forA (z := fun _ _ => none) (B := B_X3_demandAt_17 1 (nI p) (nI b) M) (n := p) (P := fun i a => a = nI (C 1 (ord p) + dms (fun i => trm β (C 1) b (ord i)) i)) (Q := fun o => o = some (nI (dmC β C ord p b)))
    (fun kk i a hi hP => by
      left
      have hin : inb (nI i) 5 = true := inb_nI (by omega) (by omega)
      have ho := h2 i (by omega)
      obtain ⟨-, g4, g60, -⟩ := hg.2.2.2.1 (ord i) ho.2
      unfold B_X3_demandAt_17
      rw [hP, if_neg (nI_ge hi (by omega)), if_pos hin, clampI (by omega), ho.1, if_pos (inb_nI (by omega) (by omega)), clampI (by omega), hB.2.2.1 _ ho.2 1 (by omega), c_div (by omega) (by omega) (by omega), Option.bind_some, if_pos hin, (h1 _ ho.2).2, Option.bind_some, pk_mul, nI_add, bd_eq, nI_1, bd_eq]
      refine ⟨_, rfl, ?_⟩
      show _ = nI (C 1 (ord p) + (dms (fun i => trm β (C 1) b (ord i)) i + trm β (C 1) b (ord i)))
      rw [← Nat.add_assoc]
      rfl)
    (fun kk a hP => by
      unfold B_X3_demandAt_17
      rw [hP, if_pos (Int32.le_refl _)]
      rfl)
    FU 0 (nI (C 1 (ord p))) (Nat.zero_le _) (by unfold FU; omega) rfl
  rw [nI_0] at key
  exact key
theorem dms_le {f : Nat → Nat} {B : Nat} : ∀ n, (∀ i, i < n → f i ≤ B) → dms f n ≤ n * B := by
  intro n
  induction n with
  | zero => intro _; exact Nat.zero_le _
  | succ n ih =>
    intro h
    have h1 := ih (fun i hi => h i (by omega))
    have h2 := h n (by omega)
    show dms f n + f n ≤ (n + 1) * B
    rw [Nat.add_mul]
    omega
theorem trm_le {β : Bw} {L : Lw} {C : Nat → Nat → Nat} (hg : GB β L) (hC : GC β C) {b i : Nat} (hi : i < β 0 0 5) (hb : b ≤ 100) : trm β (C 1) b i ≤ 104 * 104 := by
  obtain ⟨-, g4, g60, -⟩ := hg.2.2.2.1 i hi
  unfold trm
  have h1 : (b + β 4 i 1 - 1) / β 4 i 1 ≤ 104 := Nat.le_trans (Nat.div_le_div_left (c := 4) g4 (by omega)) (by omega)
  exact Nat.mul_le_mul h1 (hC i hi).2.2
/-- the class's response -/
def rsC (β : Bw) (C : Nat → Nat → Nat) (ord : Nat → Nat) (p : Nat) : Nat := rspN (dmC β C ord p) (β 4 (ord p) 1)
theorem c_resp {M : Mw} {β : Bw} {L : Lw} {C : Nat → Nat → Nat} {ord : Nat → Nat} (hg : GB β L) (hC : GC β C) (hB : CBd 1 M β L) (h : LwC M β C ord) {p : Nat} (hp : p < β 0 0 5) : F_X3_responseAt 1 (nI p) M = some (nI (rsC β C ord p) + (-1)) := by
  have hT5 := hg.1.2.2.2.2
  have ho := h.2 p hp
  obtain ⟨-, g4, g60, -⟩ := hg.2.2.2.1 (ord p) ho.2
  unfold F_X3_responseAt
  rw [if_pos (inb_nI (by omega) (by omega)), clampI (by omega), ho.1, if_pos (inb_nI (by omega) (by omega)), clampI (by omega), hB.2.2.1 _ ho.2 1 (by omega), bd_eq]
  have key := it_forN (z := fun _ => none) (B := B_X3_responseAt_17 1 (nI p) (nI (β 4 (ord p) 1)) M) (n := β 4 (ord p) 1 + 1) (P := fun b => 1 ≤ b ∧ rspF (dmC β C ord p) (β 4 (ord p) 1 + 1 - b) b = rsC β C ord p) (Q := fun o => o = some (nI (rsC β C ord p) + (-1)))
    (fun kk b hb hP => by
      obtain ⟨h1, h2⟩ := hP
      have hd := c_demand hg hB h hp (show b ≤ 1000 by omega)
      have hle : dmC β C ord p b ≤ 60000 := by
        unfold dmC
        have := dms_le (f := fun i => trm β (C 1) b (ord i)) (B := 104 * 104) p (fun i hi => trm_le hg hC (h.2 i (by omega)).2 (by omega))
        have := (hC _ ho.2).2.2
        have : p * (104 * 104) ≤ 4 * (104 * 104) := Nat.mul_le_mul_right _ (by omega)
        omega
      unfold B_X3_responseAt_17
      rw [if_neg (nI_nlt (by omega) (by omega)), hd, Option.bind_some]
      rw [show β 4 (ord p) 1 + 1 - b = (β 4 (ord p) 1 + 1 - (b + 1)) + 1 by omega] at h2
      have h2' : (if dmC β C ord p b = b then b + 1 else rspF (dmC β C ord p) (β 4 (ord p) 1 + 1 - (b + 1)) (b + 1)) = rsC β C ord p := h2
      by_cases c : dmC β C ord p b = b
      · right
        rw [if_pos c] at h2'
        rw [if_pos (show nI (dmC β C ord p b) = nI b by rw [c]), ← h2', pk_m1]
      · left
        rw [if_neg c] at h2'
        rw [if_neg (fun q => c ((nI_eq (by omega) (by omega)).mp q)), nI_1, bd_eq]
        exact ⟨rfl, by omega, h2'⟩)
    (fun kk hP => by
      obtain ⟨h1, h2⟩ := hP
      rw [Nat.sub_self] at h2
      have h2' : 0 = rsC β C ord p := h2
      unfold B_X3_responseAt_17
      rw [if_pos (nI_lt (by omega) (by omega)), ← h2']
      decide)
    FU 1 (by omega) (by unfold FU; omega) ⟨Nat.le_refl _, by rw [Nat.add_sub_cancel]; rfl⟩
  exact key
theorem r_per {M : Mw} {β : Bw} {L : Lw} (hx : Gx β L) (hw : RWd (M.1 51 0 0) β L) {t : Nat} (ht : t < β 0 0 5) : F_X10_period (nI t) M = some (nI (β 4 t 1)) := by
  unfold F_X10_period
  have : F_X10_toldOf (nI t) 1 M = some (nI (β 4 t 1)) := r_toldW hx hw ht (j := 1) (by omega)
  rw [this, Option.bind_some]
theorem msk_bit : ∀ s, s < 32 → ∀ n, n < 5 → ((((nI s) >>> (nI n &&& 31)) &&& 1 = 1) ↔ s.testBit n = true) := by decide +kernel
def rsR (β : Bw) (C : Nat → Nat → Nat) (msk : Nat → Nat) (t : Nat) : Nat := rspN (dmR β C msk t) (β 4 t 1)
theorem r_resp {M : Mw} {β : Bw} {L : Lw} {C : Nat → Nat → Nat} {msk : Nat → Nat} (hx : Gx β L) (hC : GC β C) (h : LwR M β L C msk) {t : Nat} (ht : t < β 0 0 5) : F_X10_responseOf (nI t) M = some (nI (rsR β C msk t) + (-1)) := by
  have hg := hx.1
  have hT5 := hg.1.2.2.2.2
  obtain ⟨hw, h2⟩ := h
  obtain ⟨e59, e58, e60, m32⟩ := h2 t ht
  obtain ⟨-, c1, c104⟩ := hC t ht
  obtain ⟨-, g4, g60, -⟩ := hg.2.2.2.1 t ht
  have hin : inb (nI t) 5 = true := inb_nI (by omega) (by omega)
  have hdge : ∀ b, C 1 t ≤ dmR β C msk t b := fun b => Nat.le_add_right _ _
  unfold F_X10_responseOf
  rw [if_pos hin, clampI (by omega), e58, bd_eq]
  have step : ∀ (kk : Int32 → Option Int32) (b : Nat), b ≤ β 4 t 1 → B_X10_responseOf_7 (nI t) M kk (nI b) = if dmR β C msk t b = b then some (nI b) else kk (nI (b + 1)) := by
    intro kk b hb
    unfold B_X10_responseOf_7
    rw [r_per hx hw ht, Option.bind_some, if_neg (nI_nlt hb (by omega)), if_pos hin, clampI (by omega), e58, bd_eq]
    have key := it_forA (z := fun _ _ => none) (B := B_X10_responseOf_26 kk (nI t) (nI b) M) (n := β 0 0 5) (P := fun i a => a = nI (C 1 t + dms (fun i => if (msk t).testBit i = true then trm β (C 1) b i else 0) i)) (Q := fun o => o = if dmR β C msk t b = b then some (nI b) else kk (nI (b + 1)))
      (fun k2 i a hi hP => by
        left
        obtain ⟨-, f58, -, -⟩ := h2 i hi
        obtain ⟨-, g4', g60', -⟩ := hg.2.2.2.1 i hi
        unfold B_X10_responseOf_26
        rw [hP, hw.1.2.2.2.2.1, if_neg (nI_ge hi (by omega)), if_pos hin, clampI (by omega), e60]
        show ∃ a', _ ∧ a' = nI (C 1 t + (dms (fun i => if (msk t).testBit i = true then trm β (C 1) b i else 0) i + (if (msk t).testBit i = true then trm β (C 1) b i else 0)))
        by_cases cb : (msk t).testBit i = true
        · rw [if_pos ((msk_bit _ m32 i (by omega)).mpr cb), r_per hx hw hi, Option.bind_some, Option.bind_some, if_neg (nI_ne0 (by omega) (by omega)), if_pos (inb_nI (by omega) (by omega)), clampI (by omega), f58, nI_add, nI_predm (by omega), pk_div (by omega) (by omega) (by omega), pk_mul, nI_add, bd_eq, nI_1, bd_eq, if_pos cb]
          refine ⟨_, rfl, ?_⟩
          unfold trm
          rw [Nat.add_assoc]
        · rw [if_neg (fun q => cb ((msk_bit _ m32 i (by omega)).mp q)), bd_eq, nI_1, bd_eq, if_neg cb]
          exact ⟨_, rfl, Int32.add_zero _⟩)
      (fun k2 a hP => by
        have hle : dmR β C msk t b ≤ 60000 := by
          unfold dmR
          have := dms_le (f := fun i => if (msk t).testBit i = true then trm β (C 1) b i else 0) (B := 104 * 104) (β 0 0 5) (fun i hi => by
            show (if (msk t).testBit i = true then trm β (C 1) b i else 0) ≤ _
            by_cases cb : (msk t).testBit i = true
            · rw [if_pos cb]; exact trm_le hg hC hi (by omega)
            · rw [if_neg cb]; exact Nat.zero_le _)
          have : β 0 0 5 * (104 * 104) ≤ 5 * (104 * 104) := Nat.mul_le_mul_right _ hT5
          omega
        unfold B_X10_responseOf_26
        rw [hP, hw.1.2.2.2.2.1, if_pos (Int32.le_refl _)]
        show (if nI (dmR β C msk t b) = nI b then some (nI b) else _) = _
        by_cases c : dmR β C msk t b = b
        · rw [if_pos c, if_pos (show nI (dmR β C msk t b) = nI b by rw [c])]
        · rw [if_neg c, if_neg (fun q => c ((nI_eq (by omega) (by omega)).mp q)), nI_1, bd_eq])
      FU 0 (nI (C 1 t)) (Nat.zero_le _) (by unfold FU; omega) rfl
    rw [nI_0] at key
    exact key
  have stop : ∀ (kk : Int32 → Option Int32) (b : Nat), β 4 t 1 < b → b ≤ 1000 → B_X10_responseOf_7 (nI t) M kk (nI b) = some (-1) := by
    intro kk b hb hb2
    unfold B_X10_responseOf_7
    rw [r_per hx hw ht, Option.bind_some, if_pos (nI_lt hb (by omega))]
  by_cases c : β 4 t 1 < C 1 t
  · rw [it_FU, stop _ _ c (by omega)]
    have : rsR β C msk t = 0 := rspF_0 hdge _ _ (by omega)
    rw [this]
    decide
  have e0 : rspF (dmR β C msk t) (β 4 t 1 + 1 - C 1 t) (C 1 t) = rsR β C msk t := by
    have := rspF_skip hdge (C 1 t - 1) (β 4 t 1 + 1 - C 1 t) 1 (by omega)
    rw [show β 4 t 1 + 1 - C 1 t + (C 1 t - 1) = β 4 t 1 by omega] at this
    exact this.symm
  exact it_forN (z := fun _ => none) (B := B_X10_responseOf_7 (nI t) M) (n := β 4 t 1 + 1) (P := fun b => rspF (dmR β C msk t) (β 4 t 1 + 1 - b) b = rsR β C msk t) (Q := fun o => o = some (nI (rsR β C msk t) + (-1)))
    (fun kk b hb h2 => by
      rw [step kk b (by omega)]
      rw [show β 4 t 1 + 1 - b = (β 4 t 1 + 1 - (b + 1)) + 1 by omega] at h2
      have h2' : (if dmR β C msk t b = b then b + 1 else rspF (dmR β C msk t) (β 4 t 1 + 1 - (b + 1)) (b + 1)) = rsR β C msk t := h2
      by_cases c : dmR β C msk t b = b
      · right
        rw [if_pos c] at h2'
        rw [if_pos c, ← h2', pk_m1]
      · left
        rw [if_neg c] at h2'
        rw [if_neg c]
        exact ⟨rfl, h2'⟩)
    (fun kk h2 => by
      rw [Nat.sub_self] at h2
      have h2' : 0 = rsR β C msk t := h2
      rw [stop kk _ (by omega) (by omega), ← h2']
      decide)
    FU (C 1 t) (by omega) (by unfold FU; omega) e0
