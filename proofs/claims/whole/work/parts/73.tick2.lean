/-! A WHOLE TICK, its numbers -/
def Z5 (s s' : Vw × Hw) : Prop := ∀ t, s'.1.1 t 5 = s.1.1 t 5 ∨ s'.1.1 t 5 = 0
theorem Z5.rfl {s : Vw × Hw} : Z5 s s := fun _ => Or.inl (Eq.refl _)
theorem Z5.trans {s s1 s2 : Vw × Hw} (h : Z5 s s1) (h2 : Z5 s1 s2) : Z5 s s2 := fun t => by
  rcases h2 t with q | q
  · rw [q]; exact h t
  · exact Or.inr q
theorem GP.z5 {β : Bw} {k : Nat} {s s' : Vw × Hw} (h : GP β k s.1) (z : Z5 s s') : GP β k s'.1 := fun t ht q => by
  rcases z t with e | e
  · rw [e] at q ⊢
    exact h t ht q
  · exact absurd e q
theorem z5_cl {β : Bw} {lev task w k n : Nat} {V : Vw} (t : Nat) : (clV β lev task w k V n).1 t 5 = V.1 t 5 ∨ (clV β lev task w k V n).1 t 5 = 0 := by
  rcases clV_rs (β := β) (lev := lev) (task := task) (w := w) (k := k) (V := V) (n := n) t with e | e
  · rw [e]; exact Or.inl rfl
  · rw [e]; exact Or.inr rfl
theorem z5_fail {β : Bw} {k kind t : Nat} {s : Vw × Hw} : Z5 s (failS β k kind t s) := fun t' => by
  have e : (flV s.1 t).1 t' 5 = s.1.1 t' 5 := flV_o (by decide) (by decide) (by decide)
  rw [← e]
  exact z5_cl t'
theorem z5_fw {β : Bw} {k o : Nat} {s : Vw × Hw} : Z5 s (fwS β k o s) := fun t => z5_cl t
theorem z5_dg {β : Bw} {k : Nat} {lk : Nat → Nat} {s : Vw × Hw} : Z5 s (dgS β k lk s) := by
  unfold dgS
  by_cases c : s.2.2.2.2.2.2 = 0 ∧ 0 < β 0 0 4 ∧ lk 0 = 0
  · rw [if_pos c]
    exact fun t => z5_cl t
  · rw [if_neg c]
    exact Z5.rfl
theorem z5_lt {β : Bw} {k w : Nat} {s : Vw × Hw} : ∀ n, Z5 s (ltS β k w s n) := by
  intro n
  induction n with
  | zero => exact Z5.rfl
  | succ n ih =>
    refine ih.trans ?_
    show Z5 _ (ltT β k w n (ltS β k w s n))
    unfold ltT
    by_cases c : (ltS β k w s n).2.2.2.2.2.2 = 0 ∧ misB β (ltS β k w s n).1 k n w = true
    · rw [if_pos c]; exact z5_fail
    · rw [if_neg c]; exact Z5.rfl
theorem z5_lw {β : Bw} {k w : Nat} {lk : Nat → Nat} {s : Vw × Hw} : ∀ n, Z5 s (lwS β k w lk s n) := by
  intro n
  induction n with
  | zero => exact Z5.rfl
  | succ n ih =>
    refine ih.trans ?_
    show Z5 _ (lwT β k w lk n (lwS β k w lk s n))
    unfold lwT
    by_cases c : (lwS β k w lk s n).2.2.2.2.2.2 = 0 ∧ β 1 0 n = w + 1 ∧ lk n = 0
    · rw [if_pos c]; exact z5_fw
    · rw [if_neg c]; exact Z5.rfl
theorem z5_lo {β : Bw} {L : Lw} {k : Nat} {s : Vw × Hw} : ∀ n, Z5 s (loA β L k s n).1 := by
  intro n
  induction n with
  | zero => exact Z5.rfl
  | succ n ih =>
    refine ih.trans ?_
    show Z5 _ (loS β L k (β 0 0 4 - 1 - n) (loA β L k s n)).1
    unfold loS
    by_cases c : (loA β L k s n).1.2.2.2.2.2.2 ≠ 0
    · rw [if_pos c]; exact Z5.rfl
    rw [if_neg c]
    by_cases c2 : slp L (nI (β 0 0 4 - 1 - n)) (nI k) (nI ((loA β L k s n).1.2.1 (β 0 0 4 - 1 - n)) + (-1)) = true
    · rw [if_pos c2]; exact Z5.rfl
    · rw [if_neg c2]
      exact (z5_lt _).trans (z5_lw _)
theorem z5_cy {β : Bw} {L : Lw} {k : Nat} {s : Vw × Hw} : Z5 s (cyS β L k s) := by
  unfold cyS
  refine ((z5_lo (β := β) (L := L) (k := k) (s := s) (β 0 0 4)).trans (z5_dg (β := β) (k := k) (lk := (loA β L k s (β 0 0 4)).2))).trans ?_
  generalize dgS β k (loA β L k s (β 0 0 4)).2 (loA β L k s (β 0 0 4)).1 = s1
  unfold ecS
  by_cases c : s1.2.2.2.2.2.2 = 0
  · rw [if_pos c]
    exact fun t => Or.inl (ecV_f (by decide) (by decide))
  · rw [if_neg c]
    exact Z5.rfl
theorem IV_la {β : Bw} {L : Lw} {FO FM : UInt32 → Prop} {FS : Nat → UInt64 → Prop} {m k cy : Nat} {s : Vw × Hw} (hg : GB β L) (hF : FH FO FM FS) (hk : k ≤ 200) (h : IV β L FO FM FS m k cy s) : ∀ n, n ≤ β 0 0 5 → IV β L FO FM FS m k cy (laS β k s n) ∧ ((laS β k s n).2.2.2.2.2.2 = 0 → ∀ t, t < n → (laS β k s n).1.1 t 5 ≠ 0 → k + 2 ≤ (laS β k s n).1.1 t 5 + β 4 t 3) := by
  intro n
  induction n with
  | zero => intro _; exact ⟨h, fun _ t ht => by omega⟩
  | succ n ih =>
    intro hn
    obtain ⟨i1, i2⟩ := ih (by omega)
    show IV β L FO FM FS m k cy (laT β k n (laS β k s n)) ∧ ((laT β k n (laS β k s n)).2.2.2.2.2.2 = 0 → ∀ t, t < n + 1 → (laT β k n (laS β k s n)).1.1 t 5 ≠ 0 → k + 2 ≤ (laT β k n (laS β k s n)).1.1 t 5 + β 4 t 3)
    generalize laS β k s n = s1 at i1 i2 ⊢
    unfold laT
    by_cases c : s1.2.2.2.2.2.2 = 0 ∧ s1.1.1 n 0 ≤ k ∧ β 4 n 3 ≤ gpN s1.1 n k
    · rw [if_pos c]
      refine ⟨IV_fail hg hF hk (by omega) c.1 i1, fun _ t ht q => ?_⟩
      by_cases ct : t = n
      · subst ct
        have hd : dR β (flL β s1.1 t) (t + 1) (β 4 t 0) t = true := by
          unfold dR
          simp
        have e : (failS β k 2 t s1).1.1 t = rsF ((flV s1.1 t).1 t) (rst β t k) := by
          show (clV β (flL β s1.1 t) (t + 1) (β 4 t 0) k (flV s1.1 t) (β 0 0 5)).1 t = _
          exact if_pos ⟨by omega, hd⟩
        rw [e] at q
        exact absurd rfl q
      · rcases z5_fail (β := β) (k := k) (kind := 2) (t := n) (s := s1) t with e | e
        · rw [e] at q ⊢
          exact i2 c.1 t (by omega) q
        · exact absurd e q
    · rw [if_neg c]
      refine ⟨i1, fun ho t ht q => ?_⟩
      by_cases ct : t = n
      · subst ct
        obtain ⟨j12, j10, j14, j3, j6, jm, js, j5, j2, j8⟩ := i1.2.1 t (by omega)
        have j := j5 q
        have hgp : ¬ β 4 t 3 ≤ gpN s1.1 t k := fun z => c ⟨ho, j.1, z⟩
        unfold gpN at hgp
        rw [if_neg q] at hgp
        omega
      · exact i2 ho t (by omega) q
theorem GP_la {β : Bw} {L : Lw} {FO FM : UInt32 → Prop} {FS : Nat → UInt64 → Prop} {m k cy : Nat} {s : Vw × Hw} (hg : GB β L) (hF : FH FO FM FS) (hk : k ≤ 200) (h : IV β L FO FM FS m k cy s) : GP β k (laS β k s (β 0 0 5)).1 := by
  obtain ⟨i1, i2⟩ := IV_la hg hF hk h (β 0 0 5) (Nat.le_refl _)
  intro t ht q
  by_cases c : (laS β k s (β 0 0 5)).2.2.2.2.2.2 = 0
  · exact i2 c t ht q
  · exact absurd (i1.2.2.2.1 c t ht).2 q
theorem IV_m {β : Bw} {L : Lw} {FO FM : UInt32 → Prop} {FS : Nat → UInt64 → Prop} {k cy : Nat} {s : Vw × Hw} (h : IV β L FO FM FS k k cy s) : IV β L FO FM FS (k + 1) k cy s := by
  obtain ⟨h1, h2, h3⟩ := h
  refine ⟨h1, fun t ht => ?_, h3⟩
  obtain ⟨j12, j10, j14, j3, r⟩ := h2 t ht
  exact ⟨by omega, j10, j14, by omega, r⟩
def tkO (β : Bw) (L : Lw) (k : Nat) (s : Vw × Hw) : Nat := ow L (beS β k s).1 (β 0 0 5)
def tk1 (β : Bw) (L : Lw) (k : Nat) (s : Vw × Hw) : Vw × Hw := if tkO β L k s = 0 then beS β k s else wkS β L k (tkO β L k s - 1) (beS β k s)
def tk2 (β : Bw) (L : Lw) (k : Nat) (s : Vw × Hw) : Vw × Hw := laS β k (tk1 β L k s) (β 0 0 5)
def tkS (β : Bw) (L : Lw) (k : Nat) (s : Vw × Hw) : Vw × Hw := if (k + 1) % β 0 0 1 = 0 then cyS β L k (tk2 β L k s) else tk2 β L k s
theorem tkO_wB {β : Bw} {L : Lw} {k : Nat} {s : Vw × Hw} (h : tkO β L k s ≠ 0) : tkO β L k s - 1 < β 0 0 5 ∧ 0 < (beS β k s).1.1 (tkO β L k s - 1) 2 := by
  obtain ⟨q1, q2⟩ := ow_wB (L := L) (V := (beS β k s).1) (β 0 0 5) (tkO β L k s - 1) (by show tkO β L k s = _; omega)
  unfold wB at q2
  rw [Bool.and_eq_true] at q2
  exact ⟨q1, of_decide_eq_true q2.1⟩
theorem IV_tk1 {β : Bw} {L : Lw} {FO FM : UInt32 → Prop} {FS : Nat → UInt64 → Prop} {k cy : Nat} {s : Vw × Hw} (hg : GB β L) (hF : FH FO FM FS) (hk : k < 200) (h : IVS β L FO FM FS k cy s) (hh : s.2.2.2.2.2.1 = 0) : IV β L FO FM FS (k + 1) k cy (tk1 β L k s) := by
  have hb := IV_be hg h hh
  unfold tk1
  by_cases c : tkO β L k s = 0
  · rw [if_pos c]
    exact IV_m hb
  · rw [if_neg c]
    obtain ⟨w1, w2⟩ := tkO_wB c
    exact IV_wk hg hF hk w1 w2 rfl hb
theorem IVS_tk {β : Bw} {L : Lw} {FO FM : UInt32 → Prop} {FS : Nat → UInt64 → Prop} {k cy : Nat} {s : Vw × Hw} (hg : GB β L) (hF : FH FO FM FS) (hk : k < 200) (h : IVS β L FO FM FS k cy s) (hh : s.2.2.2.2.2.1 = 0) : IVS β L FO FM FS (k + 1) (if (k + 1) % β 0 0 1 = 0 then cy + 1 else cy) (tkS β L k s) := by
  have h1 := IV_tk1 hg hF hk h hh
  have h2 := (IV_la hg hF (by omega) h1 (β 0 0 5) (Nat.le_refl _)).1
  have h3 := GP_la hg hF (by omega) h1
  have h2' : IV β L FO FM FS (k + 1) k cy (tk2 β L k s) := h2
  have h3' : GP β k (tk2 β L k s).1 := h3
  unfold tkS
  by_cases c : (k + 1) % β 0 0 1 = 0
  · rw [if_pos c, if_pos c]
    exact IVS_next (IV_cy hg hF (by omega) h2') (h3'.z5 z5_cy) (Nat.le_refl _)
  · rw [if_neg c, if_neg c]
    exact IVS_next h2' h3' (Nat.le_refl _)
/-! THE RUN: its state (who has what; kicks; begins; owners), tick by tick -/
abbrev Rsw : Type := (Vw × Hw) × List (Nat × Nat) × (Nat → Nat → Nat) × (Nat → Nat)
def tkK (β : Bw) (L : Lw) (k : Nat) (s : Vw × Hw) (K : List (Nat × Nat)) : List (Nat × Nat) := if tkO β L k s = 0 then K else wkK β L k (tkO β L k s - 1) (beS β k s).1 K
def stR (β : Bw) (L : Lw) (k : Nat) (r : Rsw) : Rsw := if r.1.2.2.2.2.2.1 ≠ 0 then r else (tkS β L k r.1, tkK β L k r.1 r.2.1, beA β k r.1.1 r.2.2.1 (β 0 0 5), fun i => if i = k then tkO β L k r.1 else r.2.2.2 i)
def V0w : Vw := (fun _ f => if f = 6 then 1 else 0, fun _ => FP.fconst1, fun _ => 0, fun _ => FP.dconst0)
def H0w : Hw := (fun _ => 0, fun _ => 0, [], 0, 0, 0)
def rn0 : Rsw := ((V0w, H0w), [], fun _ _ => 0, fun _ => 0)
def rn (β : Bw) (L : Lw) : Nat → Rsw
  | 0 => rn0
  | k + 1 => stR β L k (rn β L k)
/-- how many ticks nobody had -/
def idl (O : Nat → Nat) : Nat → Nat
  | 0 => 0
  | n + 1 => idl O n + (if O n = 0 then 1 else 0)
theorem idl_same {O O' : Nat → Nat} : ∀ n, (∀ i, i < n → O' i = O i) → idl O' n = idl O n := by
  intro n
  induction n with
  | zero => intro _; rfl
  | succ n ih =>
    intro h
    show idl O' n + _ = idl O n + _
    rw [ih (fun i hi => h i (by omega)), h n (by omega)]
theorem idl_le (O : Nat → Nat) : ∀ n, idl O n ≤ n := by
  intro n
  induction n with
  | zero => exact Nat.le_refl 0
  | succ n ih =>
    show idl O n + _ ≤ n + 1
    by_cases c : O n = 0
    · rw [if_pos c]; omega
    · rw [if_neg c]; omega
/-- what holds along the run -/
def IR (β : Bw) (L : Lw) (FO FM : UInt32 → Prop) (FS : Nat → UInt64 → Prop) (k : Nat) (r : Rsw) : Prop :=
  (r.1.2.2.2.2.2.1 = 0 → IVS β L FO FM FS k (k / β 0 0 1) r.1) ∧ (r.1.2.2.2.2.2.1 ≠ 0 → ∃ k', k' ≤ k ∧ IVS β L FO FM FS k' (k' / β 0 0 1) r.1) ∧ r.2.1.length ≤ k ∧ (∀ i, k ≤ i → r.2.2.2 i = 0) ∧ (∀ i, r.2.2.2 i ≤ β 0 0 5)
theorem IR_0 {β : Bw} {L : Lw} {FO FM : UInt32 → Prop} {FS : Nat → UInt64 → Prop} (hO : FO FP.fconst1) (hS : FS 0 FP.dconst0) : IR β L FO FM FS 0 (rn β L 0) := by
  have hv : IVS β L FO FM FS 0 (0 / β 0 0 1) (rn β L 0).1 := by
    refine ⟨⟨⟨fun _ => 0, ?_, fun t ht => ?_, fun t ht => ?_, fun w => Nat.zero_le _, fun w _ => Nat.zero_le _, Nat.zero_le _, fun _ => Nat.zero_le _⟩, fun t ht => ?_, Nat.zero_le _, fun q => absurd rfl q, fun _ => Nat.zero_le _, Nat.zero_le _⟩, fun t ht => Nat.le_refl 0⟩
    · exact Nat.zero_le _
    · exact ⟨Nat.zero_le _, Nat.zero_le _, Nat.zero_le _, Nat.zero_le _, Nat.zero_le _, hO⟩
    · exact Nat.zero_le _
    · exact ⟨Nat.le_refl 0, Nat.le_refl 0, Nat.le_refl 0, Nat.le_refl 0, by show 1 < 64; omega, fun q => absurd q (Nat.lt_irrefl 0), hS, fun q => absurd rfl q, fun q => absurd q (Nat.lt_irrefl 0), Nat.zero_le _, Nat.zero_le _⟩
  exact ⟨fun _ => hv, fun _ => ⟨0, Nat.le_refl 0, hv⟩, Nat.le_refl 0, fun _ _ => rfl, fun _ => Nat.zero_le _⟩
theorem wkK_len {β : Bw} {L : Lw} {k t : Nat} {V : Vw} {K : List (Nat × Nat)} : (wkK β L k t V K).length ≤ K.length + 1 := by
  unfold wkK
  by_cases c : wkC β L V t = 2 ∧ kkN β L k t (fol β t (V.1 t 2 - 1) (V.1 t 1 - 1)) V = 0
  · rw [if_pos c, List.length_append]; exact Nat.le_refl _
  · rw [if_neg c]; omega
theorem IR_step {β : Bw} {L : Lw} {FO FM : UInt32 → Prop} {FS : Nat → UInt64 → Prop} {k : Nat} {r : Rsw} (hg : GB β L) (hF : FH FO FM FS) (hY : 5 ≤ β 0 0 1) (hk : k < 200) (h : IR β L FO FM FS k r) : IR β L FO FM FS (k + 1) (stR β L k r) := by
  obtain ⟨h1, h2, h3, h4, h5⟩ := h
  unfold stR
  by_cases c : r.1.2.2.2.2.2.1 ≠ 0
  · rw [if_pos c]
    obtain ⟨k', q1, q2⟩ := h2 c
    exact ⟨fun q => absurd q c, fun _ => ⟨k', by omega, q2⟩, by omega, fun i hi => h4 i (by omega), h5⟩
  · rw [if_neg c]
    have c' : r.1.2.2.2.2.2.1 = 0 := Decidable.of_not_not c
    have hn := IVS_tk hg hF hk (h1 c') c'
    have e : (if (k + 1) % β 0 0 1 = 0 then k / β 0 0 1 + 1 else k / β 0 0 1) = (k + 1) / β 0 0 1 := by
      rw [Nat.succ_div]
      by_cases z : (k + 1) % β 0 0 1 = 0
      · rw [if_pos z, if_pos (Nat.dvd_of_mod_eq_zero z)]
      · rw [if_neg z, if_neg (fun q => z (Nat.mod_eq_zero_of_dvd q))]
        rfl
    rw [e] at hn
    refine ⟨fun _ => hn, fun _ => ⟨k + 1, Nat.le_refl _, hn⟩, ?_, fun i hi => ?_, fun i => ?_⟩
    · show (tkK β L k r.1 r.2.1).length ≤ k + 1
      unfold tkK
      by_cases z : tkO β L k r.1 = 0
      · rw [if_pos z]; omega
      · rw [if_neg z]
        have := wkK_len (β := β) (L := L) (k := k) (t := tkO β L k r.1 - 1) (V := (beS β k r.1).1) (K := r.2.1)
        omega
    · show (if i = k then _ else r.2.2.2 i) = 0
      rw [if_neg (by omega)]
      exact h4 i (by omega)
    · show (if i = k then tkO β L k r.1 else r.2.2.2 i) ≤ _
      by_cases z : i = k
      · rw [if_pos z]; exact ow_le _
      · rw [if_neg z]; exact h5 i
theorem IR_rn {β : Bw} {L : Lw} {FO FM : UInt32 → Prop} {FS : Nat → UInt64 → Prop} (hg : GB β L) (hF : FH FO FM FS) (hY : 5 ≤ β 0 0 1) (hO : FO FP.fconst1) (hS : FS 0 FP.dconst0) : ∀ k, k ≤ 200 → IR β L FO FM FS k (rn β L k) := by
  intro k
  induction k with
  | zero => intro _; exact IR_0 hO hS
  | succ k ih =>
    intro hk
    exact IR_step hg hF hY (by omega) (ih (by omega))
