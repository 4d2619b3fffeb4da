/-! WHO HAS THE TICK (one more; 0: nobody) -/
def wB (L : Lw) (V : Vw) (t : Nat) : Bool := decide (0 < V.1 t 2) && decide (chV L V t ≠ 1)
def ow (L : Lw) (V : Vw) : Nat → Nat
  | 0 => 0
  | n + 1 => if ow L V n ≠ 0 then ow L V n else if wB L V n = true then n + 1 else 0
theorem ow_keep {L : Lw} {V : Vw} {n : Nat} (h : ow L V n ≠ 0) : ∀ d, ow L V (n + d) = ow L V n := by
  intro d
  induction d with
  | zero => rfl
  | succ d ih =>
    show (if ow L V (n + d) ≠ 0 then ow L V (n + d) else _) = _
    rw [ih, if_pos h]
theorem ow_hit {L : Lw} {V : Vw} {n T : Nat} (h : ow L V n = 0) (hw : wB L V n = true) (hn : n < T) : ow L V T = n + 1 := by
  have e : ow L V (n + 1) = n + 1 := by
    show (if ow L V n ≠ 0 then _ else _) = _
    rw [if_neg (fun q => q h), if_pos hw]
  have := ow_keep (n := n + 1) (by rw [e]; omega) (T - (n + 1))
  rw [show n + 1 + (T - (n + 1)) = T by omega] at this
  rw [this, e]
theorem ow_miss {L : Lw} {V : Vw} {n : Nat} (h : ow L V n = 0) (hw : wB L V n ≠ true) : ow L V (n + 1) = 0 := by
  show (if ow L V n ≠ 0 then _ else _) = _
  rw [if_neg (fun q => q h), if_neg hw]
theorem ow_le {L : Lw} {V : Vw} : ∀ n, ow L V n ≤ n := by
  intro n
  induction n with
  | zero => exact Nat.le_refl 0
  | succ n ih =>
    show (if ow L V n ≠ 0 then ow L V n else if wB L V n = true then n + 1 else 0) ≤ n + 1
    by_cases h : ow L V n ≠ 0
    · rw [if_pos h]; omega
    · rw [if_neg h]
      by_cases h2 : wB L V n = true
      · rw [if_pos h2]; omega
      · rw [if_neg h2]; omega
theorem ow_wB {L : Lw} {V : Vw} : ∀ n t, ow L V n = t + 1 → t < n ∧ wB L V t = true := by
  intro n
  induction n with
  | zero => intro t h; exact absurd h (by show ¬ (0 = t + 1); omega)
  | succ n ih =>
    intro t h
    have h' : (if ow L V n ≠ 0 then ow L V n else if wB L V n = true then n + 1 else 0) = t + 1 := h
    by_cases h1 : ow L V n ≠ 0
    · rw [if_pos h1] at h'
      obtain ⟨a, b⟩ := ih t h'
      exact ⟨by omega, b⟩
    · rw [if_neg h1] at h'
      by_cases h2 : wB L V n = true
      · rw [if_pos h2] at h'
        obtain rfl : n = t := by omega
        exact ⟨by omega, h2⟩
      · rw [if_neg h2] at h'
        omega
theorem nI_m1n {n : Nat} (h0 : n ≠ 0) (h : n < 2 ^ 31) : ¬ nI n + (-1) = -1 := by
  obtain ⟨m, rfl⟩ := Nat.exists_eq_succ_of_ne_zero h0
  rw [pk_m1]
  exact nI_nm1 (by omega)
theorem c_owner {b : Nat} {M : Mw} {β : Bw} {L : Lw} {V : Vw} (hg : GB β L) (hB : CBd (b + 5) M β L) (hT : CTs b M β L V) (hv : VB β V) : F_X5_nextOwner b M = some (nI (ow L V (β 0 0 5)) + (-1)) := by
  have h5 := hg.1.2.2.2.2
  have e5 := hB.1 5 (by omega)
  have key : it (fun _ => none) (B_X5_nextOwner_2 b M) FU (nI 0) = some (nI (ow L V (β 0 0 5)) + (-1)) := it_forN (n := β 0 0 5) (P := fun i => ow L V i = 0) (Q := fun o => o = some (nI (ow L V (β 0 0 5)) + (-1))) (fun k i hi hP => by
    obtain ⟨v0, v1, v2⟩ := hv i hi
    obtain ⟨-, -, h2, h3, -⟩ := hT i hi
    unfold B_X5_nextOwner_2 F_X7_wantsTick
    rw [e5, if_neg (nI_ge hi (by omega)), if_pos (inb_nI (by omega) (by omega)), clampI (by omega), h2]
    by_cases c : V.1 i 2 = 0
    · rw [if_pos (by rw [c]; decide), Option.bind_some, if_pos rfl, bd_eq, nI_1]
      exact Or.inl ⟨rfl, ow_miss hP (fun q => by unfold wB at q; simp [c] at q)⟩
    rw [if_neg (nI_m1n c (by omega)), (h3 (by omega)).1]
    by_cases c1 : chV L V i = 1
    · rw [if_pos c1, Option.bind_some, if_pos rfl, bd_eq, nI_1]
      exact Or.inl ⟨rfl, ow_miss hP (fun q => by unfold wB at q; simp [c1] at q)⟩
    · rw [if_neg c1, Option.bind_some, if_neg (by decide)]
      right
      rw [ow_hit hP (by unfold wB; simp [c1]; omega) hi, pk_m1])
    (fun k hP => by
      unfold B_X5_nextOwner_2
      rw [e5, if_pos (Int32.le_refl _), hP]
      rfl)
    FU 0 (Nat.zero_le _) (by unfold FU; omega) rfl
  exact key
theorem r_owner {M : Mw} {β : Bw} {L : Lw} {V : Vw} (hg : GB β L) (h : RBd M β L) (hT : RTs M β V) (hv : VB β V) (hn : ∀ t, t < β 0 0 5 → V.1 t 2 ≤ β 4 t 6) : F_X10_whoHas M = some (nI (ow L V (β 0 0 5)) + (-1)) := by
  have h5 := hg.1.2.2.2.2
  have e5 := h.1.2.2.2.2
  have key : it (fun _ => none) (B_X10_whoHas_2 M) FU (nI 0) = some (nI (ow L V (β 0 0 5)) + (-1)) := it_forN (n := β 0 0 5) (P := fun i => ow L V i = 0) (Q := fun o => o = some (nI (ow L V (β 0 0 5)) + (-1))) (fun k i hi hP => by
    obtain ⟨v0, v1, v2⟩ := hv i hi
    obtain ⟨-, -, h2, h3, -⟩ := hT i hi
    have h6 := (hg.2.2.2.1 i hi).2.2.2.2.2.2.2.2.2
    have hni := hn i hi
    have hin : inb (nI i) 5 = true := inb_nI (by omega) (by omega)
    unfold B_X10_whoHas_2
    rw [e5, if_neg (nI_ge hi (by omega)), if_pos hin, clampI (by omega), h2]
    by_cases c : V.1 i 2 = 0
    · rw [if_pos c, if_pos rfl, bd_eq, nI_1]
      exact Or.inl ⟨rfl, ow_miss hP (fun q => by unfold wB at q; simp [c] at q)⟩
    rw [if_neg c, if_neg (nI_nm1 (by omega)), if_pos hin, (h3 (by omega)).1, r_chg h (by omega) (by omega), h2, if_neg c, Option.bind_some]
    by_cases c1 : chV L V i = 1
    · rw [if_pos c1, bd_eq, nI_1]
      exact Or.inl ⟨rfl, ow_miss hP (fun q => by unfold wB at q; simp [c1] at q)⟩
    · rw [if_neg c1]
      right
      rw [ow_hit hP (by unfold wB; simp [c1]; omega) hi, pk_m1])
    (fun k hP => by
      unfold B_X10_whoHas_2
      rw [e5, if_pos (Int32.le_refl _), hP]
      rfl)
    FU 0 (Nat.zero_le _) (by unfold FU; omega) rfl
  exact key
