/-! LIMITS, AND WHO IS LAWFUL -/
def lmN (β : Bw) (k t j : Nat) : Nat := match k with
  | 0 => β 4 t 1 - j
  | 1 => β 4 t 1 + j
  | 2 => (β 0 0 1 - j) / β 4 t 1
  | _ => (β 0 0 1 + j + β 4 t 1 - 1) / β 4 t 1
theorem neg_div : ∀ e, e < 61 → ∀ T, T < 61 → 4 ≤ T → ¬ 0 < ((0 - nI e) / nI T : Int32) := by decide +kernel
theorem neg_sub : ∀ Y, Y < 51 → ∀ j, j < 61 → Y < j → nI Y - nI j = 0 - nI (j - Y) := by decide +kernel
theorem c_limit {M : Mw} {β : Bw} {L : Lw} (hg : GB β L) (hB : CBd 1 M β L) {t j k : Nat} (ht : t < β 0 0 5) (hj : j ≤ β 4 t 1) (hk : k ≤ 3) : F_X3_limit 1 (nI t) (nI j) (nI k) M = some (nI (lmN β k t j)) := by
  have hT5 := hg.1.2.2.2.2
  have hY := hg.1.2.1
  obtain ⟨-, g4, g60, -⟩ := hg.2.2.2.1 t ht
  unfold F_X3_limit
  rw [if_pos (inb_nI (by omega) (by omega)), clampI (by omega), hB.2.2.1 t ht 1 (by omega), bd_eq]
  rcases (by omega : k = 0 ∨ k = 1 ∨ k = 2 ∨ k = 3) with rfl | rfl | rfl | rfl
  · rw [if_pos (show nI 0 = 0 by decide), pk_sub hj]
    rfl
  · rw [if_neg (show ¬ nI 1 = 0 by decide), if_pos (show nI 1 = 1 by decide), nI_add]
    rfl
  · rw [if_neg (show ¬ nI 2 = 0 by decide), if_neg (show ¬ nI 2 = 1 by decide), if_pos (show nI 2 = 2 by decide), hB.1 1 (by omega)]
    unfold F_X9_divideCut
    rw [if_neg (nI_nle (by omega) (by omega)), if_neg (nI_ne0 (by omega) (by omega)), Option.bind_some]
    by_cases c : j ≤ β 0 0 1
    · rw [pk_sub c, pk_div (by omega) (by omega) (by omega)]
      show some (if 0 < nI ((β 0 0 1 - j) / β 4 t 1) then nI ((β 0 0 1 - j) / β 4 t 1) else 0) = some (nI ((β 0 0 1 - j) / β 4 t 1))
      by_cases z : (β 0 0 1 - j) / β 4 t 1 = 0
      · rw [z]
        decide
      · have : (β 0 0 1 - j) / β 4 t 1 ≤ β 0 0 1 - j := Nat.div_le_self _ _
        rw [if_pos (show (0 : Int32) < nI ((β 0 0 1 - j) / β 4 t 1) from nI_lt (a := 0) (Nat.pos_of_ne_zero z) (Nat.lt_of_le_of_lt this (by omega)))]
    · rw [neg_sub _ (by omega) _ (by omega) (by omega), if_neg (neg_div _ (by omega) _ (by omega) g4)]
      show _ = some (nI ((β 0 0 1 - j) / β 4 t 1))
      rw [show β 0 0 1 - j = 0 by omega, Nat.zero_div]
      rfl
  · rw [if_neg (show ¬ nI 3 = 0 by decide), if_neg (show ¬ nI 3 = 1 by decide), if_neg (show ¬ nI 3 = 2 by decide), hB.1 1 (by omega), nI_add, c_div (by omega) (by omega) (by omega), Option.bind_some]
    rfl
theorem r_bound {M : Mw} {β : Bw} {L : Lw} {C : Nat → Nat → Nat} {msk : Nat → Nat} (hx : Gx β L) (hC : GC β C) (h : LwR M β L C msk) {t k : Nat} (ht : t < β 0 0 5) (hr : rsR β C msk t ≠ 0) (hk : k ≤ 3) : F_X10_boundOf (nI t) (nI k) M = some (nI (lmN β k t (rsR β C msk t - 1 - C 0 t))) := by
  have hg := hx.1
  have hT5 := hg.1.2.2.2.2
  have hY := hg.1.2.1
  obtain ⟨hw, h2⟩ := id h
  obtain ⟨e59, e58, e60, m32⟩ := h2 t ht
  obtain ⟨c0, c1, c104⟩ := hC t ht
  obtain ⟨-, g4, g60, -⟩ := hg.2.2.2.1 t ht
  have hb : C 1 t + 1 ≤ rsR β C msk t ∧ rsR β C msk t ≤ 1 + β 4 t 1 := by
    rcases rspF_b (C := C 1 t) (dem := dmR β C msk t) (fun b => Nat.le_add_right _ _) (β 4 t 1) 1 with z | z
    · exact absurd z hr
    · exact ⟨z.1, z.2.2⟩
  generalize hR : rsR β C msk t = R at hb hr
  have hj : R - 1 - C 0 t ≤ β 4 t 1 := by omega
  unfold F_X10_boundOf
  rw [r_resp hx hC h ht, Option.bind_some, if_pos (inb_nI (by omega) (by omega)), clampI (by omega), e59, hR]
  have e1 : nI R + (-1) - nI (C 0 t) = nI (R - 1 - C 0 t) := by
    obtain ⟨r, rfl⟩ : ∃ r, R = r + 1 := ⟨R - 1, by omega⟩
    rw [pk_m1, pk_sub (by omega)]
    rfl
  rw [e1, bd_eq]
  generalize R - 1 - C 0 t = j at hj
  rcases (by omega : k = 0 ∨ k = 1 ∨ k = 2 ∨ k = 3) with rfl | rfl | rfl | rfl
  · rw [if_pos (show nI 0 = 0 by decide), r_per hx hw ht, Option.bind_some, pk_sub hj]
    rfl
  · rw [if_neg (show ¬ nI 1 = 0 by decide), if_pos (show nI 1 = 1 by decide), r_per hx hw ht, Option.bind_some, nI_add]
    rfl
  · rw [if_neg (show ¬ nI 2 = 0 by decide), if_neg (show ¬ nI 2 = 1 by decide), if_pos (show nI 2 = 2 by decide), hw.1.2.1]
    by_cases c : j ≤ β 0 0 1
    · rw [if_pos (nI_le c (by omega)), r_per hx hw ht, Option.bind_some, if_neg (nI_ne0 (by omega) (by omega)), pk_sub c, pk_div (by omega) (by omega) (by omega)]
      rfl
    · rw [if_neg (nI_ge (by omega) (by omega))]
      show _ = some (nI ((β 0 0 1 - j) / β 4 t 1))
      rw [show β 0 0 1 - j = 0 by omega, Nat.zero_div]
      rfl
  · rw [if_neg (show ¬ nI 3 = 0 by decide), if_neg (show ¬ nI 3 = 1 by decide), if_neg (show ¬ nI 3 = 2 by decide), hw.1.2.1, r_per hx hw ht, Option.bind_some, Option.bind_some, if_neg (nI_ne0 (by omega) (by omega)), nI_add, nI_add, nI_predm (by omega), pk_div (by omega) (by omega) (by omega)]
    rfl
def lwB (β : Bw) (C : Nat → Nat → Nat) (R t : Nat) : Bool := decide (R ≠ 0 ∧ β 4 t 2 ≤ lmN β 0 t (R - 1 - C 0 t) ∧ lmN β 1 t (R - 1 - C 0 t) ≤ β 4 t 3 ∧ β 4 t 4 ≤ lmN β 2 t (R - 1 - C 0 t) ∧ lmN β 3 t (R - 1 - C 0 t) ≤ β 4 t 5)
theorem lm_le {β : Bw} {L : Lw} (hg : GB β L) {t j : Nat} (ht : t < β 0 0 5) (hj : j ≤ β 4 t 1) (k : Nat) : lmN β k t j ≤ 1000 := by
  have hY := hg.1.2.1
  obtain ⟨-, g4, g60, -⟩ := hg.2.2.2.1 t ht
  unfold lmN
  split
  · omega
  · omega
  · have := Nat.div_le_self (β 0 0 1 - j) (β 4 t 1)
    omega
  · have := Nat.div_le_self (β 0 0 1 + j + β 4 t 1 - 1) (β 4 t 1)
    omega
theorem c_isLaw {M : Mw} {β : Bw} {L : Lw} {C : Nat → Nat → Nat} {ord : Nat → Nat} (hg : GB β L) (hC : GC β C) (hB : CBd 1 M β L) (h : LwC M β C ord) {p : Nat} (hp : p < β 0 0 5) : F_X3_isLawful 1 (nI p) M = some (if lwB β C (rsC β C ord p) (ord p) = true then 1 else 0) := by
  have hT5 := hg.1.2.2.2.2
  have ho := h.2 p hp
  have ht := ho.2
  obtain ⟨c0, c1, c104⟩ := hC _ ht
  obtain ⟨-, g4, g60, g99, g23, g120, g20, g40, -⟩ := hg.2.2.2.1 (ord p) ht
  unfold F_X3_isLawful
  rw [c_resp hg hC hB h hp, Option.bind_some]
  have hb := rspF_b (C := C 1 (ord p)) (dem := dmC β C ord p) (fun b => Nat.le_add_right _ _) (β 4 (ord p) 1) 1
  have hb' : rsC β C ord p = 0 ∨ (C 1 (ord p) + 1 ≤ rsC β C ord p ∧ rsC β C ord p ≤ 1 + β 4 (ord p) 1) := by
    rcases hb with z | z
    · exact Or.inl z
    · exact Or.inr ⟨z.1, z.2.2⟩
  generalize rsC β C ord p = R at hb'
  by_cases cR : R = 0
  · rw [if_pos (show nI R + (-1) = -1 by rw [cR]; decide), if_neg (fun q => (of_decide_eq_true q).1 cR)]
  have hb2 : C 1 (ord p) + 1 ≤ R ∧ R ≤ 1 + β 4 (ord p) 1 := by omega
  rw [if_neg (nI_m1n cR (by omega)), if_pos (inb_nI (by omega) (by omega)), clampI (by omega), ho.1, bd_eq, if_pos (inb_nI (by omega) (by omega)), (h.1 _ ht).1, Option.bind_some]
  have e1 : nI R + (-1) - nI (C 0 (ord p)) = nI (R - 1 - C 0 (ord p)) := by
    obtain ⟨r, rfl⟩ : ∃ r, R = r + 1 := ⟨R - 1, by omega⟩
    rw [pk_m1, pk_sub (by omega)]
    rfl
  have hj : R - 1 - C 0 (ord p) ≤ β 4 (ord p) 1 := by omega
  rw [e1, bd_eq]
  have l0 : F_X3_limit 1 (nI (ord p)) (nI (R - 1 - C 0 (ord p))) 0 M = some (nI (lmN β 0 (ord p) (R - 1 - C 0 (ord p)))) := c_limit hg hB ht hj (k := 0) (by omega)
  have l1 : F_X3_limit 1 (nI (ord p)) (nI (R - 1 - C 0 (ord p))) 1 M = some (nI (lmN β 1 (ord p) (R - 1 - C 0 (ord p)))) := c_limit hg hB ht hj (k := 1) (by omega)
  have l2 : F_X3_limit 1 (nI (ord p)) (nI (R - 1 - C 0 (ord p))) 2 M = some (nI (lmN β 2 (ord p) (R - 1 - C 0 (ord p)))) := c_limit hg hB ht hj (k := 2) (by omega)
  have l3 : F_X3_limit 1 (nI (ord p)) (nI (R - 1 - C 0 (ord p))) 3 M = some (nI (lmN β 3 (ord p) (R - 1 - C 0 (ord p)))) := c_limit hg hB ht hj (k := 3) (by omega)
  have b0 := lm_le hg ht hj 0
  have b1 := lm_le hg ht hj 1
  have b2 := lm_le hg ht hj 2
  have b3 := lm_le hg ht hj 3
  rw [l0, Option.bind_some, clampI (by omega), hB.2.2.1 _ ht 2 (by omega)]
  by_cases x0 : β 4 (ord p) 2 ≤ lmN β 0 (ord p) (R - 1 - C 0 (ord p))
  case neg => rw [if_pos (nI_lt (by omega) (by omega)), if_neg (fun q => x0 (of_decide_eq_true q).2.1)]
  rw [if_neg (nI_nlt x0 (by omega)), l1, Option.bind_some, hB.2.2.1 _ ht 3 (by omega)]
  by_cases x1 : lmN β 1 (ord p) (R - 1 - C 0 (ord p)) ≤ β 4 (ord p) 3
  case neg => rw [if_pos (nI_lt (by omega) (by omega)), if_neg (fun q => x1 (of_decide_eq_true q).2.2.1)]
  rw [if_neg (nI_nlt x1 (by omega)), l2, Option.bind_some, hB.2.2.1 _ ht 4 (by omega)]
  by_cases x2 : β 4 (ord p) 4 ≤ lmN β 2 (ord p) (R - 1 - C 0 (ord p))
  case neg => rw [if_pos (nI_lt (by omega) (by omega)), if_neg (fun q => x2 (of_decide_eq_true q).2.2.2.1)]
  rw [if_neg (nI_nlt x2 (by omega)), l3, Option.bind_some, hB.2.2.1 _ ht 5 (by omega)]
  by_cases x3 : lmN β 3 (ord p) (R - 1 - C 0 (ord p)) ≤ β 4 (ord p) 5
  case neg => rw [if_pos (nI_lt (by omega) (by omega)), if_neg (fun q => x3 (of_decide_eq_true q).2.2.2.2)]
  rw [if_neg (nI_nlt x3 (by omega)), if_pos (show lwB β C R (ord p) = true from decide_eq_true ⟨cR, x0, x1, x2, x3⟩)]
theorem r_isLaw {M : Mw} {β : Bw} {L : Lw} {C : Nat → Nat → Nat} {msk : Nat → Nat} (hx : Gx β L) (hC : GC β C) (h : LwR M β L C msk) {t : Nat} (ht : t < β 0 0 5) : F_X10_isLawful (nI t) M = some (if lwB β C (rsR β C msk t) t = true then 1 else 0) := by
  have hg := hx.1
  have hT5 := hg.1.2.2.2.2
  have hw := h.1
  obtain ⟨c0, c1, c104⟩ := hC _ ht
  obtain ⟨-, g4, g60, g99, g23, g120, g20, g40, -⟩ := hg.2.2.2.1 t ht
  unfold F_X10_isLawful
  rw [r_resp hx hC h ht, Option.bind_some]
  have hb' : rsR β C msk t = 0 ∨ (C 1 t + 1 ≤ rsR β C msk t ∧ rsR β C msk t ≤ 1 + β 4 t 1) := by
    rcases rspF_b (C := C 1 t) (dem := dmR β C msk t) (fun b => Nat.le_add_right _ _) (β 4 t 1) 1 with z | z
    · exact Or.inl z
    · exact Or.inr ⟨z.1, z.2.2⟩
  by_cases cR : rsR β C msk t = 0
  · rw [if_pos (show nI (rsR β C msk t) + (-1) = -1 by rw [cR]; decide), if_neg (fun q => (of_decide_eq_true q).1 cR)]
  have l0 : F_X10_boundOf (nI t) 0 M = some (nI (lmN β 0 t (rsR β C msk t - 1 - C 0 t))) := r_bound hx hC h ht cR (k := 0) (by omega)
  have l1 : F_X10_boundOf (nI t) 1 M = some (nI (lmN β 1 t (rsR β C msk t - 1 - C 0 t))) := r_bound hx hC h ht cR (k := 1) (by omega)
  have l2 : F_X10_boundOf (nI t) 2 M = some (nI (lmN β 2 t (rsR β C msk t - 1 - C 0 t))) := r_bound hx hC h ht cR (k := 2) (by omega)
  have l3 : F_X10_boundOf (nI t) 3 M = some (nI (lmN β 3 t (rsR β C msk t - 1 - C 0 t))) := r_bound hx hC h ht cR (k := 3) (by omega)
  have d2 : F_X10_toldOf (nI t) 2 M = some (nI (β 4 t 2)) := r_toldW hx hw ht (j := 2) (by omega)
  have d3 : F_X10_toldOf (nI t) 3 M = some (nI (β 4 t 3)) := r_toldW hx hw ht (j := 3) (by omega)
  have d4 : F_X10_toldOf (nI t) 4 M = some (nI (β 4 t 4)) := r_toldW hx hw ht (j := 4) (by omega)
  have d5 : F_X10_toldOf (nI t) 5 M = some (nI (β 4 t 5)) := r_toldW hx hw ht (j := 5) (by omega)
  generalize rsR β C msk t = R at hb' cR l0 l1 l2 l3
  have hb2 : C 1 t + 1 ≤ R ∧ R ≤ 1 + β 4 t 1 := by omega
  have hj : R - 1 - C 0 t ≤ β 4 t 1 := by omega
  have b0 := lm_le hg ht hj 0
  have b1 := lm_le hg ht hj 1
  have b2 := lm_le hg ht hj 2
  have b3 := lm_le hg ht hj 3
  rw [if_neg (nI_m1n cR (by omega)), d2, Option.bind_some, l0, Option.bind_some]
  by_cases x0 : β 4 t 2 ≤ lmN β 0 t (R - 1 - C 0 t)
  case neg => rw [if_pos (nI_lt (by omega) (by omega)), if_neg (fun q => x0 (of_decide_eq_true q).2.1)]
  rw [if_neg (nI_nlt x0 (by omega)), d3, Option.bind_some, l1, Option.bind_some]
  by_cases x1 : lmN β 1 t (R - 1 - C 0 t) ≤ β 4 t 3
  case neg => rw [if_pos (nI_lt (by omega) (by omega)), if_neg (fun q => x1 (of_decide_eq_true q).2.2.1)]
  rw [if_neg (nI_nlt x1 (by omega)), d4, Option.bind_some, l2, Option.bind_some]
  by_cases x2 : β 4 t 4 ≤ lmN β 2 t (R - 1 - C 0 t)
  case neg => rw [if_pos (nI_lt (by omega) (by omega)), if_neg (fun q => x2 (of_decide_eq_true q).2.2.2.1)]
  rw [if_neg (nI_nlt x2 (by omega)), d5, Option.bind_some, l3, Option.bind_some]
  by_cases x3 : lmN β 3 t (R - 1 - C 0 t) ≤ β 4 t 5
  case neg => rw [if_pos (nI_lt (by omega) (by omega)), if_neg (fun q => x3 (of_decide_eq_true q).2.2.2.2)]
  rw [if_neg (nI_nlt x3 (by omega)), if_pos (show lwB β C R t = true from decide_eq_true ⟨cR, x0, x1, x2, x3⟩)]
/-- the lawful ones as bits -/
def lbI (law : Nat → Bool) : Nat → Int32
  | 0 => 0
  | n + 1 => if law n = true then lbI law n ||| (1 <<< (nI n &&& 31)) else lbI law n
theorem lbI_c {f g : Nat → Bool} : ∀ n, (∀ i, i < n → f i = g i) → lbI f n = lbI g n := by
  intro n
  induction n with
  | zero => intro _; rfl
  | succ n ih =>
    intro h
    show (if f n = true then lbI f n ||| _ else lbI f n) = (if g n = true then lbI g n ||| _ else lbI g n)
    rw [ih (fun i hi => h i (by omega)), h n (by omega)]
theorem c_lineUp {M : Mw} {T : Nat} (hT : T ≤ 5) : ∃ M', F_X3_lineUp (nI T) M = some M' ∧ Fr (fun κ _ => κ = 22) M M' ∧ ∀ i, i < T → M'.1 22 0 0 i = nI i := by
  have key := it_for (z := fun _ _ => none) (B := B_X3_lineUp_2 (nI T)) (n := T) (P := fun n M1 => Fr (fun κ _ => κ = 22) M M1 ∧ ∀ i, i < n → M1.1 22 0 0 i = nI i) (Q := fun o => ∃ M', o = some M' ∧ Fr (fun κ _ => κ = 22) M M' ∧ ∀ i, i < T → M'.1 22 0 0 i = nI i)
    (fun kk n M1 hn hP => by
      obtain ⟨p1, p2⟩ := hP
      left
      unfold B_X3_lineUp_2
      rw [if_neg (nI_ge hn (by omega)), if_neg (show ¬ (5 : Int32) ≤ nI n from nI_ge (b := 5) (by omega) (by omega)), if_pos (inb_nI (by omega) (by omega)), clampI (by omega), bd_eq, nI_1, bd_eq]
      refine ⟨_, rfl, p1.trans (Fr.uI rfl), fun i hi => ?_⟩
      rw [uI1]
      by_cases z : i = n
      · rw [if_pos ⟨rfl, rfl, rfl, z⟩, z]
      · rw [if_neg (fun y => z y.2.2.2)]
        exact p2 i (by omega))
    (fun kk M1 hP => by
      obtain ⟨p1, p2⟩ := hP
      unfold B_X3_lineUp_2
      rw [if_pos (Int32.le_refl _)]
      exact ⟨M1, rfl, p1, p2⟩)
    FU 0 M (Nat.zero_le _) (by unfold FU; omega) ⟨Fr.rfl, fun i hi => by omega⟩
  rw [nI_0] at key
  exact key
theorem costOf_fr {M M' : Mw} (h : Fr (fun κ _ => κ = 22) M M') (t k : Int32) : F_X3_costOf 1 t k M' = F_X3_costOf 1 t k M := by
  unfold F_X3_costOf
  rw [h.k1 (κ := 21) (fun b => by omega), h.k1 (κ := 10) (fun b => by omega)]
theorem c_lawBits {M : Mw} {β : Bw} {L : Lw} {C : Nat → Nat → Nat} (hg : GB β L) (hC : GC β C) (hB : CBd 1 M β L) (h1 : ∀ t, t < β 0 0 5 → F_X3_costOf 1 (nI t) 0 M = some (nI (C 0 t)) ∧ F_X3_costOf 1 (nI t) 1 M = some (nI (C 1 t))) :
    ∃ M', F_X3_lawfulBits 1 M = some (lbI (fun t => lwB β C (rsC β C id t) t) (β 0 0 5), M') ∧ Fr (fun κ _ => κ = 22) M M' := by
  have hT5 := hg.1.2.2.2.2
  obtain ⟨M1, q1, q2, q3⟩ := c_lineUp (M := M) hT5
  have hB1 : CBd 1 M1 β L := hB.fr (fun κ hκ => (q2 κ 1 (fun z => by omega)).1)
  have hLw : LwC M1 β C id := ⟨fun t ht => by rw [costOf_fr q2, costOf_fr q2]; exact h1 t ht, fun p hp => ⟨q3 p hp, hp⟩⟩
  refine ⟨M1, ?_, q2⟩
  unfold F_X3_lawfulBits
  rw [hB.1 5 (by omega), q1, Option.bind_some]
  exact it_forA (z := fun _ _ => none) (B := B_X3_lawfulBits_12 1 M1) (n := β 0 0 5) (P := fun i a => a = lbI (fun t => lwB β C (rsC β C id t) t) i) (Q := fun o => o = some (lbI (fun t => lwB β C (rsC β C id t) t) (β 0 0 5), M1))
    (fun kk i a hi hP => by
      left
      unfold B_X3_lawfulBits_12
      rw [hP, hB1.1 5 (by omega), if_neg (nI_ge hi (by omega)), c_isLaw hg hC hB1 hLw hi, Option.bind_some]
      show ∃ a', _ ∧ a' = (if lwB β C (rsC β C id i) i = true then lbI (fun t => lwB β C (rsC β C id t) t) i ||| (1 <<< (nI i &&& 31)) else lbI (fun t => lwB β C (rsC β C id t) t) i)
      by_cases c : lwB β C (rsC β C id i) i = true
      · rw [show (if lwB β C (rsC β C id i) (id i) = true then (1 : Int32) else 0) = 1 from if_pos c, if_neg (show ¬ (1 : Int32) = 0 by decide), bd_eq, nI_1, bd_eq, if_pos c]
        exact ⟨_, rfl, rfl⟩
      · rw [show (if lwB β C (rsC β C id i) (id i) = true then (1 : Int32) else 0) = 0 from if_neg c, if_pos rfl, nI_1, bd_eq, if_neg c]
        exact ⟨_, rfl, rfl⟩)
    (fun kk a hP => by
      unfold B_X3_lawfulBits_12
      rw [hP, hB1.1 5 (by omega), if_pos (Int32.le_refl _)])
    FU 0 0 (Nat.zero_le _) (by unfold FU; omega) rfl
theorem r_lawBits {M : Mw} {β : Bw} {L : Lw} {C : Nat → Nat → Nat} {msk : Nat → Nat} (hx : Gx β L) (hC : GC β C) (h : LwR M β L C msk) : F_X10_lawfulNow M = some (lbI (fun t => lwB β C (rsR β C msk t) t) (β 0 0 5)) := by
  have hT5 := hx.1.1.2.2.2.2
  unfold F_X10_lawfulNow
  exact it_forA (z := fun _ _ => none) (B := B_X10_lawfulNow_4 M) (n := β 0 0 5) (P := fun i a => a = lbI (fun t => lwB β C (rsR β C msk t) t) i) (Q := fun o => o = some (lbI (fun t => lwB β C (rsR β C msk t) t) (β 0 0 5)))
    (fun kk i a hi hP => by
      left
      unfold B_X10_lawfulNow_4
      rw [hP, h.1.1.2.2.2.2.1, if_neg (nI_ge hi (by omega)), r_isLaw hx hC h hi, Option.bind_some]
      show ∃ a', _ ∧ a' = (if lwB β C (rsR β C msk i) i = true then lbI (fun t => lwB β C (rsR β C msk t) t) i ||| (1 <<< (nI i &&& 31)) else lbI (fun t => lwB β C (rsR β C msk t) t) i)
      by_cases c : lwB β C (rsR β C msk i) i = true
      · rw [show (if lwB β C (rsR β C msk i) i = true then (1 : Int32) else 0) = 1 from if_pos c, if_neg (show ¬ (1 : Int32) = 0 by decide), bd_eq, nI_1, bd_eq, if_pos c]
        exact ⟨_, rfl, rfl⟩
      · rw [show (if lwB β C (rsR β C msk i) i = true then (1 : Int32) else 0) = 0 from if_neg c, if_pos rfl, bd_eq, nI_1, bd_eq, if_neg c]
        exact ⟨_, rfl, Int32.or_zero⟩)
    (fun kk a hP => by
      unfold B_X10_lawfulNow_4
      rw [hP, h.1.1.2.2.2.2.1, if_pos (Int32.le_refl _)])
    FU 0 0 (Nat.zero_le _) (by unfold FU; omega) rfl
/-- the same tasks ahead: the same response -/
theorem dms_ord {f : Nat → Nat} {ord : Nat → Nat} {T : Nat} : ∀ p, p ≤ T → (∀ p1 p2, p1 < T → p2 < T → ord p1 = ord p2 → p1 = p2) → (∀ p1, p1 < T → ord p1 < T) → ∀ m : Nat → Bool, (∀ i, i < T → (m i = true ↔ ∃ p', p' < p ∧ ord p' = i)) → dms (fun i => if m i = true then f i else 0) T = dms (fun i => f (ord i)) p := by
  intro p
  induction p with
  | zero =>
    intro _ _ _ m hm
    exact dms_0 T (fun i hi => if_neg (fun q => by obtain ⟨p', h1, -⟩ := (hm i hi).mp q; omega))
  | succ p ih =>
    intro hp hinj hlt m hm
    show _ = dms (fun i => f (ord i)) p + f (ord p)
    rw [← ih (by omega) hinj hlt (fun i => m i && decide (i ≠ ord p)) (fun i hi => by
      rw [Bool.and_eq_true, hm i hi, decide_eq_true_iff]
      constructor
      · rintro ⟨⟨p', h1, h2⟩, h3⟩
        refine ⟨p', ?_, h2⟩
        by_cases z : p' = p
        · rw [z] at h2
          exact absurd h2.symm h3
        · omega
      · rintro ⟨p', h1, h2⟩
        refine ⟨⟨p', by omega, h2⟩, fun z => ?_⟩
        have := hinj p' p (by omega) (by omega) (by rw [h2, z])
        omega)]
    rw [dms_c T (g := fun i => (if (m i && decide (i ≠ ord p)) = true then f i else 0) + (if i = ord p then f i else 0)) (fun i hi => by
      by_cases z : i = ord p
      · have hmi : m i = true := (hm i hi).mpr ⟨p, by omega, z.symm⟩
        rw [if_pos hmi, if_pos z, if_neg (by rw [z]; simp), Nat.zero_add]
      · rw [if_neg z, Nat.add_zero]
        by_cases y : m i = true
        · rw [if_pos y, if_pos (by rw [y]; simp [z])]
        · rw [if_neg y, if_neg (by simp [y])])]
    rw [dms_a, dms_1 (f := f), if_pos (hlt p (by omega))]
theorem rs_eq {β : Bw} {C : Nat → Nat → Nat} {ord msk : Nat → Nat} {p : Nat} (hp : p < β 0 0 5) (hinj : ∀ p1 p2, p1 < β 0 0 5 → p2 < β 0 0 5 → ord p1 = ord p2 → p1 = p2) (hlt : ∀ p1, p1 < β 0 0 5 → ord p1 < β 0 0 5) (hm : ∀ i, i < β 0 0 5 → ((msk (ord p)).testBit i = true ↔ ∃ p', p' < p ∧ ord p' = i)) : rsR β C msk (ord p) = rsC β C ord p := by
  unfold rsR rsC
  have : dmR β C msk (ord p) = dmC β C ord p := by
    funext b
    unfold dmR dmC
    rw [dms_ord (f := trm β (C 1) b) p (by omega) hinj hlt (fun i => (msk (ord p)).testBit i) hm]
  rw [this]
