/-! WORDS -/
def chv (t i : Nat) : Int32 := (((chStW t i) &&& 255).toUInt32 % 65536).toInt32
def mtA (S : Nat) (f : Nat → Nat) (a t : Nat) : Bool := (List.range (lenStW t)).all (fun i => decide (nI (f (frP S f a + i)) = chv t i))
def mtP (S : Nat) (f : Nat → Nat) (a t : Nat) : Bool := decide (kdP S f a = 0) && decide (enP S f a - frP S f a = lenStW t) && mtA S f a t
theorem st_len : ∀ t, t < 24 → 0 < lenStW t ∧ lenStW t ≤ 7 := by decide +kernel
theorem st_chr : ∀ t, t < 24 → ∀ i, i < lenStW t → (((chv t i).toUInt32 % 65536).toInt32 = chv t i) := by decide +kernel
theorem st_ne : ∀ t, t < 24 → ∀ u, u < 24 → lenStW t = lenStW u → (∀ i, i < lenStW t → chv t i = chv u i) → t = u := by decide +kernel
theorem st_length (t : Nat) (M : Mw) : F_J0_length_8abf5 t M = some (nI (lenStW t)) := by
  unfold F_J0_length_8abf5 F_J0_coder_7d493
  rw [if_neg (by decide), Option.bind_some]
  refine congrArg some ?_
  show nI (lenStW t) >>> ((0 : Int32) &&& 31) = _
  rw [show ((0 : Int32) &&& 31) = 0 by decide, Int32.shiftRight_zero]
theorem st_charAt {t i : Nat} (ht : t < 24) (hi : i < lenStW t) (M : Mw) : F_J0_charAt_5068e t (nI i) M = some (chv t i) := by
  have hl := (st_len t ht).2
  have h1 : F_J1_charAt_3b067 t (nI i) M = some (chv t i) := by
    unfold F_J1_charAt_3b067 F_J0_checkIndex_df160 F_J3_checkIndex_8e157
    rw [if_neg (nI_pos (by omega)), if_pos (nI_lt hi (by omega)), Option.bind_some, Option.bind_some, if_pos (inb_nI hi (by omega)), clampI (by omega)]
    rfl
  unfold F_J0_charAt_5068e F_J0_isLatin1_aae02
  rw [if_neg (by decide), if_pos rfl, Option.bind_some, if_neg (by decide), h1, Option.bind_some, if_pos (st_chr t ht i hi)]
theorem mtA_t {S a t : Nat} {f : Nat → Nat} (h : mtA S f a t = true) : ∀ i, i < lenStW t → nI (f (frP S f a + i)) = chv t i := by
  intro i hi
  unfold mtA at h
  rw [List.all_eq_true] at h
  exact of_decide_eq_true (h i (List.mem_range.mpr hi))
theorem mtA_f {S a t i : Nat} {f : Nat → Nat} (hi : i < lenStW t) (h : ¬ nI (f (frP S f a + i)) = chv t i) : mtA S f a t = false := by
  cases e : mtA S f a t with
  | false => rfl
  | true => exact absurd (mtA_t e i hi) h
theorem mtA_of {S a t : Nat} {f : Nat → Nat} (h : ∀ i, i < lenStW t → nI (f (frP S f a + i)) = chv t i) : mtA S f a t = true := by
  unfold mtA
  rw [List.all_eq_true]
  intro i hi
  exact decide_eq_true (h i (List.mem_range.mp hi))
theorem mtP_ne {S a t u : Nat} {f : Nat → Nat} (ht : t < 24) (hu : u < 24) (h1 : mtP S f a t = true) (h2 : mtP S f a u = true) : t = u := by
  unfold mtP at h1 h2
  rw [Bool.and_eq_true, Bool.and_eq_true] at h1 h2
  have l1 := of_decide_eq_true h1.1.2
  have l2 := of_decide_eq_true h2.1.2
  exact st_ne t ht u hu (by omega) (fun i hi => by rw [← mtA_t h1.2 i hi, ← mtA_t h2.2 i (by omega)])
theorem c_isWord {M : Mw} {S a t : Nat} {f : Nat → Nat} (h : CTp M S f) (ha : a ≤ S) (hk : CTk M S f a) (ht : t < 24) : F_X6_isWord t M = some (if mtP S f a t = true then 1 else 0) := by
  have hf' : ∀ j, j < S → f j < 256 := fun j _ => h.2.1 j
  have hS := h.1
  obtain ⟨he1, he2, he3⟩ := enP_le hf' ha
  obtain ⟨k5, k4⟩ := kdP_5 hf' a
  have hl := st_len t ht
  obtain ⟨k2, k3, kk4, kk5⟩ := hk
  unfold F_X6_isWord
  rw [k2]
  by_cases c0 : kdP S f a = 0
  case neg =>
    rw [if_neg (show ¬ nI (kdP S f a) = 0 from mt (nI_eq (b := 0) (by omega) (by omega)).mp c0)]
    unfold mtP
    rw [decide_eq_false c0, Bool.false_and, Bool.false_and]
    rfl
  rw [if_pos (show nI (kdP S f a) = 0 by rw [c0]; rfl), st_length, Option.bind_some, kk4, k3, pk_sub he1]
  by_cases c1 : enP S f a - frP S f a = lenStW t
  case neg =>
    rw [if_neg (mt (nI_eq (by omega) (by omega)).mp c1)]
    unfold mtP
    rw [decide_eq_false c1, Bool.and_false, Bool.false_and]
    rfl
  rw [if_pos (by rw [c1])]
  have em : mtP S f a t = mtA S f a t := by
    unfold mtP
    rw [decide_eq_true c0, decide_eq_true c1, Bool.true_and, Bool.true_and]
  rw [em]
  have key := it_forN (z := fun _ => none) (B := B_X6_isWord_27 t M) (n := lenStW t) (P := fun i => ∀ i', i' < i → nI (f (frP S f a + i')) = chv t i')
    (Q := fun o => o = some (if mtA S f a t = true then (1 : Int32) else 0))
    (fun kk i hi hP => by
      unfold B_X6_isWord_27
      rw [st_length, Option.bind_some, if_neg (nI_ge hi (by omega)), k3, nI_add, if_pos (inb_nI (by omega) (by omega)), st_charAt ht hi, Option.bind_some, clampI (by omega), h.2.2.1 _ (by omega)]
      by_cases c : nI (f (frP S f a + i)) = chv t i
      · left
        rw [if_pos c, bd_eq, nI_1]
        refine ⟨rfl, fun i' hi' => ?_⟩
        by_cases z : i' = i
        · rw [z]; exact c
        · exact hP i' (by omega)
      · right
        rw [if_neg c, mtA_f hi c]
        rfl)
    (fun kk hP => by
      unfold B_X6_isWord_27
      rw [st_length, Option.bind_some, if_pos (Int32.le_refl _), mtA_of hP]
      rfl)
    FU 0 (Nat.zero_le _) (by unfold FU; omega) (fun i' hi' => by omega)
  rw [nI_0] at key
  exact key
theorem r_good1 {M : Mw} (h : M.1 50 0 0 12 = 0) : F_X10_good M = some 1 := by
  unfold F_X10_good
  rw [if_pos h]
theorem r_good0 {M : Mw} (h : M.1 50 0 0 12 ≠ 0) : F_X10_good M = some 0 := by
  unfold F_X10_good
  rw [if_neg h]
theorem r_is0 {M : Mw} {t : Nat} (ht : t < 24) : B_X10_is_35 t M = some 0 := by
  have hl := st_len t ht
  unfold B_X10_is_35 B_X10_is_36
  rw [it_FU]
  unfold B_X10_is_39
  rw [st_length, Option.bind_some, if_neg (show ¬ nI (lenStW t) ≤ 0 from nI_nle hl.1 (by omega)), if_pos rfl, if_pos (by decide)]
theorem r_isBad {M : Mw} {t : Nat} (ht : t < 24) (h : M.1 50 0 0 12 ≠ 0) : F_X10_is t M = some 0 := by
  unfold F_X10_is
  rw [r_good0 h, Option.bind_some, if_pos rfl, r_is0 ht]
theorem r_is {M : Mw} {S a t : Nat} {f : Nat → Nat} (h : RTp M S f) (ha : a ≤ S) (hk : RTk M S f a) (ht : t < 24) (hg : M.1 50 0 0 12 = 0) : F_X10_is t M = some (if mtP S f a t = true then 1 else 0) := by
  have hf' : ∀ j, j < S → f j < 256 := fun j _ => h.2.1 j
  have hS := h.1
  obtain ⟨he1, he2, he3⟩ := enP_le hf' ha
  obtain ⟨k5, k4⟩ := kdP_5 hf' a
  have hl := st_len t ht
  obtain ⟨k8, k9, k10, k11⟩ := hk
  unfold F_X10_is
  rw [r_good1 hg, Option.bind_some, if_neg (show ¬ (1 : Int32) = 0 by decide), k10]
  by_cases c0 : kdP S f a = 0
  case neg =>
    have hn : ¬ nI (tkR (kdP S f a)) = 1 := by
      unfold tkR
      by_cases z : kdP S f a = 4
      · rw [if_pos z]; decide
      · rw [if_neg z]
        exact mt (nI_eq (b := 1) (by omega) (by omega)).mp (by omega)
    rw [if_neg hn, r_is0 ht]
    unfold mtP
    rw [decide_eq_false c0, Bool.false_and, Bool.false_and]
    rfl
  rw [if_pos (show nI (tkR (kdP S f a)) = 1 by rw [c0]; rfl), st_length, Option.bind_some, k8, k9, pk_sub he1]
  by_cases c1 : enP S f a - frP S f a = lenStW t
  case neg =>
    rw [if_neg (mt (nI_eq (by omega) (by omega)).mp c1), r_is0 ht]
    unfold mtP
    rw [decide_eq_false c1, Bool.and_false, Bool.false_and]
    rfl
  rw [if_pos (by rw [c1])]
  have em : mtP S f a t = mtA S f a t := by
    unfold mtP
    rw [decide_eq_true c0, decide_eq_true c1, Bool.true_and, Bool.true_and]
  rw [em]
  have hen : enP S f a = rnW isLt S f (frP S f a) := by
    unfold enP
    rw [if_neg (by omega), if_pos c0]
  have hlow : ∀ i, i < lenStW t → f (frP S f a + i) < 128 ∧ frP S f a + i < S := by
    intro i hi
    obtain ⟨s1, s2, s3⟩ := rnW_spec (q := isLt) (S := S) (f := f) (frP S f a)
    rw [← hen] at s2
    obtain ⟨x1, x2⟩ := s2 (frP S f a + i) (by omega) (by omega)
    unfold isLt at x2
    rw [Bool.and_eq_true] at x2
    have := of_decide_eq_true x2.2
    exact ⟨by omega, x1⟩
  -- behind the first letter that differs
  have hz : ∀ (kk : Int32 → Int32 → Option Int32) (i : Nat), i ≤ lenStW t → B_X10_is_39 t M kk 0 (nI i) = some 0 := by
    intro kk i hi
    unfold B_X10_is_39
    rw [st_length, Option.bind_some]
    by_cases c : lenStW t ≤ i
    · rw [if_pos (nI_le c (by omega)), if_pos (by decide)]
    · rw [if_neg (nI_ge (by omega) (by omega)), if_pos rfl, if_pos (by decide)]
  have key : ∀ (fu i : Nat), i ≤ lenStW t → lenStW t < i + fu → (∀ i', i' < i → nI (f (frP S f a + i')) = chv t i') → it (fun _ _ => none) (B_X10_is_39 t M) fu 1 (nI i) = some (if mtA S f a t = true then (1 : Int32) else 0) := by
    intro fu
    induction fu with
    | zero => intro i h1 h2; omega
    | succ fu ih =>
      intro i h1 h2 hP
      rw [it_succ]
      generalize hkk : it (fun _ _ => none) (B_X10_is_39 t M) fu = kk
      unfold B_X10_is_39
      rw [st_length, Option.bind_some]
      by_cases ci : i < lenStW t
      · obtain ⟨x1, x2⟩ := hlow i ci
        rw [if_neg (nI_ge ci (by omega)), if_neg (show ¬ (1 : Int32) = 0 by decide), k9, nI_add, if_pos (inb_nI (by omega) (by omega)), st_charAt ht ci, Option.bind_some, clampI (by omega), (h.2.2.1 _ x2).2 x1]
        by_cases c : nI (f (frP S f a + i)) = chv t i
        · rw [if_pos c, bd_eq, nI_1, ← hkk]
          refine ih (i + 1) ci (by omega) (fun i' hi' => ?_)
          by_cases z : i' = i
          · rw [z]; exact c
          · exact hP i' (by omega)
        · rw [if_neg c, bd_eq, nI_1, mtA_f ci c, ← hkk]
          cases fu with
          | zero => omega
          | succ fu =>
            rw [it_succ, hz _ (i + 1) ci]
            rfl
      · obtain rfl : i = lenStW t := by omega
        rw [if_pos (Int32.le_refl _), if_pos (by decide), mtA_of hP]
        rfl
  unfold B_X10_is_36
  have := key FU 0 (Nat.zero_le _) (by unfold FU; omega) (fun i' hi' => by omega)
  rw [nI_0] at this
  exact this
