/-! WHO SLEEPS -/
def slp (L : Lw) (W k u : Int32) : Bool := match L with
  | [] => false
  | r :: L => if r.1 = 5 ∧ r.2.1 = W ∧ r.2.2.1 ≤ k ∧ u < r.2.2.1 then true else slp L W k u
theorem slp_hitT {L : Lw} {a b c d e : Int32} {W k u : Int32} (h : a = 5 ∧ b = W ∧ c ≤ k ∧ u < c) : slp ((a, b, c, d, e) :: L) W k u = true := if_pos h
theorem slp_missT {L : Lw} {a b c d e : Int32} {W k u : Int32} (h : ¬ (a = 5 ∧ b = W ∧ c ≤ k ∧ u < c)) : slp ((a, b, c, d, e) :: L) W k u = slp L W k u := if_neg h
theorem slp_hitF {L : Lw} {f : Nat → Int32} {W k u : Int32} (h : f 0 = 5 ∧ f 1 = W ∧ f 2 ≤ k ∧ u < f 2) : slp (row5 f :: L) W k u = true := if_pos h
theorem slp_missF {L : Lw} {f : Nat → Int32} {W k u : Int32} (h : ¬ (f 0 = 5 ∧ f 1 = W ∧ f 2 ≤ k ∧ u < f 2)) : slp (row5 f :: L) W k u = slp L W k u := if_neg h
theorem c_asleep {b : Nat} {M : Mw} {β : Bw} {L : Lw} {w k u : Nat} (hl : L.length ≤ 19) (h : CBd (b + 5) M β L) (hw : w < 3) (hk : M.1 23 b 0 6 = nI k) (hu : M.1 33 b 0 w = nI u + (-1)) : F_X5_isAsleep b (nI w) M = some (if slp L (nI w) (nI k) (nI u + (-1)) = true then 1 else 0) := by
  obtain ⟨-, ⟨ca, cc, h6, h7, hl'⟩, -, -, -, -, hr⟩ := h
  have hn : M.1 0 (b + 5) 0 6 + M.1 0 (b + 5) 0 7 = nI L.length := by rw [h6, h7, nI_add, hl']
  have key : it (fun _ => none) (B_X5_isAsleep_2 b (nI w) M) FU (nI 0) = some (if slp L (nI w) (nI k) (nI u + (-1)) = true then 1 else 0) := it_forN (n := L.length) (P := fun i => slp (L.drop i) (nI w) (nI k) (nI u + (-1)) = slp L (nI w) (nI k) (nI u + (-1))) (Q := fun o => o = some (if slp L (nI w) (nI k) (nI u + (-1)) = true then 1 else 0)) (fun kk i hi hP => by
    unfold B_X5_isAsleep_2
    rw [hn, if_neg (nI_ge hi (by omega)), if_pos (inb_nI (by omega) (by omega)), clampI (by omega), if_pos (inb_nI (by omega) (by omega)), clampI (by omega), hk, hu]
    simp only [bd_eq, nI_1]
    rw [drop_row (hr i hi)] at hP
    clear hr
    generalize M.1 12 (b + 5) i = f at hP ⊢
    by_cases c1 : f 0 = 5
    case neg =>
      rw [if_neg c1]
      rw [slp_missF (fun q => c1 q.1)] at hP
      exact Or.inl ⟨rfl, hP⟩
    rw [if_pos c1]
    by_cases c2 : f 1 = nI w
    case neg =>
      rw [if_neg c2]
      rw [slp_missF (fun q => c2 q.2.1)] at hP
      exact Or.inl ⟨rfl, hP⟩
    rw [if_pos c2]
    by_cases c3 : nI k < f 2
    · rw [if_pos c3]
      rw [slp_missF (fun q => absurd q.2.2.1 (Int32.not_le.mpr c3))] at hP
      exact Or.inl ⟨rfl, hP⟩
    rw [if_neg c3]
    by_cases c4 : f 2 ≤ nI u + (-1)
    · rw [if_pos c4]
      rw [slp_missF (fun q => Int32.not_lt.mpr c4 q.2.2.2)] at hP
      exact Or.inl ⟨rfl, hP⟩
    rw [if_neg c4]
    rw [slp_hitF ⟨c1, c2, Int32.not_lt.mp c3, Int32.not_le.mp c4⟩] at hP
    exact Or.inr (by rw [← hP]; rfl)) (fun kk hP => by
    unfold B_X5_isAsleep_2
    rw [hn, if_pos (nI_le (Nat.le_refl _) (by omega))]
    rw [List.drop_length] at hP
    rw [← hP]
    rfl) FU 0 (Nat.zero_le _) (by unfold FU; omega) (by rw [List.drop_zero])
  rw [nI_0] at key
  exact key
theorem m1_lt {u x : Nat} (hu : u < 2 ^ 31) (hx : x < 2 ^ 31) : nI u + (-1) < nI x ↔ u ≤ x := by
  cases u with
  | zero =>
    constructor
    · intro _
      omega
    · intro _
      rw [show nI 0 + (-1) = -1 by decide, Int32.lt_iff_toInt_lt, nI_toInt hx, show (-1 : Int32).toInt = -1 by decide]
      omega
  | succ u =>
    rw [pk_m1, nI_ltI (by omega) hx]
    omega
theorem r_asleep {M : Mw} {β : Bw} {L : Lw} {H : Hw} {w k : Nat} (h : RBd M β L) (hG : RG M β H) (hw : w < 3) (hk : k ≤ 200) (hu : H.1 w ≤ 1000) : F_X10_isAsleep (nI w) (nI k) M = some (if slp L (nI w) (nI k) (nI (H.1 w) + (-1)) = true then 1 else 0) := by
  obtain ⟨-, -, -, -, -, I, hI, hn, hL, hr⟩ := h
  have hwk := hG.2.2.2.2.2.2 I hI hn
  have hinj : F_X10_injections M = some (nI I) := by
    unfold F_X10_injections F_X10_many
    rw [Option.bind_some, hn]
  have key : it (fun _ => none) (B_X10_isAsleep_2 (nI w) (nI k) M) FU (nI 0) = some (if slp L (nI w) (nI k) (nI (H.1 w) + (-1)) = true then 1 else 0) := it_forN (n := I) (P := fun i => slp (LRf M i I) (nI w) (nI k) (nI (H.1 w) + (-1)) = slp L (nI w) (nI k) (nI (H.1 w) + (-1))) (Q := fun o => o = some (if slp L (nI w) (nI k) (nI (H.1 w) + (-1)) = true then 1 else 0)) (fun kk i hi hP => by
    have hg := hr i hi
    rw [LRf_step hi] at hP
    unfold B_X10_isAsleep_2
    rw [hinj, Option.bind_some, if_neg (nI_ge hi (by omega))]
    by_cases c0 : nI i = M.1 50 0 0 23
    · rw [if_pos c0]
      rw [if_neg (fun q => q c0)] at hP
      exact Or.inl ⟨by simp only [bd_eq, nI_1], hP⟩
    rw [if_neg c0]
    rw [if_pos c0] at hP
    have o0 : F_X10_of (nI i) 0 M = some (M.1 51 0 0 (106 + 5 * i)) := r_of (p := 0) (by omega) (by omega)
    have o1 : F_X10_of (nI i) 1 M = some (M.1 51 0 0 (106 + 5 * i + 1)) := r_of (p := 1) (by omega) (by omega)
    have o2 : F_X10_of (nI i) 2 M = some (M.1 51 0 0 (106 + 5 * i + 2)) := r_of (p := 2) (by omega) (by omega)
    simp only [o0, o1, o2, Option.bind_some, clampI (show i < 2 ^ 31 by omega), inb_nI (show i < 19 by omega) (show 19 ≤ 4000 by omega), bd_eq, nI_1, eq_self, if_true]
    rcases hg with ⟨w', x, hw', hx, e⟩ | ⟨t', j, m, ht', hj, hm1, hm2, e⟩ | ⟨kd, t', j, n', m, hk', ht', hj, hn', hm1, hm2, e⟩
    · obtain ⟨e0, e1, e2, e3, e4⟩ : M.1 51 0 0 (106 + 5 * i) = 5 ∧ M.1 51 0 0 (106 + 5 * i + 1) = nI w' ∧ M.1 51 0 0 (106 + 5 * i + 2) = nI x ∧ M.1 51 0 0 (106 + 5 * i + 3) = -1 ∧ M.1 51 0 0 (106 + 5 * i + 4) = -1 := by simpa using e
      have er : rowR M i = (5, nI w', nI x, -1, -1) := e
      rw [e0, e1, e2, if_pos rfl]
      by_cases c1 : nI w' = nI w
      case neg =>
        rw [if_neg c1]
        rw [er, slp_missT (fun q => c1 q.2.1)] at hP
        exact Or.inl ⟨rfl, hP⟩
      rw [if_pos c1]
      rw [c1] at er
      have e84 := hwk i hi w x hw hx er
      by_cases c2 : nI k < nI x
      · rw [if_pos c2]
        rw [er, slp_missT (fun q => absurd q.2.2.1 (Int32.not_le.mpr c2))] at hP
        exact Or.inl ⟨rfl, hP⟩
      rw [if_neg c2, e84]
      by_cases c3 : x < H.1 w
      · rw [if_pos c3, if_neg (by decide)]
        rw [er, slp_missT (fun q => by
          have := (m1_lt (by omega) (by omega)).mp q.2.2.2
          omega)] at hP
        exact Or.inl ⟨rfl, hP⟩
      · rw [if_neg c3, if_pos rfl]
        rw [er, slp_hitT ⟨rfl, rfl, Int32.not_lt.mp c2, (m1_lt (by omega) (by omega)).mpr (by omega)⟩] at hP
        exact Or.inr (by rw [← hP]; rfl)
    · obtain ⟨e0, e1, e2, e3, e4⟩ : M.1 51 0 0 (106 + 5 * i) = 4 ∧ M.1 51 0 0 (106 + 5 * i + 1) = nI t' ∧ M.1 51 0 0 (106 + 5 * i + 2) = nI j ∧ M.1 51 0 0 (106 + 5 * i + 3) = -1 ∧ M.1 51 0 0 (106 + 5 * i + 4) = nI m := by simpa using e
      have er : rowR M i = (4, nI t', nI j, -1, nI m) := e
      rw [er, slp_missT (fun q => absurd q.1 (by decide))] at hP
      rw [e0, if_neg (by decide)]
      exact Or.inl ⟨rfl, hP⟩
    · obtain ⟨e0, e1, e2, e3, e4⟩ : M.1 51 0 0 (106 + 5 * i) = nI kd ∧ M.1 51 0 0 (106 + 5 * i + 1) = nI t' ∧ M.1 51 0 0 (106 + 5 * i + 2) = nI j ∧ M.1 51 0 0 (106 + 5 * i + 3) = nI n' ∧ M.1 51 0 0 (106 + 5 * i + 4) = nI m := by simpa using e
      have er : rowR M i = (nI kd, nI t', nI j, nI n', nI m) := e
      have h5 : ¬ nI kd = 5 := fun q => by
        have := (nI_eq (a := kd) (b := 5) (by omega) (by omega)).mp q
        omega
      rw [er, slp_missT (fun q => h5 q.1)] at hP
      rw [e0, if_neg h5]
      exact Or.inl ⟨rfl, hP⟩) (fun kk hP => by
    unfold B_X10_isAsleep_2
    rw [hinj, Option.bind_some, if_pos (nI_le (Nat.le_refl _) (by omega))]
    rw [LRf_end] at hP
    rw [← hP]
    rfl) FU 0 (Nat.zero_le _) (by unfold FU; omega) (by rw [hL])
  rw [nI_0] at key
  exact key
