/-! ONE INJECTION MORE: the run is the same up to its job's begin -/
theorem chg_app {L : Lw} {r : Rw} {t job node : Int32} (h : ¬ (r.1 ≠ 5 ∧ r.2.1 = t ∧ r.2.2.2.1 = node ∧ r.2.2.1 ≤ job ∧ job < r.2.2.1 + r.2.2.2.2)) : chg (L ++ [r]) t job node = chg L t job node := by
  induction L with
  | nil => exact chg_miss h
  | cons a L ih =>
    show chg (a :: (L ++ [r])) t job node = _
    by_cases c : a.1 ≠ 5 ∧ a.2.1 = t ∧ a.2.2.2.1 = node ∧ a.2.2.1 ≤ job ∧ job < a.2.2.1 + a.2.2.2.2
    · rw [chg_hit c, chg_hit c]
    · rw [chg_miss c, chg_miss c, ih]
theorem slp_app {L : Lw} {r : Rw} {W k u : Int32} (h : r.1 ≠ 5) : slp (L ++ [r]) W k u = slp L W k u := by
  induction L with
  | nil => exact if_neg (fun q => h q.1)
  | cons a L ih =>
    show (if a.1 = 5 ∧ a.2.1 = W ∧ a.2.2.1 ≤ k ∧ u < a.2.2.1 then true else slp (L ++ [r]) W k u) = (if a.1 = 5 ∧ a.2.1 = W ∧ a.2.2.1 ≤ k ∧ u < a.2.2.1 then true else slp L W k u)
    rw [ih]
theorem exR_5 {kd t j n : Nat} (hk : kd < 5) : (exR kd t j n).1 ≠ 5 := by
  intro q
  have := (nI_eq (a := kd) (b := 5) (by omega) (by omega)).mp q
  omega
theorem chg_ex {L : Lw} {kd t j n t' i : Nat} {node : Int32} (ht : t < 5) (ht' : t' < 5) (hj : j ≤ 1000) (h : t' ≠ t ∨ i < j) : chg (L ++ [exR kd t j n]) (nI t') (nI i) node = chg L (nI t') (nI i) node := by
  refine chg_app (fun q => ?_)
  obtain ⟨-, h1, -, h2, h3⟩ := q
  rcases h with h | h
  · exact h ((nI_eq (by omega) (by omega)).mp h1).symm
  · exact nI_ge h (by omega) h2
def Cnj (t j : Nat) (V : Vw) : Prop := V.1 t 1 ≤ j ∧ (0 < V.1 t 2 → 1 ≤ V.1 t 1)
theorem cnj_lt {t j t' : Nat} {V : Vw} (hc : Cnj t j V) (h2 : 0 < V.1 t' 2) : t' ≠ t ∨ V.1 t' 1 - 1 < j := by
  by_cases c : t' = t
  · right
    subst c
    have := hc.1
    have := hc.2 h2
    omega
  · exact Or.inl c
theorem chV_app {L : Lw} {kd t j n t' : Nat} {V : Vw} (ht : t < 5) (ht' : t' < 5) (hj : j ≤ 1000) (hc : Cnj t j V) (h2 : 0 < V.1 t' 2) : chV (L ++ [exR kd t j n]) V t' = chV L V t' := chg_ex ht ht' hj (cnj_lt hc h2)
theorem wB_app {L : Lw} {kd t j n t' : Nat} {V : Vw} (ht : t < 5) (ht' : t' < 5) (hj : j ≤ 1000) (hc : Cnj t j V) : wB (L ++ [exR kd t j n]) V t' = wB L V t' := by
  unfold wB
  by_cases c : 0 < V.1 t' 2
  · rw [chV_app ht ht' hj hc c]
  · rw [decide_eq_false c, Bool.false_and, Bool.false_and]
theorem ow_app {L : Lw} {kd t j n : Nat} {V : Vw} (ht : t < 5) (hj : j ≤ 1000) (hc : Cnj t j V) : ∀ m, m ≤ 5 → ow (L ++ [exR kd t j n]) V m = ow L V m := by
  intro m
  induction m with
  | zero => intro _; rfl
  | succ m ih =>
    intro hm
    show (if ow (L ++ [exR kd t j n]) V m ≠ 0 then ow (L ++ [exR kd t j n]) V m else if wB (L ++ [exR kd t j n]) V m = true then m + 1 else 0) = (if ow L V m ≠ 0 then ow L V m else if wB L V m = true then m + 1 else 0)
    rw [ih (by omega), wB_app ht (by omega) hj hc]
theorem wkC_app {β : Bw} {L : Lw} {kd t j n t' : Nat} {V : Vw} (ht : t < 5) (ht' : t' < 5) (hj : j ≤ 1000) (hc : Cnj t j V) (h2 : 0 < V.1 t' 2) : wkC β (L ++ [exR kd t j n]) V t' = wkC β L V t' := by
  unfold wkC
  rw [chV_app ht ht' hj hc h2]
theorem kkN_app {β : Bw} {L : Lw} {k kd t j n t' cut : Nat} {V : Vw} (ht : t < 5) (ht' : t' < 5) (hj : j ≤ 1000) (hc : Cnj t j V) (h2 : 0 < V.1 t' 2) : kkN β (L ++ [exR kd t j n]) k t' cut V = kkN β L k t' cut V := by
  unfold kkN
  rw [chg_ex ht ht' hj (cnj_lt hc h2)]
theorem wkS_app {β : Bw} {L : Lw} {k kd t j n t' : Nat} {s : Vw × Hw} (ht : t < 5) (ht' : t' < 5) (hj : j ≤ 1000) (hc : Cnj t j s.1) (h2 : 0 < s.1.1 t' 2) : wkS β (L ++ [exR kd t j n]) k t' s = wkS β L k t' s := by
  unfold wkS
  rw [wkC_app ht ht' hj hc h2, kkN_app ht ht' hj hc h2]
theorem wkK_app {β : Bw} {L : Lw} {k kd t j n t' : Nat} {V : Vw} {K : List (Nat × Nat)} (ht : t < 5) (ht' : t' < 5) (hj : j ≤ 1000) (hc : Cnj t j V) (h2 : 0 < V.1 t' 2) : wkK β (L ++ [exR kd t j n]) k t' V K = wkK β L k t' V K := by
  unfold wkK
  rw [wkC_app ht ht' hj hc h2, kkN_app ht ht' hj hc h2]
theorem loA_app {β : Bw} {L : Lw} {r : Rw} {k : Nat} {s : Vw × Hw} (h : r.1 ≠ 5) : ∀ m, loA β (L ++ [r]) k s m = loA β L k s m := by
  intro m
  induction m with
  | zero => rfl
  | succ m ih =>
    show loS β (L ++ [r]) k (β 0 0 4 - 1 - m) (loA β (L ++ [r]) k s m) = loS β L k (β 0 0 4 - 1 - m) (loA β L k s m)
    rw [ih]
    unfold loS
    rw [slp_app h]
theorem cyS_app {β : Bw} {L : Lw} {r : Rw} {k : Nat} {s : Vw × Hw} (h : r.1 ≠ 5) : cyS β (L ++ [r]) k s = cyS β L k s := by
  unfold cyS
  rw [loA_app h]
theorem tkO_app {β : Bw} {L : Lw} {k kd t j n : Nat} {s : Vw × Hw} (hT : β 0 0 5 ≤ 5) (ht : t < 5) (hj : j ≤ 1000) (hc : Cnj t j (beS β k s).1) : tkO β (L ++ [exR kd t j n]) k s = tkO β L k s := ow_app ht hj hc _ hT
theorem tkS_app {β : Bw} {L : Lw} {k kd t j n : Nat} {s : Vw × Hw} (hT : β 0 0 5 ≤ 5) (hk : kd < 5) (ht : t < 5) (hj : j ≤ 1000) (hc : Cnj t j (beS β k s).1) : tkS β (L ++ [exR kd t j n]) k s = tkS β L k s := by
  have e1 : tk1 β (L ++ [exR kd t j n]) k s = tk1 β L k s := by
    unfold tk1
    rw [tkO_app hT ht hj hc]
    by_cases c : tkO β L k s = 0
    · rw [if_pos c, if_pos c]
    · rw [if_neg c, if_neg c]
      obtain ⟨w1, w2⟩ := tkO_wB c
      exact wkS_app ht (by omega) hj hc w2
  have e2 : tk2 β (L ++ [exR kd t j n]) k s = tk2 β L k s := by
    unfold tk2
    rw [e1]
  unfold tkS
  rw [e2, cyS_app (exR_5 hk)]
theorem tkK_app {β : Bw} {L : Lw} {k kd t j n : Nat} {s : Vw × Hw} {K : List (Nat × Nat)} (hT : β 0 0 5 ≤ 5) (ht : t < 5) (hj : j ≤ 1000) (hc : Cnj t j (beS β k s).1) : tkK β (L ++ [exR kd t j n]) k s K = tkK β L k s K := by
  unfold tkK
  rw [tkO_app hT ht hj hc]
  by_cases c : tkO β L k s = 0
  · rw [if_pos c, if_pos c]
  · rw [if_neg c, if_neg c]
    obtain ⟨w1, w2⟩ := tkO_wB c
    exact wkK_app ht (by omega) hj hc w2
theorem stR_app {β : Bw} {L : Lw} {k kd t j n : Nat} {r : Rsw} (hT : β 0 0 5 ≤ 5) (hk : kd < 5) (ht : t < 5) (hj : j ≤ 1000) (hc : r.1.2.2.2.2.2.1 = 0 → Cnj t j (beS β k r.1).1) : stR β (L ++ [exR kd t j n]) k r = stR β L k r := by
  unfold stR
  by_cases c : r.1.2.2.2.2.2.1 ≠ 0
  · rw [if_pos c, if_pos c]
  · rw [if_neg c, if_neg c]
    have hc' := hc (by omega)
    rw [tkS_app hT hk ht hj hc', tkK_app hT ht hj hc', tkO_app hT ht hj hc']
/-! how many jobs began, and when -/
abbrev cnt (β : Bw) (L : Lw) (k t : Nat) : Nat := (rn β L k).1.1.1 t 1
theorem be_1 {β : Bw} {k t : Nat} {s : Vw × Hw} : (beS β k s).1.1 t 1 = if t < β 0 0 5 ∧ beB β k s.1 t = true then s.1.1 t 1 + 1 else s.1.1 t 1 := by
  unfold beS
  generalize decide (0 < β 0 0 1 ∧ k % β 0 0 1 = 0) = c
  show (if t < β 0 0 5 then beG β c k s.1 t else s.1.1 t) 1 = _
  by_cases h : t < β 0 0 5
  · rw [if_pos h]
    unfold beG
    by_cases cb : beB β k s.1 t = true
    · rw [if_pos cb, if_pos ⟨h, cb⟩]
      show fgF c (s.1.1 t) 1 + 1 = _
      rw [fgF_o c _ (by decide) (by decide)]
    · rw [if_neg cb, if_neg (fun q => cb q.2), fgF_o c _ (by decide) (by decide)]
  · rw [if_neg h, if_neg (fun q => h q.1)]
theorem rn_st {β : Bw} {L : Lw} {k : Nat} (h : (rn β L k).1.2.2.2.2.2.1 = 0) : rn β L (k + 1) = (tkS β L k (rn β L k).1, tkK β L k (rn β L k).1 (rn β L k).2.1, beA β k (rn β L k).1.1 (rn β L k).2.2.1 (β 0 0 5), fun i => if i = k then tkO β L k (rn β L k).1 else (rn β L k).2.2.2 i) := if_neg (fun q => q h)
theorem cnt_s {β : Bw} {L : Lw} {k t : Nat} (h : (rn β L k).1.2.2.2.2.2.1 = 0) : cnt β L (k + 1) t = (beS β k (rn β L k).1).1.1 t 1 := by
  unfold cnt
  rw [rn_st h]
  exact tk_1 t
theorem cnt_le {β : Bw} {L : Lw} {k t : Nat} : ∀ d, cnt β L k t ≤ cnt β L (k + d) t := by
  intro d
  induction d with
  | zero => exact Nat.le_refl _
  | succ d ih =>
    refine Nat.le_trans ih ?_
    show cnt β L (k + d) t ≤ cnt β L (k + d + 1) t
    by_cases c : (rn β L (k + d)).1.2.2.2.2.2.1 = 0
    · rw [cnt_s c, be_1]
      by_cases z : t < β 0 0 5 ∧ beB β (k + d) (rn β L (k + d)).1.1 t = true
      · rw [if_pos z]; exact Nat.le_succ _
      · rw [if_neg z]; exact Nat.le_refl _
    · have := rn_halt c 1
      unfold cnt
      rw [this]
      exact Nat.le_refl _
theorem beg_inv {β : Bw} {L : Lw} {t : Nat} : ∀ k j, j < cnt β L k t → (rn β L k).2.2.1 t j < k ∧ cnt β L ((rn β L k).2.2.1 t j) t = j ∧ (rn β L ((rn β L k).2.2.1 t j)).1.2.2.2.2.2.1 = 0 ∧ t < β 0 0 5 ∧ beB β ((rn β L k).2.2.1 t j) (rn β L ((rn β L k).2.2.1 t j)).1.1 t = true := by
  intro k
  induction k with
  | zero => intro j hj; exact absurd hj (Nat.not_lt_zero _)
  | succ k ih =>
    intro j hj
    by_cases c : (rn β L k).1.2.2.2.2.2.1 = 0
    · rw [cnt_s c, be_1] at hj
      have eA : (rn β L (k + 1)).2.2.1 t j = if t < β 0 0 5 ∧ beB β k (rn β L k).1.1 t = true ∧ j = (rn β L k).1.1.1 t 1 then k else (rn β L k).2.2.1 t j := by
        rw [rn_st c]
        rfl
      rw [eA]
      by_cases z : t < β 0 0 5 ∧ beB β k (rn β L k).1.1 t = true ∧ j = (rn β L k).1.1.1 t 1
      · rw [if_pos z]
        exact ⟨Nat.lt_succ_self k, z.2.2.symm, c, z.1, z.2.1⟩
      · rw [if_neg z]
        have hj2 : j < cnt β L k t := by
          by_cases y : t < β 0 0 5 ∧ beB β k (rn β L k).1.1 t = true
          · rw [if_pos y] at hj
            have : j ≠ (rn β L k).1.1.1 t 1 := fun q => z ⟨y.1, y.2, q⟩
            unfold cnt
            omega
          · rw [if_neg y] at hj
            exact hj
        obtain ⟨a, b⟩ := ih j hj2
        exact ⟨by omega, b⟩
    · have e := rn_halt c 1
      unfold cnt at hj
      rw [e] at hj ⊢
      obtain ⟨a, b⟩ := ih j hj
      exact ⟨by omega, b⟩
theorem beg_keep {β : Bw} {L : Lw} {t k j : Nat} (h : j < cnt β L k t) : ∀ d, (rn β L (k + d)).2.2.1 t j = (rn β L k).2.2.1 t j := by
  intro d
  induction d with
  | zero => rfl
  | succ d ih =>
    rw [← ih]
    show (rn β L (k + d + 1)).2.2.1 t j = _
    by_cases c : (rn β L (k + d)).1.2.2.2.2.2.1 = 0
    · rw [rn_st c]
      refine if_neg (fun q => ?_)
      have := cnt_le (β := β) (L := L) (k := k) (t := t) d
      have h2 := q.2.2
      unfold cnt at this h
      omega
    · rw [rn_halt c 1]
/-- the run up to the begin -/
theorem rn_pre {β : Bw} {L : Lw} {FO FM : UInt32 → Prop} {FS : Nat → UInt64 → Prop} (hBF : BF β L FO FM FS) {H kd t j n : Nat} (hk : kd < 5) (hH : H ≤ 200) (hj : j < cnt β L H t) (hj2 : j ≤ 1000) : ∀ k, k ≤ (rn β L H).2.2.1 t j → rn β (L ++ [exR kd t j n]) k = rn β L k := by
  have hT5 := hBF.1.1.2.2.2.2
  obtain ⟨b1, b2, b3, b4, b5⟩ := beg_inv H j hj
  generalize (rn β L H).2.2.1 t j = B at b1 b2 b3 b5 ⊢
  intro k
  induction k with
  | zero => intro _; rfl
  | succ k ih =>
    intro hkB
    show stR β (L ++ [exR kd t j n]) k (rn β (L ++ [exR kd t j n]) k) = stR β L k (rn β L k)
    rw [ih (by omega)]
    refine stR_app hT5 hk (by omega) hj2 (fun c => ⟨?_, fun q => ?_⟩)
    · rw [← cnt_s c]
      have := cnt_le (β := β) (L := L) (k := k + 1) (t := t) (B - (k + 1))
      rw [show k + 1 + (B - (k + 1)) = B by omega, b2] at this
      exact this
    · have hI := IV_be hBF.1 ((hBF.ir (show k ≤ 200 by omega)).1 c) c
      exact ((hI.2.1 t b4).2.2.2.2.2.2.2.2.1 q).2.1
theorem rn_ex {β : Bw} {L : Lw} {FO FM : UInt32 → Prop} {FS : Nat → UInt64 → Prop} (hBF : BF β L FO FM FS) {H kd t j n : Nat} (hk : kd < 5) (hH : H ≤ 200) (hj : j < cnt β L H t) (hj2 : j ≤ 1000) : j < cnt β (L ++ [exR kd t j n]) H t ∧ (rn β (L ++ [exR kd t j n]) H).2.2.1 t j = (rn β L H).2.2.1 t j := by
  have hp := rn_pre hBF (n := n) hk hH hj hj2
  obtain ⟨b1, b2, b3, b4, b5⟩ := beg_inv H j hj
  generalize (rn β L H).2.2.1 t j = B at b1 b2 b3 b5 hp ⊢
  have e := hp B (Nat.le_refl _)
  have c : (rn β (L ++ [exR kd t j n]) B).1.2.2.2.2.2.1 = 0 := by rw [e]; exact b3
  have h1 : cnt β (L ++ [exR kd t j n]) (B + 1) t = j + 1 := by
    rw [cnt_s c, be_1, e, if_pos ⟨b4, b5⟩]
    exact congrArg (· + 1) b2
  have h2 : (rn β (L ++ [exR kd t j n]) (B + 1)).2.2.1 t j = B := by
    rw [rn_st c, e]
    exact if_pos ⟨b4, b5, b2.symm⟩
  have h3 := cnt_le (β := β) (L := L ++ [exR kd t j n]) (k := B + 1) (t := t) (H - (B + 1))
  have h4 := beg_keep (β := β) (L := L ++ [exR kd t j n]) (k := B + 1) (t := t) (j := j) (by rw [h1]; exact Nat.lt_succ_self j) (H - (B + 1))
  rw [show B + 1 + (H - (B + 1)) = H by omega] at h3 h4
  exact ⟨by omega, by rw [h4, h2]⟩
