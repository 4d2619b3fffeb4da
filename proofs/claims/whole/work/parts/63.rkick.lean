/-! A TICK OF A TASK'S OWN, the reference: a kick -/
theorem r_wrong {M : Mw} {β : Bw} {L : Lw} (hgb : GB β L) (h : RBd M β L) {t : Nat} (ht : t < 5) : F_X10_isWrong (nI t) M = some (if chg L (nI t) (M.1 65 0 0 t) (-1) = 4 then 1 else 0) := by
  obtain ⟨-, -, -, -, -, I, hI, hn, hL, hr⟩ := h
  have hinj : F_X10_injections M = some (nI I) := by
    unfold F_X10_injections F_X10_many
    rw [Option.bind_some, hn]
  have key : it (fun _ => none) (B_X10_isWrong_2 (nI t) M) FU (nI 0) = some (if chg L (nI t) (M.1 65 0 0 t) (-1) = 4 then 1 else 0) := it_forN (n := I) (P := fun i => chg (LRf M i I) (nI t) (M.1 65 0 0 t) (-1) = chg L (nI t) (M.1 65 0 0 t) (-1)) (Q := fun o => o = some (if chg L (nI t) (M.1 65 0 0 t) (-1) = 4 then 1 else 0)) (fun k i hi hP => by
    have hg := hr i hi
    rw [LRf_step hi] at hP
    unfold B_X10_isWrong_2
    rw [hinj, Option.bind_some, if_neg (nI_ge hi (by omega))]
    by_cases c0 : nI i = M.1 50 0 0 23
    · rw [if_pos c0]
      rw [if_neg (fun q => q c0)] at hP
      exact Or.inl ⟨by simp only [bd_eq, nI_1], hP⟩
    rw [if_neg c0]
    rw [if_pos c0] at hP
    have o0 : F_X10_of (nI i) 0 M = some (M.1 51 0 0 (106 + 5 * i)) := r_of (p := 0) (by omega) (by omega)
    have o1 : F_X10_of (nI i) 1 M = some (M.1 51 0 0 (106 + 5 * i + 1)) := r_of (p := 1) (by omega) (by omega)
    have o2 : F_X10_of (nI i) 2 M = some (M.1 51 0 0 (106 + 5 * i + 2)) := r_of (p := 2) (by omega) (by omega)
    have o4 : F_X10_of (nI i) 4 M = some (M.1 51 0 0 (106 + 5 * i + 4)) := r_of (p := 4) (by omega) (by omega)
    simp only [o0, o1, o2, o4, Option.bind_some, clampI (show t < 2 ^ 31 by omega), inb_nI ht (show 5 ≤ 4000 by omega), bd_eq, nI_1, r_inI, eq_self, if_true]
    rcases hg with ⟨w, x, hw, hx, e⟩ | ⟨t', j, m, ht', hj, hm1, hm2, e⟩ | ⟨kd, t', j, n', m, hk, ht', hj, hn', hm1, hm2, e⟩
    · obtain ⟨e0, e1, e2, e3, e4⟩ : M.1 51 0 0 (106 + 5 * i) = 5 ∧ M.1 51 0 0 (106 + 5 * i + 1) = nI w ∧ M.1 51 0 0 (106 + 5 * i + 2) = nI x ∧ M.1 51 0 0 (106 + 5 * i + 3) = -1 ∧ M.1 51 0 0 (106 + 5 * i + 4) = -1 := by simpa using e
      have er : rowR M i = (5, nI w, nI x, -1, -1) := e
      rw [er, chg_missT (fun q => q.1 rfl)] at hP
      rw [e0, if_neg (by decide)]
      exact Or.inl ⟨rfl, hP⟩
    · obtain ⟨e0, e1, e2, e3, e4⟩ : M.1 51 0 0 (106 + 5 * i) = 4 ∧ M.1 51 0 0 (106 + 5 * i + 1) = nI t' ∧ M.1 51 0 0 (106 + 5 * i + 2) = nI j ∧ M.1 51 0 0 (106 + 5 * i + 3) = -1 ∧ M.1 51 0 0 (106 + 5 * i + 4) = nI m := by simpa using e
      have er : rowR M i = (4, nI t', nI j, -1, nI m) := e
      rw [er] at hP
      simp only [e0, e1, e2, e4]
      have e5 : nI j + nI m - 1 = nI (j + m - 1) := by
        rw [nI_add, show (1 : Int32) = nI 1 from rfl, pk_sub (by omega)]
      have e6 : nI j + nI m = nI (j + m - 1 + 1) := by rw [nI_add, show j + m - 1 + 1 = j + m by omega]
      rw [if_pos trivial, e5]
      by_cases c1 : nI t' = nI t
      case neg =>
        rw [if_neg c1]
        rw [chg_missT (fun q => c1 q.2.1)] at hP
        exact Or.inl ⟨rfl, hP⟩
      rw [if_pos c1]
      by_cases c3 : nI j ≤ M.1 65 0 0 t ∧ M.1 65 0 0 t ≤ nI (j + m - 1)
      · rw [if_pos c3, if_neg (by decide)]
        rw [chg_hitT ⟨by decide, c1, rfl, c3.1, by
          rw [e6]
          exact (le_pred _ (by omega)).mp c3.2⟩] at hP
        exact Or.inr (by rw [← hP]; rfl)
      · rw [if_neg c3, if_pos rfl]
        rw [chg_missT (fun q => c3 ⟨q.2.2.2.1, by
          have q5 := q.2.2.2.2
          rw [e6] at q5
          exact (le_pred _ (by omega)).mpr q5⟩)] at hP
        exact Or.inl ⟨rfl, hP⟩
    · obtain ⟨e0, e1, e2, e3, e4⟩ : M.1 51 0 0 (106 + 5 * i) = nI kd ∧ M.1 51 0 0 (106 + 5 * i + 1) = nI t' ∧ M.1 51 0 0 (106 + 5 * i + 2) = nI j ∧ M.1 51 0 0 (106 + 5 * i + 3) = nI n' ∧ M.1 51 0 0 (106 + 5 * i + 4) = nI m := by simpa using e
      have er : rowR M i = (nI kd, nI t', nI j, nI n', nI m) := e
      have h66 := (hgb.2.2.2.1 t' ht').2.2.2.2.2.2.2.2.2
      rw [er, chg_missT (fun q => nI_nm1 (by omega) q.2.2.1)] at hP
      rw [e0, if_neg (show ¬ nI kd = 4 from fun q => by
        have := (nI_eq (a := kd) (b := 4) (by omega) (by omega)).mp q
        omega)]
      exact Or.inl ⟨rfl, hP⟩) (fun k hP => by
    unfold B_X10_isWrong_2
    rw [hinj, Option.bind_some, if_pos (nI_le (Nat.le_refl _) (by omega))]
    rw [LRf_end] at hP
    rw [← hP]
    rfl) FU 0 (Nat.zero_le _) (by unfold FU; omega) (by rw [hL])
  rw [nI_0] at key
  exact key
theorem r_open {M : Mw} {β : Bw} {L : Lw} (hg : GB β L) (h : RBd M β L) {t : Nat} (ht : t < β 0 0 5) : F_X10_openOf (nI t) M = some (nI (β 4 t 2)) := by
  have h5 := hg.1.2.2.2.2
  have e := (h.2.2.1 t ht).1
  unfold F_X10_openOf
  by_cases c : nI t = M.1 50 0 0 24
  · rw [if_pos c] at e
    rw [if_pos c, e]
  · rw [if_neg c] at e
    rw [if_neg c, show (2 : Int32) = nI 2 from rfl, r_told (by omega) (by omega), Option.bind_some, e]
/-- the place is gone -/
def plV (V : Vw) (t : Nat) : Vw := vs V t (fun f => if f = 2 then 0 else V.1 t f)
theorem plV_f {V : Vw} {t f : Nat} (h : f ≠ 2) : (plV V t).1 t f = V.1 t f := by
  unfold plV
  rw [vs_at]
  exact if_neg h
theorem plV_2 (V : Vw) (t : Nat) : (plV V t).1 t 2 = 0 := by
  unfold plV
  rw [vs_at]
  rfl
theorem plV_ne {V : Vw} {t t' : Nat} (h : t' ≠ t) : VE V (plV V t) t' := vs_ne h
theorem fail_pl {β : Bw} {k kind t : Nat} {V : Vw} {H : Hw} (ht : t < β 0 0 5) : failS β k kind t (plV V t, H) = failS β k kind t (V, H) := by
  have e7 : (plV V t).1 t 7 = V.1 t 7 := plV_f (by decide)
  have eL : flL β (plV V t) t = flL β V t := by
    unfold flL
    rw [e7]
    rfl
  have eT : (clV β (flL β V t) (t + 1) (β 4 t 0) k (flV (plV V t) t) (β 0 0 5)) = (clV β (flL β V t) (t + 1) (β 4 t 0) k (flV V t) (β 0 0 5)) := by
    refine Prod.ext (funext fun t' => ?_) rfl
    by_cases c : t' = t
    · subst c
      have hd : dR β (flL β V t') (t' + 1) (β 4 t' 0) t' = true := by
        unfold dR
        simp
      show (if t' < β 0 0 5 ∧ dR β (flL β V t') (t' + 1) (β 4 t' 0) t' = true then rsF ((flV (plV V t') t').1 t') (rst β t' k) else _) = (if t' < β 0 0 5 ∧ dR β (flL β V t') (t' + 1) (β 4 t' 0) t' = true then rsF ((flV V t').1 t') (rst β t' k) else _)
      rw [if_pos ⟨ht, hd⟩, if_pos ⟨ht, hd⟩]
      funext f
      unfold rsF
      by_cases f0 : f = 0
      · rw [if_pos f0, if_pos f0]
      rw [if_neg f0, if_neg f0]
      by_cases f2 : f = 2
      · rw [if_pos f2, if_pos f2]
      rw [if_neg f2, if_neg f2]
      by_cases f5 : f = 5
      · rw [if_pos f5, if_pos f5]
      rw [if_neg f5, if_neg f5]
      by_cases f6 : f = 6
      · rw [if_pos f6, if_pos f6]
      rw [if_neg f6, if_neg f6]
      show (if t' = t' then (fun f => if f = 7 then (plV V t').1 t' 7 + 1 else if f = 8 then 0 else if f = 9 then 1 else (plV V t').1 t' f) else _) f = (if t' = t' then (fun f => if f = 7 then V.1 t' 7 + 1 else if f = 8 then 0 else if f = 9 then 1 else V.1 t' f) else _) f
      rw [if_pos rfl, if_pos rfl, e7]
      show (if f = 7 then _ else if f = 8 then 0 else if f = 9 then 1 else (plV V t').1 t' f) = (if f = 7 then _ else if f = 8 then 0 else if f = 9 then 1 else V.1 t' f)
      rw [plV_f f2]
    · have : (flV (plV V t) t).1 t' = (flV V t).1 t' := by
        rw [(flV_ne c).1, (flV_ne c).1, (plV_ne c).1]
      show (if _ then rsF ((flV (plV V t) t).1 t') _ else (flV (plV V t) t).1 t') = (if _ then rsF ((flV V t).1 t') _ else (flV V t).1 t')
      rw [this]
  unfold failS
  refine Prod.ext ?_ ?_
  · show clV β (flL β (plV V t) t) (t + 1) (β 4 t 0) k (flV (plV V t) t) (β 0 0 5) = clV β (flL β V t) (t + 1) (β 4 t 0) k (flV V t) (β 0 0 5)
    rw [eL, eT]
  · show clH β (flL β (plV V t) t) (β 4 t 0) k (adH H (k, kind, t, flL β (plV V t) t)) = clH β (flL β V t) (β 4 t 0) k (adH H (k, kind, t, flL β V t))
    rw [eL]
/-- the gaps of the good kicks of a task -/
def kf (K : List (Nat × Nat)) (t : Nat) : List Nat := (K.filter (fun r => decide (r.1 = t))).map Prod.snd
def RK (M : Mw) (β : Bw) (V : Vw) (K : List (Nat × Nat)) : Prop := ∀ t, t < β 0 0 5 → V.1 t 12 = (kf K t).length ∧ ∀ j g : Nat, (kf K t)[j]? = some g → M.1 82 0 0 (200 * t + j) = nI g
theorem kf_y (K : List (Nat × Nat)) (t g : Nat) : kf (K ++ [(t, g)]) t = kf K t ++ [g] := by
  unfold kf
  rw [List.filter_append, List.map_append, List.filter_cons_of_pos (by simp), List.filter_nil]
  rfl
theorem kf_n (K : List (Nat × Nat)) {t t' g : Nat} (h : t' ≠ t) : kf (K ++ [(t, g)]) t' = kf K t' := by
  unfold kf
  rw [List.filter_append, List.map_append, List.filter_cons_of_neg (by simpa using fun q => h q.symm), List.filter_nil]
  simp
theorem r_k177 {M : Mw} {β : Bw} {L : Lw} {V : Vw} {t k g : Nat} (h : RT M V t) (hp : V.1 t 2 = 0) (ht : t < 5) (hq : V.1 t 6 < 64) (h12 : V.1 t 12 < 200) (n1 : nf (FP.fsub FP.fconst1 (V.2.1 t)) = true) (n2 : nf (FP.fmul (FP.fsub FP.fconst1 (V.2.1 t)) 1048576000) = true) (n3 : nf (hUp (V.2.1 t)) = true) :
    ∃ M', B_X10_kickNow_177 (nI t) (nI k) (nI g) M = some M' ∧ RT M' (gdV k V t) t ∧ On3 (fun κ => κ = 82) t M M' ∧ ∀ x, M'.1 82 0 0 x = if x = 200 * t + V.1 t 12 then nI g else M.1 82 0 0 x := by
  obtain ⟨h0, h1, h2, h3, h70, h71, h6, h7, h8, h9, h10, h12', h13, h14, h11, h15, h16⟩ := h
  have eH : hUp (V.2.1 t) = FP.fadd (V.2.1 t) (FP.fmul (FP.fsub FP.fconst1 (V.2.1 t)) 1048576000) := rfl
  rw [eH] at n3
  have eV : ((gdV k V t).2.1 t : UInt32) = FP.fadd (V.2.1 t) (FP.fmul (FP.fsub FP.fconst1 (V.2.1 t)) 1048576000) := if_pos rfl
  have hin : inb (nI t) 5 = true := inb_nI ht (by omega)
  have hc : (nI t).toNatClampNeg = t := clampI (by omega)
  have ea : (200 * nI t) + nI (V.1 t 12) = nI (200 * t + V.1 t 12) := by
    rw [show (200 : Int32) = nI 200 from rfl, pk_mul, nI_add]
  unfold B_X10_kickNow_177
  generalize (1048576000 : UInt32) = w at n2 n3 eV ⊢
  clear eH
  rw [if_pos hin, hc, h11]
  simp only [if_pos hin]
  rw [if_pos n1, if_pos n2, if_pos n3, bd_eq, if_neg (by decide)]
  have e69 : (uFw M 74 0 0 t (FP.fadd (V.2.1 t) (FP.fmul (FP.fsub FP.fconst1 (V.2.1 t)) w))).1 69 0 0 t = nI (V.1 t 6) := by rw [uF1, h6]
  rw [e69, nI_q _ hq, bd_eq, bd_eq, nar1, bd_eq]
  rw [uI_k (show 72 ≠ 71 by decide), uI_k (show 72 ≠ 70 by decide), uI_k (show 72 ≠ 69 by decide), uF1, h10, nI_1, bd_eq]
  rw [uI_k (show 77 ≠ 72 by decide), uI_k (show 77 ≠ 71 by decide), uI_k (show 77 ≠ 70 by decide), uI_k (show 77 ≠ 69 by decide), uF1, h12', ea, if_pos (inb_nI (by omega) (by omega)), clampI (by omega), bd_eq]
  rw [uI_k (show 77 ≠ 82 by decide), uI_k (show 77 ≠ 72 by decide), uI_k (show 77 ≠ 71 by decide), uI_k (show 77 ≠ 70 by decide), uI_k (show 77 ≠ 69 by decide), uF1, h12', nI_1, bd_eq, bd_eq]
  refine ⟨_, rfl, ?_, ?_, fun x => ?_⟩
  · have e2 : gkF k (V.1 t) 2 = 0 := rfl
    have e5 : ¬ gkF k (V.1 t) 5 = 0 := by show ¬ k + 1 = 0; omega
    unfold RT
    simp only [gdV_f]
    rw [eV, if_pos e2, if_neg e5, if_neg e5]
    refine ⟨?_, ?_, ?_, fun q => absurd q (by rw [e2]; exact Nat.lt_irrefl 0), ?_, ?_, ?_, ?_, ?_, ?_, ?_, ?_, ?_, ?_, ?_, ?_, ?_⟩
    · simp [uI1, uF1, gkF, h0]
    · simp [uI1, uF1, gkF, h1]
    · rw [if_pos hp] at h2
      simp [uI1, uF1, h2]
    · simp [uI1, uF1, gkF, pk_m1]
    · simp [uI1, uF1]
    · simp [uI1, uF1, gkF]
    · simp [uI1, uF1, gkF, h7]
    · simp [uI1, uF1, gkF, h8]
    · simp [uI1, uF1, gkF, h9]
    · simp [uI1, uF1, gkF]
    · simp [uI1, uF1, gkF]
    · simp [uI1, uF1, gkF, pk_m1]
    · simp [uI1, uF1, gkF, h14]
    · simp [uI2, uF2]
    · intro q
      simp [uI2, uF2]
      exact h15 q
    · simp [uI2, uF3]
      exact h16
  · refine ((((((OnR.uF (κ := 74) (by decide) (by decide)).trans (OnR.uI (κ := 69) (by decide) (by decide))).trans ((OnR.uI (κ := 70) (by decide) (by decide)).trans (OnR.uI (κ := 71) (by decide) (by decide)))).trans (OnR.uI (κ := 72) (by decide) (by decide))).o3.trans (On3.uI (S := fun κ => κ = 82) (κ := 82) rfl)).trans ((OnR.uI (κ := 77) (by decide) (by decide)).trans (OnR.uI (κ := 78) (by decide) (by decide))).o3)
  · by_cases z : x = 200 * t + V.1 t 12
    · rw [if_pos z]
      simp [uI1, z]
    · rw [if_neg z]
      simp [uI1, uF1, z]
