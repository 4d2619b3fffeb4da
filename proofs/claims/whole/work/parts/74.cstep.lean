/-! A WHOLE TICK, the class -/
def CRun (b : Nat) (M : Mw) (β : Bw) (L : Lw) (k : Nat) (r : Rsw) (K : List (Nat × Nat)) (A : Nat → Nat → Nat) (l : Nat) (j : Nat) : Prop :=
  CBd (b + 5) M β L ∧ CTs b M β L r.1.1 ∧ (∃ x, CG b M β k (r.1.2.1, r.1.2.2.1, r.1.2.2.2.1, r.1.2.2.2.2.1, r.1.2.2.2.2.2.1, x)) ∧ CK b M K ∧ CA b M β r.1.1 A ∧ M.1 23 b 0 3 = nI l + (-1) ∧ M.1 23 b 0 4 = nI j
theorem CA.same {b : Nat} {M M' : Mw} {β : Bw} {V V' : Vw} {A : Nat → Nat → Nat} (h : CA b M β V A) (h30 : M'.1 30 b = M.1 30 b) (hV : ∀ t, V'.1 t 1 = V.1 t 1) : CA b M' β V' A := fun t ht j hj hj2 => by
  rw [h30]
  exact h t ht j (by rw [← hV]; exact hj) hj2
/-- the tick's last act -/
theorem c_84 {b : Nat} {M : Mw} {β : Bw} {L : Lw} {V : Vw} {H : Hw} {k l j : Nat} (hT : CTs b M β L V) (hG : CG b M β k H) (hl : l < 2 ^ 30) (h3 : M.1 23 b 0 3 = nI l + (-1)) (h4 : M.1 23 b 0 4 = nI j) :
    ∃ M', B_X5_step_84 b M = some M' ∧ CTs b M' β L V ∧ CG b M' β (k + 1) H ∧ M'.1 23 b 0 3 = nI l + (-1) ∧ M'.1 23 b 0 4 = nI (j + (if l = 0 then 1 else 0)) ∧ Fr (fun κ b' => κ = 23 ∧ b' = b) M M' ∧ M'.1 23 b 0 12 = M.1 23 b 0 12 := by
  obtain ⟨g6, g7, g5, g8, gw, gn, gr⟩ := hG
  have hfin : ∀ M' : Mw, Fr (fun κ b' => κ = 23 ∧ b' = b) M M' → M'.1 23 b 0 6 = nI (k + 1) → (∀ i, i ≠ 4 → i ≠ 6 → M'.1 23 b 0 i = M.1 23 b 0 i) → CTs b M' β L V ∧ CG b M' β (k + 1) H := by
    intro M' hF e6 e
    refine ⟨hT.fr hF (by omega), e6, ?_, ?_, ?_, fun w hw => ?_, ?_, fun i r hr => ?_⟩
    · rw [e 7 (by decide) (by decide), g7]
    · rw [e 5 (by decide) (by decide), g5]
    · rw [e 8 (by decide) (by decide), g8]
    · rw [(hF 33 b (by omega)).1, (hF 34 b (by omega)).1]
      exact gw w hw
    · rw [(hF 26 b (by omega)).1, gn]
    · rw [(hF 28 b (by omega)).1]
      exact gr i r hr
  unfold B_X5_step_84
  rw [h3]
  by_cases c : l = 0
  · have e46 : (uIw M 23 b 0 4 (M.1 23 b 0 4 + 1)).1 23 b 0 6 = nI k := by rw [uI1, if_neg (by omega), g6]
    rw [if_pos (show nI l + (-1) = -1 by rw [c]; decide), bd_eq, bd_eq, e46, h4, nI_1, nI_1]
    obtain ⟨M', hM'⟩ : ∃ M', M' = uIw (uIw M 23 b 0 4 (nI (j + 1))) 23 b 0 6 (nI (k + 1)) := ⟨_, rfl⟩
    have hF : Fr (fun κ b' => κ = 23 ∧ b' = b) M M' := by rw [hM']; exact (Fr.uI ⟨rfl, rfl⟩).trans (Fr.uI ⟨rfl, rfl⟩)
    have e : ∀ i, i ≠ 4 → i ≠ 6 → M'.1 23 b 0 i = M.1 23 b 0 i := fun i a d => by rw [hM', uI1, if_neg (fun q => d q.2.2.2), uI1, if_neg (fun q => a q.2.2.2)]
    have e6 : M'.1 23 b 0 6 = nI (k + 1) := by rw [hM', uI1, if_pos ⟨rfl, rfl, rfl, rfl⟩]
    obtain ⟨f1, f2⟩ := hfin M' hF e6 e
    refine ⟨M', by rw [hM'], f1, f2, by rw [e 3 (by decide) (by decide), h3], ?_, hF, e 12 (by decide) (by decide)⟩
    rw [if_pos c, hM', uI1, if_neg (by omega), uI1, if_pos ⟨rfl, rfl, rfl, rfl⟩]
  · rw [if_neg (nI_m1n c (by omega)), bd_eq, g6, nI_1]
    obtain ⟨M', hM'⟩ : ∃ M', M' = uIw M 23 b 0 6 (nI (k + 1)) := ⟨_, rfl⟩
    have hF : Fr (fun κ b' => κ = 23 ∧ b' = b) M M' := by rw [hM']; exact Fr.uI ⟨rfl, rfl⟩
    have e : ∀ i, i ≠ 4 → i ≠ 6 → M'.1 23 b 0 i = M.1 23 b 0 i := fun i a d => by rw [hM', uI1, if_neg (fun q => d q.2.2.2)]
    have e6 : M'.1 23 b 0 6 = nI (k + 1) := by rw [hM', uI1, if_pos ⟨rfl, rfl, rfl, rfl⟩]
    obtain ⟨f1, f2⟩ := hfin M' hF e6 e
    refine ⟨M', by rw [hM'], f1, f2, by rw [e 3 (by decide) (by decide), h3], ?_, hF, e 12 (by decide) (by decide)⟩
    rw [if_neg c, hM', uI1, if_neg (by omega), h4]
    rfl
theorem nI_bz {n : Nat} (h : n ≤ 1) : bz (nI n) = true := by
  rcases (by omega : n = 0 ∨ n = 1) with e | e
  · rw [e]; decide
  · rw [e]; decide
theorem cl_1 {β : Bw} {lev task w k n t : Nat} {V : Vw} : (clV β lev task w k V n).1 t 1 = V.1 t 1 := clV_f (by decide) (by decide) (by decide) (by decide)
theorem fail_1 {β : Bw} {k kind t t' : Nat} {s : Vw × Hw} : (failS β k kind t s).1.1 t' 1 = s.1.1 t' 1 := fail_f (by decide) (by decide) (by decide) (by decide) (by decide) (by decide) (by decide)
theorem lt_1 {β : Bw} {k w : Nat} {s : Vw × Hw} (t : Nat) : ∀ n, (ltS β k w s n).1.1 t 1 = s.1.1 t 1 := by
  intro n
  induction n with
  | zero => rfl
  | succ n ih =>
    rw [← ih]
    show (ltT β k w n (ltS β k w s n)).1.1 t 1 = _
    unfold ltT
    by_cases c : (ltS β k w s n).2.2.2.2.2.2 = 0 ∧ misB β (ltS β k w s n).1 k n w = true
    · rw [if_pos c]; exact fail_1
    · rw [if_neg c]
theorem lw_1 {β : Bw} {k w : Nat} {lk : Nat → Nat} {s : Vw × Hw} (t : Nat) : ∀ n, (lwS β k w lk s n).1.1 t 1 = s.1.1 t 1 := by
  intro n
  induction n with
  | zero => rfl
  | succ n ih =>
    rw [← ih]
    show (lwT β k w lk n (lwS β k w lk s n)).1.1 t 1 = _
    unfold lwT
    by_cases c : (lwS β k w lk s n).2.2.2.2.2.2 = 0 ∧ β 1 0 n = w + 1 ∧ lk n = 0
    · rw [if_pos c]; exact cl_1
    · rw [if_neg c]
theorem lo_1 {β : Bw} {L : Lw} {k : Nat} {s : Vw × Hw} (t : Nat) : ∀ n, (loA β L k s n).1.1.1 t 1 = s.1.1 t 1 := by
  intro n
  induction n with
  | zero => rfl
  | succ n ih =>
    rw [← ih]
    show (loS β L k (β 0 0 4 - 1 - n) (loA β L k s n)).1.1.1 t 1 = _
    unfold loS
    by_cases c : (loA β L k s n).1.2.2.2.2.2.2 ≠ 0
    · rw [if_pos c]
    rw [if_neg c]
    by_cases c2 : slp L (nI (β 0 0 4 - 1 - n)) (nI k) (nI ((loA β L k s n).1.2.1 (β 0 0 4 - 1 - n)) + (-1)) = true
    · rw [if_pos c2]
    · rw [if_neg c2]
      show (lwS _ _ _ _ _ _).1.1 t 1 = _
      rw [lw_1, lt_1]
theorem cy_1 {β : Bw} {L : Lw} {k : Nat} {s : Vw × Hw} (t : Nat) : (cyS β L k s).1.1 t 1 = s.1.1 t 1 := by
  unfold cyS
  rw [← lo_1 (β := β) (L := L) (k := k) (s := s) t (β 0 0 4)]
  have hd : (dgS β k (loA β L k s (β 0 0 4)).2 (loA β L k s (β 0 0 4)).1).1.1 t 1 = (loA β L k s (β 0 0 4)).1.1.1 t 1 := by
    unfold dgS
    by_cases c : (loA β L k s (β 0 0 4)).1.2.2.2.2.2.2 = 0 ∧ 0 < β 0 0 4 ∧ (loA β L k s (β 0 0 4)).2 0 = 0
    · rw [if_pos c]; exact cl_1
    · rw [if_neg c]
  rw [← hd]
  generalize dgS β k (loA β L k s (β 0 0 4)).2 (loA β L k s (β 0 0 4)).1 = s1
  unfold ecS
  by_cases c : s1.2.2.2.2.2.2 = 0
  · rw [if_pos c]
    exact ecV_f (by decide) (by decide)
  · rw [if_neg c]
theorem la_1 {β : Bw} {k : Nat} {s : Vw × Hw} (t : Nat) : ∀ n, (laS β k s n).1.1 t 1 = s.1.1 t 1 := by
  intro n
  induction n with
  | zero => rfl
  | succ n ih =>
    rw [← ih]
    show (laT β k n (laS β k s n)).1.1 t 1 = _
    unfold laT
    by_cases c : (laS β k s n).2.2.2.2.2.2 = 0 ∧ (laS β k s n).1.1 n 0 ≤ k ∧ β 4 n 3 ≤ gpN (laS β k s n).1 n k
    · rw [if_pos c]; exact fail_1
    · rw [if_neg c]
theorem wk_1 {β : Bw} {L : Lw} {k t0 : Nat} {s : Vw × Hw} (t : Nat) : (wkS β L k t0 s).1.1 t 1 = s.1.1 t 1 := by
  have hu : (unV s.1 t0).1 t 1 = s.1.1 t 1 := by
    by_cases c : t = t0
    · subst c
      exact unV_f (by decide)
    · rw [(unV_ne c).1]
  unfold wkS
  by_cases c0 : wkC β L s.1 t0 = 0
  · rw [if_pos c0]; exact hu
  rw [if_neg c0]
  by_cases c1 : wkC β L s.1 t0 = 1
  · rw [if_pos c1, ← hu]
    by_cases c : t = t0
    · subst c
      unfold enV
      show (vs _ _ _).1 t 1 = _
      rw [vs_at]
      rfl
    · rw [(enV_ne c).1]
  rw [if_neg c1]
  by_cases ck : kkN β L k t0 (fol β t0 (s.1.1 t0 2 - 1) (s.1.1 t0 1 - 1)) s.1 = 0
  · rw [if_pos ck, ← hu]
    by_cases c : t = t0
    · subst c
      rw [goV_f (by decide)]
      rfl
    · rw [(goV_ne c).1]
  · rw [if_neg ck]
    rw [fail_1]
    exact hu
theorem tk_1 {β : Bw} {L : Lw} {k : Nat} {s : Vw × Hw} (t : Nat) : (tkS β L k s).1.1 t 1 = (beS β k s).1.1 t 1 := by
  have h1 : (tk1 β L k s).1.1 t 1 = (beS β k s).1.1 t 1 := by
    unfold tk1
    by_cases c : tkO β L k s = 0
    · rw [if_pos c]
    · rw [if_neg c, wk_1]
  have h2 : (tk2 β L k s).1.1 t 1 = (beS β k s).1.1 t 1 := by
    unfold tk2
    rw [la_1, h1]
  unfold tkS
  by_cases c : (k + 1) % β 0 0 1 = 0
  · rw [if_pos c, cy_1, h2]
  · rw [if_neg c, h2]
theorem c_53 {b : Nat} {M : Mw} {β : Bw} {L : Lw} {s : Vw × Hw} {k cy m l j : Nat} {FO FM : UInt32 → Prop} {FS : Nat → UInt64 → Prop} (hg : GB β L) (hF : FH FO FM FS) (hlow : nf (FP.fdiv (FP.i2f (nI (β 0 0 2))) 1092616192) = true) (hB : CBd (b + 5) M β L) (hT : CTs b M β L s.1) (hG : CG b M β k s.2) (hk : k < 200) (hcy : cy ≤ 40) (hm : m ≤ 1000) (hI : IV β L FO FM FS m k cy s) (hY5 : 5 ≤ β 0 0 1) (hl : l < 2 ^ 30) (h3 : M.1 23 b 0 3 = nI l + (-1)) (h4 : M.1 23 b 0 4 = nI j) :
    ∃ M', B_X5_step_53 b M = some M' ∧ CTs b M' β L (if (k + 1) % β 0 0 1 = 0 then cyS β L k s else s).1 ∧ CG b M' β (k + 1) (if (k + 1) % β 0 0 1 = 0 then cyS β L k s else s).2 ∧ M'.1 23 b 0 3 = nI l + (-1) ∧ M'.1 23 b 0 4 = nI (j + (if l = 0 then 1 else 0)) ∧ Fr (SRun b) M M' ∧ M'.1 23 b 0 12 = M.1 23 b 0 12 ∧ M'.1 30 b = M.1 30 b ∧ M'.1 31 b = M.1 31 b ∧ M'.1 32 b = M.1 32 b := by
  have hY50 := hg.1.2.1
  unfold B_X5_step_53
  rw [hB.1 1 (by omega), hG.1, nI_1, c_divides (by omega) (by omega), Option.bind_some]
  by_cases c : (k + 1) % β 0 0 1 = 0
  case neg =>
    rw [if_neg (show ¬ (0 < β 0 0 1 ∧ (k + 1) % β 0 0 1 = 0) from fun q => c q.2), if_pos rfl, if_neg c]
    obtain ⟨M', q1, q2, q3, q4, q5, q6, q7⟩ := c_84 hT hG hl h3 h4
    exact ⟨M', q1, q2, q3, q4, q5, q6.mono (fun κ b' h => ⟨by omega, by omega, h.2⟩), q7, (q6 30 b (by omega)).1, (q6 31 b (by omega)).1, (q6 32 b (by omega)).1⟩
  rw [if_pos (show 0 < β 0 0 1 ∧ (k + 1) % β 0 0 1 = 0 from ⟨by omega, c⟩), if_neg (by decide), if_pos c]
  have hY : β 0 0 1 ≤ k + 1 := Nat.le_of_dvd (by omega) (Nat.dvd_of_mod_eq_zero c)
  obtain ⟨M1, a1, a2, a3, a4, a5⟩ := c_looks hg hF hlow hB hT hG (by omega) hcy hm hI hY
  have hB1 : CBd (b + 5) M1 β L := hB.run a5.1
  have hI1 := IV_lo hg hF (by omega) hI (β 0 0 4)
  obtain ⟨-, hl1⟩ := loA_lk (β := β) (L := L) (k := k) (s := s) (β 0 0 4) (Nat.le_refl _)
  obtain ⟨M2, b1, b2, b3, b4⟩ := c_dog hg hB1 a2 a3 (by omega) hcy hI1 a4 hl1
  have hB2 : CBd (b + 5) M2 β L := hB1.run b4.1
  have hI2 := IV_dg (lk := (loA β L k s (β 0 0 4)).2) hg (by omega) hI1
  obtain ⟨i1, i2⟩ := IV_c hI2
  obtain ⟨M3, d1, d2, d3, d4⟩ := c_ec hg hB2 b2 b3 i1 (fun t ht => by have := i2 t ht; omega)
  have hO := (a5.trans b4).trans d4
  obtain ⟨M', q1, q2, q3, q4, q5, q6, q7⟩ := c_84 (l := l) (j := j) d2 d3 hl (by rw [hO.2.2 3 (by decide) (by decide) (by decide), h3]) (by rw [hO.2.2 4 (by decide) (by decide) (by decide), h4])
  rw [a1, Option.bind_some, b1, Option.bind_some, d1, Option.bind_some]
  refine ⟨M', q1, q2, q3, q4, q5, hO.1.trans (q6.mono (fun κ b' h => ⟨by omega, by omega, h.2⟩)), by rw [q7, hO.2.2 12 (by decide) (by decide) (by decide)], ?_, ?_, ?_⟩
  · rw [(q6 30 b (by omega)).1, hO.2.1 30 (by decide) (by decide) (by decide) (by decide) (by decide) (by decide) (by decide)]
  · rw [(q6 31 b (by omega)).1, hO.2.1 31 (by decide) (by decide) (by decide) (by decide) (by decide) (by decide) (by decide)]
  · rw [(q6 32 b (by omega)).1, hO.2.1 32 (by decide) (by decide) (by decide) (by decide) (by decide) (by decide) (by decide)]
