/-! A TICK'S BEGIN, the class -/
def beB (β : Bw) (k : Nat) (V : Vw) (t : Nat) : Bool := decide (V.1 t 2 = 0) && decide (V.1 t 0 ≤ k) && decide (k % β 4 t 1 = 0)
def fgF (c : Bool) (F : Nat → Nat) : Nat → Nat := fun f => if c = true ∧ (f = 9 ∨ f = 10) then 0 else F f
def bgF (F : Nat → Nat) : Nat → Nat := fun f => if f = 1 then F 1 + 1 else F f
def beG (β : Bw) (c : Bool) (k : Nat) (V : Vw) (t : Nat) : Nat → Nat := if beB β k V t = true then enF (bgF (fgF c (V.1 t))) 0 else fgF c (V.1 t)
def beV (β : Bw) (c : Bool) (k : Nat) (V : Vw) (n : Nat) : Vw := (fun t => if t < n then beG β c k V t else V.1 t, V.2)
def beA (β : Bw) (k : Nat) (V : Vw) (A : Nat → Nat → Nat) (n : Nat) : Nat → Nat → Nat := fun t j => if t < n ∧ beB β k V t = true ∧ j = V.1 t 1 then k else A t j
theorem fgF_f (F : Nat → Nat) : fgF false F = F := by
  funext f
  exact if_neg (fun q => absurd q.1 (by decide))
theorem fgF_o (c : Bool) (F : Nat → Nat) {f : Nat} (h : f ≠ 9) (h2 : f ≠ 10) : fgF c F f = F f := if_neg (fun q => by omega)
theorem c_divides {c k : Nat} (hc : c < 2 ^ 31) (hk : k < 2 ^ 31) (M : Mw) : F_X9_divides (nI c) (nI k) M = some (if 0 < c ∧ k % c = 0 then 1 else 0) := by
  unfold F_X9_divides
  by_cases h : c = 0
  · subst h
    rw [if_pos (show nI 0 ≤ 0 by decide), if_neg (by omega)]
  · rw [if_neg (nI_nle (by omega) hc), if_neg (nI_ne0 (by omega) hc), pk_rem hk (by omega) hc]
    by_cases h2 : k % c = 0
    · rw [if_pos (by rw [h2]; rfl), if_pos ⟨by omega, h2⟩]
    · rw [if_neg (nI_ne0 (by omega) (by have := Nat.mod_lt k (show c > 0 by omega); omega)), if_neg (fun q => h2 q.2)]
theorem c_forget {b : Nat} {M : Mw} {β : Bw} {L : Lw} {V : Vw} {t : Nat} (h : CT b M β L V t) : ∃ M', F_X7_forgetCycle b t M = some M' ∧ CT b M' β L (vs V t (fgF true (V.1 t))) t ∧ On25 b t M M' := by
  refine ⟨_, rfl, ?_, On25.uI.trans On25.uI⟩
  obtain ⟨h0, h1, h2, h3, h5, h6, h7, h8, h9, h10, h12, h13, h14, h11, h15, h16⟩ := h
  have e : ∀ f, f ≠ 9 → f ≠ 10 → (vs V t (fgF true (V.1 t))).1 t f = V.1 t f := by
    intro f f1 f2
    rw [vs_at]
    exact if_neg (fun q => by omega)
  have e9 : (vs V t (fgF true (V.1 t))).1 t 9 = 0 := by rw [vs_at]; rfl
  have e10 : (vs V t (fgF true (V.1 t))).1 t 10 = 0 := by rw [vs_at]; rfl
  have ec : chV L (vs V t (fgF true (V.1 t))) t = chV L V t := by
    unfold chV
    rw [e 1 (by decide) (by decide), e 2 (by decide) (by decide)]
  unfold CT
  rw [ec, e 0 (by decide) (by decide), e 1 (by decide) (by decide), e 2 (by decide) (by decide), e 3 (by decide) (by decide), e 5 (by decide) (by decide), e 6 (by decide) (by decide), e 7 (by decide) (by decide), e 8 (by decide) (by decide), e9, e10, e 12 (by decide) (by decide), e 13 (by decide) (by decide), e 14 (by decide) (by decide)]
  refine ⟨?_, ?_, ?_, ?_, ?_, ?_, ?_, ?_, ?_, ?_, ?_, ?_, ?_, ?_, ?_, ?_⟩ <;> first | (simp only [uI1, Nat.reduceEqDiff, and_false, if_false, and_self, if_true] <;> first | assumption | rfl) | exact h11 | exact h15 | exact h16
/-- what begins a job: the numbers are the same behind forgetting -/
theorem beB_fg (β : Bw) (c : Bool) (k : Nat) (V : Vw) (t : Nat) : beB β k (vs V t (fgF c (V.1 t))) t = beB β k V t := by
  unfold beB
  rw [vs_at, fgF_o c _ (by decide) (by decide), fgF_o c _ (by decide) (by decide)]
/-- the cells of one task, and its row of begins -/
def On30 (b t : Nat) (M M' : Mw) : Prop := ∀ κ b' i : Nat, ¬ ((κ = 25 ∨ κ = 30) ∧ b' = b ∧ i = t) → M'.1 κ b' i = M.1 κ b' i ∧ M'.2.1 κ b' i = M.2.1 κ b' i ∧ M'.2.2 κ b' i = M.2.2 κ b' i
theorem On30.trans {b t : Nat} {M M1 M2 : Mw} (h : On30 b t M M1) (h2 : On30 b t M1 M2) : On30 b t M M2 := fun κ b' i hn => ⟨(h2 κ b' i hn).1.trans (h κ b' i hn).1, (h2 κ b' i hn).2.1.trans (h κ b' i hn).2.1, (h2 κ b' i hn).2.2.trans (h κ b' i hn).2.2⟩
theorem On25.o30 {b t : Nat} {M M' : Mw} (h : On25 b t M M') : On30 b t M M' := fun κ b' i hn => h κ b' i (fun q => hn ⟨Or.inl q.1, q.2⟩)
theorem On30.uI {b t j : Nat} {M : Mw} {v : Int32} : On30 b t M (uIw M 30 b t j v) := by
  intro κ b' i hn
  refine ⟨?_, Eq.refl _, Eq.refl _⟩
  funext j'
  rw [uI1, if_neg]
  rintro ⟨rfl, rfl, rfl, -⟩
  exact hn ⟨Or.inr (Eq.refl _), Eq.refl _, Eq.refl _⟩
theorem On30.fr {b t : Nat} {M M' : Mw} (h : On30 b t M M') : Fr (fun κ b' => (κ = 25 ∨ κ = 30) ∧ b' = b) M M' := by
  intro κ b' hn
  refine ⟨funext fun i => (h κ b' i (fun q => hn ⟨q.1, q.2.1⟩)).1, funext fun i => (h κ b' i (fun q => hn ⟨q.1, q.2.1⟩)).2.1, funext fun i => (h κ b' i (fun q => hn ⟨q.1, q.2.1⟩)).2.2⟩
theorem On30.run {b t : Nat} {M M' : Mw} (h : On30 b t M M') : Fr (SRun b) M M' := h.fr.mono (fun κ b' q => ⟨by omega, by omega, q.2⟩)
/-- one task at a tick's begin -/
def CA (b : Nat) (M : Mw) (β : Bw) (V : Vw) (A : Nat → Nat → Nat) : Prop := ∀ t, t < β 0 0 5 → ∀ j, j < V.1 t 1 → j ≤ 50 → M.1 30 b t j = nI (A t j)
theorem nI_nm1 {n : Nat} (h : n < 2 ^ 31) : nI n ≠ -1 := by
  intro q
  have h1 := congrArg Int32.toInt q
  rw [nI_toInt h] at h1
  have h2 : (-1 : Int32).toInt = -1 := by decide
  omega
theorem c_beg107 {b : Nat} {M : Mw} {β : Bw} {L : Lw} {V : Vw} {t : Nat} {k17 : Int32 → Mw → Option Mw} {l1 : Int32} {G : Nat → Nat} (hg : GB β L) (hB : CBd (b + 5) M β L) (h : CT b M β L (vs V t G) t) (ht : t < β 0 0 5) (h2 : G 2 = 0) :
    ∃ M', B_X5_beginTick_107 b k17 l1 (nI t) t M = k17 (nI (t + 1)) M' ∧ CT b M' β L (vs V t (enF (bgF G) 0)) t ∧ On25 b t M M' := by
  have e1 : M.1 25 b t 1 = nI (G 1) := by have := h.2.1; rw [vs_at] at this; exact this
  have hB2 : CBd (b + 5) (uIw M 25 b t 1 (nI (G 1 + 1))) β L := hB.run (On25.run (t := t) On25.uI)
  have hC : CT b (uIw M 25 b t 1 (nI (G 1 + 1))) β L (vs V t (bgF G)) t := by
    obtain ⟨h0, h1, h2', h3, h5, h6, h7, h8, h9, h10, h12, h13, h14, h11, h15, h16⟩ := h
    unfold CT
    rw [vs_at] at *
    have eo : ∀ f, f ≠ 1 → bgF G f = G f := fun f hf => if_neg hf
    have e1 : bgF G 1 = G 1 + 1 := rfl
    rw [eo 0 (by decide), e1, eo 2 (by decide), eo 3 (by decide), eo 5 (by decide), eo 6 (by decide), eo 7 (by decide), eo 8 (by decide), eo 9 (by decide), eo 10 (by decide), eo 12 (by decide), eo 13 (by decide), eo 14 (by decide)]
    refine ⟨?_, ?_, ?_, fun q => absurd q (by omega), ?_, ?_, ?_, ?_, ?_, ?_, ?_, ?_, ?_, ?_, ?_, ?_⟩ <;> first | (simp only [uI1, Nat.reduceEqDiff, and_false, if_false, and_self, if_true] <;> first | assumption | rfl) | exact h11 | exact h15 | exact h16
  obtain ⟨M2, e2, hC2, hO2⟩ := c_enter (n := 0) hg hB2 hC ht (by have := (hg.2.2.2.1 t ht).2.2.2.2.2.2.2.2.1; omega) (by rw [vs_at]; exact Nat.le_add_left 1 _)
  refine ⟨M2, ?_, hC2.to rfl rfl rfl ⟨?_, rfl, rfl, rfl⟩, (On25.uI).trans hO2⟩
  · unfold B_X5_beginTick_107
    have e2' : F_X5_enterNode b (nI t) 0 (uIw M 25 b t 1 (nI (G 1 + 1))) = some M2 := e2
    rw [e1, nI_1]
    simp only [bd_eq, nI_1, e2', Option.bind_some]
  · unfold enV
    rw [vs_at, vs_at, vs_at]
theorem c_beg1 {b : Nat} {M : Mw} {β : Bw} {L : Lw} {V : Vw} {t k : Nat} {k17 : Int32 → Mw → Option Mw} {l1 : Int32} {c : Bool} (hg : GB β L) (hB : CBd (b + 5) M β L) (h : CT b M β L (vs V t (fgF c (V.1 t))) t) (h6 : M.1 23 b 0 6 = nI k) (hk : k ≤ 200) (ht : t < β 0 0 5) (hb0 : V.1 t 0 ≤ 1000) (hb1 : V.1 t 1 ≤ 1000) (hb2 : V.1 t 2 ≤ 1000) :
    ∃ M', B_X5_beginTick_43 b k17 l1 (nI t) t M = k17 (nI (t + 1)) M' ∧ CT b M' β L (vs V t (beG β c k V t)) t ∧ On30 b t M M' ∧ ∀ j, j ≤ 50 → M'.1 30 b t j = if beB β k V t = true ∧ j = V.1 t 1 then nI k else M.1 30 b t j := by
  have h5 := hg.1.2.2.2.2
  have hp := (hg.2.2.2.1 t ht).2.1
  have hp2 := (hg.2.2.2.1 t ht).2.2.1
  have e0 : M.1 25 b t 0 = nI (V.1 t 0) := by have := h.1; rw [vs_at, fgF_o c _ (by decide) (by decide)] at this; exact this
  have e1 : M.1 25 b t 1 = nI (V.1 t 1) := by have := h.2.1; rw [vs_at, fgF_o c _ (by decide) (by decide)] at this; exact this
  have e2 : M.1 25 b t 2 = nI (V.1 t 2) + (-1) := by have := h.2.2.1; rw [vs_at, fgF_o c _ (by decide) (by decide)] at this; exact this
  have hno : beB β k V t ≠ true → ∃ M', k17 (nI (t + 1)) M = k17 (nI (t + 1)) M' ∧ CT b M' β L (vs V t (beG β c k V t)) t ∧ On30 b t M M' ∧ ∀ j, j ≤ 50 → M'.1 30 b t j = if beB β k V t = true ∧ j = V.1 t 1 then nI k else M.1 30 b t j := by
    intro q
    refine ⟨M, rfl, ?_, On25.rfl.o30, fun j _ => by rw [if_neg (fun w => q w.1)]⟩
    unfold beG
    rw [if_neg q]
    exact h
  unfold B_X5_beginTick_43
  rw [e2, e0, h6]
  by_cases c2 : V.1 t 2 = 0
  case neg =>
    rw [if_neg (by
      intro q
      obtain ⟨n, hn⟩ := Nat.exists_eq_succ_of_ne_zero c2
      rw [hn, pk_m1] at q
      exact nI_nm1 (by omega) q), bd_eq, nI_1]
    exact hno (fun q => by unfold beB at q; simp [c2] at q)
  rw [if_pos (by rw [c2]; decide)]
  by_cases c0 : V.1 t 0 ≤ k
  case neg =>
    rw [if_pos (nI_lt (by omega) (by omega)), bd_eq, nI_1]
    exact hno (fun q => by unfold beB at q; simp [c0] at q)
  have e4 : M.1 4 (b + 5) t 1 = nI (β 4 t 1) := hB.2.2.1 t ht 1 (by omega)
  rw [if_neg (nI_nlt c0 (by omega)), if_pos (inb_nI (by omega) (by omega)), clampI (by omega), e4, c_divides (by omega) (by omega), Option.bind_some]
  by_cases c1 : k % β 4 t 1 = 0
  case neg =>
    rw [show (if 0 < β 4 t 1 ∧ k % β 4 t 1 = 0 then (1 : Int32) else 0) = 0 from if_neg (fun q => c1 q.2), if_pos rfl, bd_eq, nI_1]
    exact hno (fun q => by unfold beB at q; simp [c1] at q)
  have hyes : beB β k V t = true := by unfold beB; simp [c0, c1, c2]
  have eG : beG β c k V t = enF (bgF (fgF c (V.1 t))) 0 := by unfold beG; rw [if_pos hyes]
  have hG2 : fgF c (V.1 t) 2 = 0 := by rw [fgF_o c _ (by decide) (by decide), c2]
  rw [show (if 0 < β 4 t 1 ∧ k % β 4 t 1 = 0 then (1 : Int32) else 0) = 1 from if_pos ⟨by omega, c1⟩, if_neg (by decide), e1, eG]
  by_cases cj : 50 < V.1 t 1
  · rw [if_pos (show (50 : Int32) < nI (V.1 t 1) from nI_lt (a := 50) cj (by omega))]
    obtain ⟨M', q1, q2, q3⟩ := c_beg107 (k17 := k17) (l1 := l1) hg hB h ht hG2
    refine ⟨M', q1, q2, q3.o30, fun j hj => ?_⟩
    rw [if_neg (fun w => by omega), (q3 30 b t (by omega)).1]
  · have hj : V.1 t 1 < 51 := by omega
    rw [if_neg (show ¬ (50 : Int32) < nI (V.1 t 1) from nI_nlt (a := 50) (by omega) (by omega)), if_pos (inb_nI (by omega) (by omega)), if_pos (inb_nI hj (by omega)), clampI (by omega), bd_eq]
    have hB2 : CBd (b + 5) (uIw M 30 b t (V.1 t 1) (nI k)) β L := hB.run (On30.run (t := t) On30.uI)
    have h2 : CT b (uIw M 30 b t (V.1 t 1) (nI k)) β L (vs V t (fgF c (V.1 t))) t := h.to (by rw [uI_k (by decide)]) rfl rfl VE.rfl
    obtain ⟨M', q1, q2, q3⟩ := c_beg107 (k17 := k17) (l1 := l1) hg hB2 h2 ht hG2
    refine ⟨M', q1, q2, On30.uI.trans q3.o30, fun j hj => ?_⟩
    rw [(q3 30 b t (by omega)).1, uI1]
    by_cases w : j = V.1 t 1
    · rw [if_pos ⟨rfl, rfl, rfl, w⟩, if_pos ⟨hyes, w⟩]
    · rw [if_neg (fun z => w z.2.2.2), if_neg (fun z => w z.2)]
theorem beV_ge {β : Bw} {c : Bool} {k : Nat} {V : Vw} {n t : Nat} (h : n ≤ t) : VE V (beV β c k V n) t := ⟨if_neg (by omega), rfl, rfl, rfl⟩
theorem beV_at {β : Bw} {c : Bool} {k : Nat} {V : Vw} {n : Nat} : VE (vs V n (beG β c k V n)) (beV β c k V (n + 1)) n := by
  refine ⟨?_, rfl, rfl, rfl⟩
  rw [vs_at]
  exact if_pos (Nat.lt_succ_self n)
theorem beV_s {β : Bw} {c : Bool} {k : Nat} {V : Vw} {n t : Nat} (h : t ≠ n) : VE (beV β c k V n) (beV β c k V (n + 1)) t := by
  refine ⟨?_, rfl, rfl, rfl⟩
  show (if _ then _ else _) = (if _ then _ else _)
  by_cases w : t < n
  · rw [if_pos w, if_pos (by omega)]
  · rw [if_neg w, if_neg (by omega)]
/-- bounds of the numbers -/
def VB (β : Bw) (V : Vw) : Prop := ∀ t, t < β 0 0 5 → V.1 t 0 ≤ 1000 ∧ V.1 t 1 ≤ 1000 ∧ V.1 t 2 ≤ 1000
theorem c_begin {b : Nat} {M : Mw} {β : Bw} {L : Lw} {V : Vw} {A : Nat → Nat → Nat} {k : Nat} (hg : GB β L) (hB : CBd (b + 5) M β L) (hT : CTs b M β L V) (hA : CA b M β V A) (h6 : M.1 23 b 0 6 = nI k) (hk : k ≤ 200) (hv : VB β V) :
    ∃ M', F_X5_beginTick b M = some M' ∧ CTs b M' β L (beV β (decide (0 < β 0 0 1 ∧ k % β 0 0 1 = 0)) k V (β 0 0 5)) ∧ CA b M' β (beV β (decide (0 < β 0 0 1 ∧ k % β 0 0 1 = 0)) k V (β 0 0 5)) (beA β k V A (β 0 0 5)) ∧ Fr (fun κ b' => (κ = 25 ∨ κ = 30) ∧ b' = b) M M' := by
  have h5 := hg.1.2.2.2.2
  have hcy := hg.1.2.1
  have e01 := hB.1 1 (by omega)
  unfold F_X5_beginTick
  rw [e01, h6, c_divides (by omega) (by omega), Option.bind_some]
  generalize hc : decide (0 < β 0 0 1 ∧ k % β 0 0 1 = 0) = c
  have hv1 : (if 0 < β 0 0 1 ∧ k % β 0 0 1 = 0 then (1 : Int32) else 0) = if c = true then 1 else 0 := by
    rw [← hc]
    simp
  rw [hv1]
  have key := it_for (z := fun _ _ => none) (B := B_X5_beginTick_17 b (if c = true then 1 else 0)) (n := β 0 0 5) (P := fun n M1 => (∀ t, t < β 0 0 5 → CT b M1 β L (beV β c k V n) t) ∧ (∀ t, t < β 0 0 5 → ∀ j, j ≤ 50 → M1.1 30 b t j = if t < n ∧ beB β k V t = true ∧ j = V.1 t 1 then nI k else M.1 30 b t j) ∧ Fr (fun κ b' => (κ = 25 ∨ κ = 30) ∧ b' = b) M M1) (Q := fun o => ∃ M', o = some M' ∧ CTs b M' β L (beV β c k V (β 0 0 5)) ∧ CA b M' β (beV β c k V (β 0 0 5)) (beA β k V A (β 0 0 5)) ∧ Fr (fun κ b' => (κ = 25 ∨ κ = 30) ∧ b' = b) M M') (fun k17 n M1 hn hP => by
    obtain ⟨hT1, hA1, hF1⟩ := hP
    left
    have hB1 : CBd (b + 5) M1 β L := hB.run (hF1.mono (fun κ b' q => ⟨by omega, by omega, q.2⟩))
    have e05 := hB1.1 5 (by omega)
    have e6 : M1.1 23 b 0 6 = nI k := by rw [(hF1 23 b (by omega)).1, h6]
    have h0 : CT b M1 β L V n := (hT1 n hn).to rfl rfl rfl ⟨(beV_ge (Nat.le_refl n)).1.symm, rfl, rfl, rfl⟩
    have hfg : ∃ M2, (if (if c = true then (1 : Int32) else 0) = 0 then B_X5_beginTick_43 b k17 (if c = true then 1 else 0) (nI n) n M1 else (F_X7_forgetCycle b n M1).bind (fun M23 => B_X5_beginTick_43 b k17 (if c = true then 1 else 0) (nI n) n M23)) = B_X5_beginTick_43 b k17 (if c = true then 1 else 0) (nI n) n M2 ∧ CT b M2 β L (vs V n (fgF c (V.1 n))) n ∧ On25 b n M1 M2 := by
      cases hcc : c with
      | false =>
        refine ⟨M1, by rw [if_pos (by decide)], h0.to rfl rfl rfl ⟨by rw [vs_at, fgF_f], rfl, rfl, rfl⟩, On25.rfl⟩
      | true =>
        obtain ⟨M2, q1, q2, q3⟩ := c_forget h0
        exact ⟨M2, by rw [if_neg (by decide), q1, Option.bind_some], q2, q3⟩
    obtain ⟨M2, q1, q2, q3⟩ := hfg
    have hB2 : CBd (b + 5) M2 β L := hB1.run q3.run
    obtain ⟨v0, v1, v2⟩ := hv n hn
    obtain ⟨M3, r1, r2, r3, r4⟩ := c_beg1 (k17 := k17) (l1 := if c = true then 1 else 0) (c := c) hg hB2 q2 (by rw [(q3 23 b 0 (by omega)).1, e6]) hk hn v0 v1 v2
    refine ⟨M3, ?_, fun t ht => ?_, fun t ht j hj => ?_, hF1.trans ((q3.o30.trans r3).fr)⟩
    · unfold B_X5_beginTick_17
      rw [e05, if_neg (nI_ge hn (by omega)), if_pos (inb_nI (by omega) (by omega)), clampI (by omega), q1, r1]
    · by_cases w : t = n
      · subst w
        exact r2.to rfl rfl rfl beV_at
      · obtain ⟨o1, o2, o3⟩ := (q3.o30.trans r3) 25 b t (by omega)
        exact (hT1 t ht).to o1 o2 o3 (beV_s w)
    · by_cases w : t = n
      · subst w
        rw [r4 j hj, (q3 30 b t (by omega)).1, hA1 t ht j hj, if_neg (show ¬ (t < t ∧ beB β k V t = true ∧ j = V.1 t 1) from fun q => by omega)]
        by_cases z : beB β k V t = true ∧ j = V.1 t 1
        · rw [if_pos z, if_pos ⟨Nat.lt_succ_self t, z⟩]
        · rw [if_neg z, if_neg (fun q => z q.2)]
      · rw [((q3.o30.trans r3) 30 b t (by omega)).1, hA1 t ht j hj]
        by_cases z : t < n ∧ beB β k V t = true ∧ j = V.1 t 1
        · rw [if_pos z, if_pos ⟨by omega, z.2⟩]
        · rw [if_neg z, if_neg (fun q => z ⟨by omega, q.2⟩)])
    (fun k17 M1 hP => by
      obtain ⟨hT1, hA1, hF1⟩ := hP
      have hB1 : CBd (b + 5) M1 β L := hB.run (hF1.mono (fun κ b' q => ⟨by omega, by omega, q.2⟩))
      unfold B_X5_beginTick_17
      rw [hB1.1 5 (by omega), if_pos (Int32.le_refl _)]
      refine ⟨M1, rfl, hT1, fun t ht j hj1 hj => ?_, hF1⟩
      rw [hA1 t ht j hj]
      by_cases z : t < β 0 0 5 ∧ beB β k V t = true ∧ j = V.1 t 1
      · rw [if_pos z]
        unfold beA
        rw [if_pos z]
      · rw [if_neg z]
        unfold beA
        rw [if_neg z]
        refine hA t ht j ?_ hj
        have hj2 : j < beG β c k V t 1 := by
          have : (beV β c k V (β 0 0 5)).1 t = beG β c k V t := if_pos ht
          rw [← this]; exact hj1
        unfold beG at hj2
        by_cases y : beB β k V t = true
        · rw [if_pos y] at hj2
          have : enF (bgF (fgF c (V.1 t))) 0 1 = V.1 t 1 + 1 := by
            show fgF c (V.1 t) 1 + 1 = _
            rw [fgF_o c _ (by decide) (by decide)]
          rw [this] at hj2
          have : j ≠ V.1 t 1 := fun q => z ⟨ht, y, q⟩
          omega
        · rw [if_neg y, fgF_o c _ (by decide) (by decide)] at hj2
          exact hj2)
    FU 0 M (Nat.zero_le _) (by show β 0 0 5 < 0 + FU; unfold FU; omega) ⟨fun t ht => (hT t ht).to rfl rfl rfl (beV_ge (Nat.zero_le t)), fun t ht j hj => by rw [if_neg (fun q => by omega)], Fr.rfl⟩
  exact key
