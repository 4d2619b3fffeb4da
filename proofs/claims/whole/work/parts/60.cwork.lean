/-! A TICK OF A TASK'S OWN: the numbers -/
def ltF (a c : UInt32) : Bool := decide (¬ 0 ≤ Op.cmpValue (FP.fcmp a c) .g)
def hUp (h : UInt32) : UInt32 := FP.fadd h (FP.fmul (FP.fsub FP.fconst1 h) 1048576000)
def mgn (β : Bw) (V : Vw) (t k : Nat) : UInt32 := FP.fdiv (FP.i2f (nI (β 4 t 3 - gpN V t k))) (FP.i2f (nI (β 4 t 3 - β 4 t 2)))
def lsN (m : UInt32) (V : Vw) (t : Nat) : UInt32 := if V.1 t 14 = 0 ∨ ltF m (V.2.2.1 t) = true then m else V.2.2.1 t
def mgV (m : UInt32) (V : Vw) (t : Nat) : Vw := (fun t' => if t' = t then (fun f => if f = 14 then V.1 t 14 + 1 else V.1 t f) else V.1 t', V.2.1, fun t' => if t' = t then lsN m V t else V.2.2.1 t', fun t' => if t' = t then FP.dadd (V.2.2.2 t) (FP.f2d m) else V.2.2.2 t')
def gkF (k : Nat) (F : Nat → Nat) : Nat → Nat := fun f => if f = 12 then F 12 + 1 else if f = 10 then F 10 + 1 else if f = 13 then k + 1 else if f = 5 then k + 1 else if f = 6 then (13 * F 6 + 7) % 64 else if f = 2 then 0 else F f
def gdV (k : Nat) (V : Vw) (t : Nat) : Vw := (fun t' => if t' = t then gkF k (V.1 t) else V.1 t', fun t' => if t' = t then hUp (V.2.1 t) else V.2.1 t', V.2.2)
def goV (β : Bw) (k : Nat) (V : Vw) (t : Nat) : Vw := gdV k (if V.1 t 5 = 0 then V else mgV (mgn β V t k) V t) t
def unV (V : Vw) (t : Nat) : Vw := vs V t (fun f => if f = 3 then V.1 t 3 + 1 else V.1 t f)
/-- the kind of a kick's fault, 0: good -/
def kkN (β : Bw) (L : Lw) (k t cut : Nat) (V : Vw) : Nat := if cut ≠ 0 then 3 else if chg L (nI t) (nI (V.1 t 1 - 1)) (-1) = 4 then 4 else if V.1 t 5 ≠ 0 ∧ gpN V t k < β 4 t 2 then 1 else 0
/-- a node's end: 0: it goes on, 1: another node, 2: a kick -/
def wkC (β : Bw) (L : Lw) (V : Vw) (t : Nat) : Nat := if chV L V t = 0 ∨ V.1 t 3 + 1 < due β t (V.1 t 2 - 1) (chV L V t) then 0 else if fol β t (V.1 t 2 - 1) (V.1 t 1 - 1) ≠ 0 ∧ chV L V t ≠ 2 then 1 else 2
def wkS (β : Bw) (L : Lw) (k t : Nat) (s : Vw × Hw) : Vw × Hw :=
  if wkC β L s.1 t = 0 then (unV s.1 t, s.2) else if wkC β L s.1 t = 1 then (enV (unV s.1 t) t (fol β t (s.1.1 t 2 - 1) (s.1.1 t 1 - 1) - 1), s.2) else
  if kkN β L k t (fol β t (s.1.1 t 2 - 1) (s.1.1 t 1 - 1)) s.1 = 0 then (goV β k (unV s.1 t) t, s.2) else failS β k (kkN β L k t (fol β t (s.1.1 t 2 - 1) (s.1.1 t 1 - 1)) s.1) t (unV s.1 t, s.2)
def wkK (β : Bw) (L : Lw) (k t : Nat) (V : Vw) (K : List (Nat × Nat)) : List (Nat × Nat) := if wkC β L V t = 2 ∧ kkN β L k t (fol β t (V.1 t 2 - 1) (V.1 t 1 - 1)) V = 0 then K ++ [(t, gpN V t k)] else K
def CK (b : Nat) (M : Mw) (K : List (Nat × Nat)) : Prop := M.1 23 b 0 12 = nI K.length ∧ ∀ (i : Nat) (r : Nat × Nat), K[i]? = some r → M.1 31 b 0 i = nI r.1 ∧ M.1 32 b 0 i = nI r.2
/-- what is asked of floats -/
def FH (FO FM : UInt32 → Prop) (FS : Nat → UInt64 → Prop) : Prop :=
  (∀ x, FO x → nf (FP.fdiv x FP.fconst2) = true ∧ FO (FP.fdiv x FP.fconst2)) ∧
  (∀ x, FO x → nf (FP.fsub FP.fconst1 x) = true ∧ nf (FP.fmul (FP.fsub FP.fconst1 x) 1048576000) = true ∧ nf (hUp x) = true ∧ FO (hUp x)) ∧
  (∀ a c, a ≤ c → 1 ≤ c → c ≤ 120 → nf (FP.fdiv (FP.i2f (nI a)) (FP.i2f (nI c))) = true ∧ FM (FP.fdiv (FP.i2f (nI a)) (FP.i2f (nI c)))) ∧
  (∀ m, FM m → nd (FP.f2d m) = true) ∧
  (∀ n d m, n < 200 → FS n d → FM m → nd (FP.dadd d (FP.f2d m)) = true ∧ FS (n + 1) (FP.dadd d (FP.f2d m)))
theorem mgV_f (m : UInt32) (V : Vw) (t : Nat) {f : Nat} (h : f ≠ 14) : (mgV m V t).1 t f = V.1 t f := by
  show (if t = t then (fun f => if f = 14 then V.1 t 14 + 1 else V.1 t f) else V.1 t) f = _
  rw [if_pos rfl]
  exact if_neg h
theorem mgV_14 (m : UInt32) (V : Vw) (t : Nat) : (mgV m V t).1 t 14 = V.1 t 14 + 1 := by
  show (if t = t then (fun f => if f = 14 then V.1 t 14 + 1 else V.1 t f) else V.1 t) 14 = _
  rw [if_pos rfl]
  rfl
theorem mgV_ne {m : UInt32} {V : Vw} {t t' : Nat} (h : t' ≠ t) : VE V (mgV m V t) t' := ⟨if_neg h, rfl, if_neg h, if_neg h⟩
theorem gdV_ne {k : Nat} {V : Vw} {t t' : Nat} (h : t' ≠ t) : VE V (gdV k V t) t' := ⟨if_neg h, if_neg h, rfl, rfl⟩
theorem c_m33 {b : Nat} {M M1 : Mw} {β : Bw} {L : Lw} {V : Vw} {t : Nat} {m : UInt32} (h : CT b M β L V t) (e1 : M1.1 25 b t = M.1 25 b t) (e3 : M1.2.2 25 b t = M.2.2 25 b t) (e11 : M1.2.1 25 b t 11 = V.2.1 t) (e15 : M1.2.1 25 b t 15 = lsN m V t) (n1 : nd (FP.f2d m) = true) (n2 : nd (FP.dadd (V.2.2.2 t) (FP.f2d m)) = true) :
    ∃ M', B_X7_addMargin_33 b t m M1 = some M' ∧ CT b M' β L (mgV m V t) t ∧ On25 b t M1 M' := by
  obtain ⟨h0, h1, h2, h3, h5, h6, h7, h8, h9, h10, h12, h13, h14, h11, h15, h16⟩ := h
  have d16 : (uIw M1 25 b t 14 (M1.1 25 b t 14 + 1)).2.2 25 b t 16 = V.2.2.2 t := by rw [uI2, e3, h16]
  have d14 : M1.1 25 b t 14 = nI (V.1 t 14) := by rw [e1, h14]
  unfold B_X7_addMargin_33
  rw [bd_eq, d16, if_pos n1, if_pos n2, bd_eq, d14, nI_1]
  refine ⟨_, rfl, ?_, On25.uI.trans On25.uD⟩
  have ec : chV L (mgV m V t) t = chV L V t := by
    unfold chV
    rw [mgV_f m V t (by decide), mgV_f m V t (by decide)]
  have g : ∀ f, f ≠ 14 → (uDw (uIw M1 25 b t 14 (nI (V.1 t 14 + 1))) 25 b t 16 (FP.dadd (V.2.2.2 t) (FP.f2d m))).1 25 b t f = M.1 25 b t f := by
    intro f hf
    rw [uD1, uI1, if_neg (fun q => hf q.2.2.2), e1]
  unfold CT
  rw [ec, mgV_f m V t (show 0 ≠ 14 by decide), mgV_f m V t (show 1 ≠ 14 by decide), mgV_f m V t (show 2 ≠ 14 by decide), mgV_f m V t (show 3 ≠ 14 by decide), mgV_f m V t (show 5 ≠ 14 by decide), mgV_f m V t (show 6 ≠ 14 by decide), mgV_f m V t (show 7 ≠ 14 by decide), mgV_f m V t (show 8 ≠ 14 by decide), mgV_f m V t (show 9 ≠ 14 by decide), mgV_f m V t (show 10 ≠ 14 by decide), mgV_f m V t (show 12 ≠ 14 by decide), mgV_f m V t (show 13 ≠ 14 by decide), mgV_14, g 0 (by decide), g 1 (by decide), g 2 (by decide), g 3 (by decide), g 4 (by decide), g 5 (by decide), g 6 (by decide), g 7 (by decide), g 8 (by decide), g 9 (by decide), g 10 (by decide), g 12 (by decide), g 13 (by decide)]
  refine ⟨h0, h1, h2, h3, h5, h6, h7, h8, h9, h10, h12, h13, ?_, ?_, fun _ => ?_, ?_⟩
  · rw [uD1, uI1, if_pos ⟨rfl, rfl, rfl, rfl⟩]
  · rw [uD2, uI2]
    exact e11
  · rw [uD2, uI2, e15]
    exact (if_pos rfl).symm
  · rw [uD3, if_pos ⟨rfl, rfl, rfl, rfl⟩]
    exact (if_pos rfl).symm
theorem c_margin {b : Nat} {M : Mw} {β : Bw} {L : Lw} {V : Vw} {t a c : Nat} (h : CT b M β L V t) (hc : 1 ≤ c) (hc2 : c ≤ 1000) (h14b : V.1 t 14 ≤ 1000) (n0 : nf (FP.fdiv (FP.i2f (nI a)) (FP.i2f (nI c))) = true) (n1 : nd (FP.f2d (FP.fdiv (FP.i2f (nI a)) (FP.i2f (nI c)))) = true) (n2 : nd (FP.dadd (V.2.2.2 t) (FP.f2d (FP.fdiv (FP.i2f (nI a)) (FP.i2f (nI c))))) = true) :
    ∃ M', F_X7_addMargin b t (nI a) (nI c) M = some M' ∧ CT b M' β L (mgV (FP.fdiv (FP.i2f (nI a)) (FP.i2f (nI c))) V t) t ∧ On25 b t M M' := by
  obtain ⟨h0, h1, h2, h3, h5, h6, h7, h8, h9, h10, h12, h13, h14, h11, h15, h16⟩ := id h
  unfold F_X7_addMargin
  rw [if_pos (show (1 : Int32) ≤ nI c from nI_le (a := 1) hc (by omega)), if_pos n0, bd_eq, h14]
  generalize FP.fdiv (FP.i2f (nI a)) (FP.i2f (nI c)) = m at n1 n2 ⊢
  have hset : V.1 t 14 = 0 ∨ ltF m (V.2.2.1 t) = true → ∃ M', B_X7_addMargin_28 b t m M = some M' ∧ CT b M' β L (mgV m V t) t ∧ On25 b t M M' := by
    intro q
    unfold B_X7_addMargin_28
    rw [bd_eq]
    obtain ⟨M', r1, r2, r3⟩ := c_m33 (M1 := uFw M 25 b t 15 m) h (by rw [uF1]) (by rw [uF3]) (by rw [uF2, if_neg (by omega), h11]) (by rw [uF2, if_pos ⟨rfl, rfl, rfl, rfl⟩]; unfold lsN; rw [if_pos q]) n1 n2
    exact ⟨M', r1, r2, On25.uF.trans r3⟩
  by_cases c0 : V.1 t 14 = 0
  · rw [if_pos (by rw [c0]; rfl)]
    exact hset (Or.inl c0)
  rw [if_neg (nI_ne0 (by omega) (by omega)), h15 (by omega)]
  by_cases c1 : 0 ≤ Op.cmpValue (FP.fcmp m (V.2.2.1 t)) .g
  · rw [if_pos c1]
    exact c_m33 (M1 := M) h rfl rfl h11 (by rw [h15 (by omega)]; unfold lsN; rw [if_neg (fun q => q.elim c0 (fun w => (of_decide_eq_true w) c1))]) n1 n2
  · rw [if_neg c1]
    exact hset (Or.inr (decide_eq_true c1))
