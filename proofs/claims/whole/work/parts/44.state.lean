/-! THE RUN'S STATE, in numbers: V.1 t f as a class's task has them (2 the place, 5 the latest kick, 13 the latest good tick: one more; 3: units done), V.2: fitness, least margin, sum of margins. -/
abbrev Vw : Type := (Nat → Nat → Nat) × (Nat → UInt32) × (Nat → UInt32) × (Nat → UInt64)
def due (β : Bw) (t n : Nat) (c : Int32) : Nat := β 6 t n * (if c = 3 then 2 else 1)
abbrev chV (L : Lw) (V : Vw) (t : Nat) : Int32 := chg L (nI t) (nI (V.1 t 1 - 1)) (nI (V.1 t 2 - 1))
/-- a task as the class has it -/
def CT (b : Nat) (M : Mw) (β : Bw) (L : Lw) (V : Vw) (t : Nat) : Prop :=
  M.1 25 b t 0 = nI (V.1 t 0) ∧ M.1 25 b t 1 = nI (V.1 t 1) ∧ M.1 25 b t 2 = nI (V.1 t 2) + (-1) ∧
  (0 < V.1 t 2 → M.1 25 b t 4 = chV L V t ∧ (chV L V t ≠ 0 → M.1 25 b t 3 = nI (due β t (V.1 t 2 - 1) (chV L V t) - V.1 t 3) ∧ V.1 t 3 ≤ due β t (V.1 t 2 - 1) (chV L V t))) ∧
  M.1 25 b t 5 = nI (V.1 t 5) + (-1) ∧ M.1 25 b t 6 = nI (V.1 t 6) ∧ M.1 25 b t 7 = nI (V.1 t 7) ∧ M.1 25 b t 8 = nI (V.1 t 8) ∧ M.1 25 b t 9 = nI (V.1 t 9) ∧ M.1 25 b t 10 = nI (V.1 t 10) ∧
  M.1 25 b t 12 = nI (V.1 t 12) ∧ M.1 25 b t 13 = nI (V.1 t 13) + (-1) ∧ M.1 25 b t 14 = nI (V.1 t 14) ∧
  M.2.1 25 b t 11 = V.2.1 t ∧ (0 < V.1 t 14 → M.2.1 25 b t 15 = V.2.2.1 t) ∧ M.2.2 25 b t 16 = V.2.2.2 t
/-- a task as the reference has it -/
def RT (M : Mw) (V : Vw) (t : Nat) : Prop :=
  M.1 64 0 0 t = nI (V.1 t 0) ∧ M.1 66 0 0 t = nI (V.1 t 1) ∧ M.1 65 0 0 t = (if V.1 t 2 = 0 then -1 else nI (V.1 t 1 - 1)) ∧
  (0 < V.1 t 2 → M.1 67 0 0 t = nI (V.1 t 2 - 1) ∧ M.1 68 0 0 t = nI (V.1 t 3)) ∧
  M.1 70 0 0 t = (if V.1 t 5 = 0 then nI (V.1 t 0) + (-1) else nI (V.1 t 5) + (-1)) ∧ M.1 71 0 0 t = (if V.1 t 5 = 0 then 0 else 1) ∧ M.1 69 0 0 t = nI (V.1 t 6) ∧ M.1 73 0 0 t = nI (V.1 t 7) ∧ M.1 75 0 0 t = nI (V.1 t 8) ∧ M.1 76 0 0 t = nI (V.1 t 9) ∧ M.1 72 0 0 t = nI (V.1 t 10) ∧
  M.1 77 0 0 t = nI (V.1 t 12) ∧ M.1 78 0 0 t = nI (V.1 t 13) + (-1) ∧ M.1 81 0 0 t = nI (V.1 t 14) ∧
  M.2.1 74 0 0 t = V.2.1 t ∧ (0 < V.1 t 14 → M.2.1 79 0 0 t = V.2.2.1 t) ∧ M.2.2 80 0 0 t = V.2.2.2 t
/-- the same task in two states -/
def VE (V V' : Vw) (t : Nat) : Prop := V'.1 t = V.1 t ∧ V'.2.1 t = V.2.1 t ∧ V'.2.2.1 t = V.2.2.1 t ∧ V'.2.2.2 t = V.2.2.2 t
theorem VE.rfl {V : Vw} {t : Nat} : VE V V t := ⟨Eq.refl _, Eq.refl _, Eq.refl _, Eq.refl _⟩
theorem VE.trans {V V1 V2 : Vw} {t : Nat} (h : VE V V1 t) (h2 : VE V1 V2 t) : VE V V2 t := ⟨h2.1.trans h.1, h2.2.1.trans h.2.1, h2.2.2.1.trans h.2.2.1, h2.2.2.2.trans h.2.2.2⟩
theorem CT.to {b : Nat} {M M' : Mw} {β : Bw} {L : Lw} {V V' : Vw} {t : Nat} (h : CT b M β L V t) (h1 : M'.1 25 b t = M.1 25 b t) (h2 : M'.2.1 25 b t = M.2.1 25 b t) (h3 : M'.2.2 25 b t = M.2.2 25 b t) (hV : VE V V' t) : CT b M' β L V' t := by
  obtain ⟨e1, e2, e3, e4⟩ := hV
  unfold CT chV at h ⊢
  rw [h1, h2, h3, e1, e2, e3, e4]
  exact h
/-- nothing but one task's cell -/
def On25 (b t : Nat) (M M' : Mw) : Prop := ∀ κ b' i : Nat, ¬ (κ = 25 ∧ b' = b ∧ i = t) → M'.1 κ b' i = M.1 κ b' i ∧ M'.2.1 κ b' i = M.2.1 κ b' i ∧ M'.2.2 κ b' i = M.2.2 κ b' i
theorem On25.rfl {b t : Nat} {M : Mw} : On25 b t M M := fun _ _ _ _ => ⟨Eq.refl _, Eq.refl _, Eq.refl _⟩
theorem On25.trans {b t : Nat} {M M1 M2 : Mw} (h : On25 b t M M1) (h2 : On25 b t M1 M2) : On25 b t M M2 := fun κ b' i hn => ⟨(h2 κ b' i hn).1.trans (h κ b' i hn).1, (h2 κ b' i hn).2.1.trans (h κ b' i hn).2.1, (h2 κ b' i hn).2.2.trans (h κ b' i hn).2.2⟩
theorem On25.uI {b t j : Nat} {M : Mw} {v : Int32} : On25 b t M (uIw M 25 b t j v) := by
  intro κ b' i hn
  refine ⟨?_, Eq.refl _, Eq.refl _⟩
  funext j'
  rw [uI1, if_neg]
  rintro ⟨rfl, rfl, rfl, -⟩
  exact hn ⟨Eq.refl _, Eq.refl _, Eq.refl _⟩
theorem On25.uF {b t j : Nat} {M : Mw} {v : UInt32} : On25 b t M (uFw M 25 b t j v) := by
  intro κ b' i hn
  refine ⟨Eq.refl _, ?_, Eq.refl _⟩
  funext j'
  rw [uF2, if_neg]
  rintro ⟨rfl, rfl, rfl, -⟩
  exact hn ⟨Eq.refl _, Eq.refl _, Eq.refl _⟩
theorem On25.uD {b t j : Nat} {M : Mw} {v : UInt64} : On25 b t M (uDw M 25 b t j v) := by
  intro κ b' i hn
  refine ⟨Eq.refl _, Eq.refl _, ?_⟩
  funext j'
  rw [uD3, if_neg]
  rintro ⟨rfl, rfl, rfl, -⟩
  exact hn ⟨Eq.refl _, Eq.refl _, Eq.refl _⟩
theorem On25.fr {b t : Nat} {M M' : Mw} (h : On25 b t M M') : Fr (fun κ b' => κ = 25 ∧ b' = b) M M' := by
  intro κ b' hn
  refine ⟨funext fun i => (h κ b' i (fun q => hn ⟨q.1, q.2.1⟩)).1, funext fun i => (h κ b' i (fun q => hn ⟨q.1, q.2.1⟩)).2.1, funext fun i => (h κ b' i (fun q => hn ⟨q.1, q.2.1⟩)).2.2⟩
/-- one task's numbers, set -/
def vs (V : Vw) (t : Nat) (F : Nat → Nat) : Vw := (fun t' => if t' = t then F else V.1 t', V.2)
theorem vs_at (V : Vw) (t : Nat) (F : Nat → Nat) : (vs V t F).1 t = F := if_pos rfl
theorem vs_ne {V : Vw} {t t' : Nat} {F : Nat → Nat} (h : t' ≠ t) : VE V (vs V t F) t' := ⟨if_neg h, Eq.refl _, Eq.refl _, Eq.refl _⟩
/-- a restart -/
def rsF (F : Nat → Nat) (s : Nat) : Nat → Nat := fun f => if f = 0 then s else if f = 2 then 0 else if f = 5 then 0 else if f = 6 then 1 else F f
def rsV (V : Vw) (t s : Nat) : Vw := vs V t (rsF (V.1 t) s)
theorem c_restart {b : Nat} {M : Mw} {β : Bw} {L : Lw} {V : Vw} {t : Nat} (h : CT b M β L V t) (s : Nat) : ∃ M', F_X7_restartAt b t (nI s) M = some M' ∧ CT b M' β L (rsV V t s) t ∧ On25 b t M M' := by
  refine ⟨_, rfl, ?_, ?_⟩
  · obtain ⟨h0, h1, h2, h3, h5, h6, h7, h8, h9, h10, h12, h13, h14, h11, h15, h16⟩ := h
    unfold CT rsV chV
    rw [vs_at]
    refine ⟨?_, ?_, ?_, ?_, ?_, ?_, ?_, ?_, ?_, ?_, ?_, ?_, ?_, ?_, ?_, ?_⟩ <;> simp [uI1, uI2, rsF, vs, h1, h7, h8, h9, h10, h12, h13, h14, h11, h16] <;> first | decide +kernel | exact h15
  · exact ((((On25.uI.trans On25.uI).trans On25.uI).trans On25.uI).trans On25.uI).trans On25.uI
