/-! A TASK'S FAULT, in the class -/
def lowF (β : Bw) (h : UInt32) : Bool := decide (¬ 0 ≤ Op.cmpValue (FP.fcmp h (FP.fdiv (FP.i2f (nI (β 0 0 2))) 1092616192)) .g)
theorem lowF_pos {β : Bw} {h : UInt32} (c : ¬ 0 ≤ Op.cmpValue (FP.fcmp h (FP.fdiv (FP.i2f (nI (β 0 0 2))) 1092616192)) .g) : lowF β h = true := decide_eq_true c
theorem lowF_neg {β : Bw} {h : UInt32} (c : 0 ≤ Op.cmpValue (FP.fcmp h (FP.fdiv (FP.i2f (nI (β 0 0 2))) 1092616192)) .g) : ¬ lowF β h = true := fun q => (of_decide_eq_true q) c
def flV (V : Vw) (t : Nat) : Vw := (fun t' => if t' = t then (fun f => if f = 7 then V.1 t 7 + 1 else if f = 8 then 0 else if f = 9 then 1 else V.1 t f) else V.1 t', fun t' => if t' = t then FP.fdiv (V.2.1 t) FP.fconst2 else V.2.1 t', V.2.2)
def flL (β : Bw) (V : Vw) (t : Nat) : Nat := min 3 (V.1 t 7 + (if lowF β (FP.fdiv (V.2.1 t) FP.fconst2) = true then 1 else 0))
def adH (H : Hw) (r : Nat × Nat × Nat × Nat) : Hw := (H.1, H.2.1, H.2.2.1 ++ [r], H.2.2.2)
theorem flV_ne {V : Vw} {t t' : Nat} (h : t' ≠ t) : VE V (flV V t) t' := ⟨if_neg h, if_neg h, Eq.refl _, Eq.refl _⟩
theorem c_suffer {b : Nat} {M : Mw} {β : Bw} {L : Lw} {V : Vw} {t : Nat} (h : CT b M β L V t) (hn : nf (FP.fdiv (V.2.1 t) FP.fconst2) = true) : ∃ M', F_X7_suffer b t M = some M' ∧ CT b M' β L (flV V t) t ∧ On25 b t M M' := by
  obtain ⟨h0, h1, h2, h3, h5, h6, h7, h8, h9, h10, h12, h13, h14, h11, h15, h16⟩ := h
  have e : (uIw M 25 b t 7 (M.1 25 b t 7 + 1)).2.1 25 b t 11 = V.2.1 t := by
    rw [uI2]
    exact h11
  unfold F_X7_suffer
  simp only [bd_eq]
  rw [e, if_pos hn]
  refine ⟨_, Eq.refl _, ?_, ?_⟩
  · unfold CT chV flV
    have e7 : nI (V.1 t 7) + 1 = nI (V.1 t 7 + 1) := nI_1 _
    refine ⟨?_, ?_, ?_, ?_, ?_, ?_, ?_, ?_, ?_, ?_, ?_, ?_, ?_, ?_, ?_, ?_⟩ <;> simp [uI1, uI2, uF1, uF2, uF3, h0, h1, h2, h5, h6, h7, h10, h12, h13, h14, h16, e7]
    · exact h3
    · decide +kernel
    · decide +kernel
    · exact h15
  · exact ((On25.uI.trans On25.uF).trans On25.uI).trans On25.uI
theorem getElem?_snoc {α : Type} {l : List α} {x r : α} {i : Nat} (h : (l ++ [x])[i]? = some r) : l[i]? = some r ∧ i < l.length ∨ i = l.length ∧ r = x := by
  by_cases c : i < l.length
  · rw [List.getElem?_append_left c] at h
    exact Or.inl ⟨h, c⟩
  · rw [List.getElem?_append_right (by omega)] at h
    have h1 : i - l.length < 1 := (List.getElem?_eq_some_iff.mp h).1
    have h2 : i = l.length := by omega
    subst h2
    rw [Nat.sub_self] at h
    exact Or.inr ⟨rfl, (Option.some.inj h).symm⟩
theorem c_add {b : Nat} {M : Mw} {β : Bw} {H : Hw} {k kind who lev : Nat} (hG : CG b M β k H) (hl : H.2.2.1.length < 128) : ∃ M', F_X4_add b (nI k) (nI kind) (nI who) (nI lev) M = some M' ∧ CG b M' β k (adH H (k, kind, who, lev)) ∧ Fr (fun κ b' => (κ = 26 ∨ κ = 28) ∧ b' = b) M M' := by
  obtain ⟨g6, g7, g5, g8, gw, gn, gr⟩ := hG
  unfold F_X4_add
  rw [gn, if_pos (show nI H.2.2.1.length < 128 from nI_lt (b := 128) hl (by omega)), if_pos (inb_nI hl (by omega)), clampI (by omega)]
  simp only [bd_eq]
  refine ⟨_, Eq.refl _, ⟨?_, ?_, ?_, ?_, fun w hw => ?_, ?_, fun i r hr => ?_⟩, ?_⟩
  · simp [uI1, g6]
  · simp [uI1, g7, adH]
  · simp [uI1, g5, adH]
  · simp [uI1, g8, adH]
  · refine ⟨?_, ?_⟩
    · simp [uI1, (gw w hw).1, adH]
    · simp [uI1, (gw w hw).2, adH]
  · simp [uI1, gn, adH, nI_1]
  · rcases getElem?_snoc hr with ⟨h1, h2⟩ | ⟨h1, h2⟩
    · obtain ⟨a0, a1, a2, a3⟩ := gr i r h1
      have hne : ¬ i = H.2.2.1.length := by omega
      refine ⟨?_, ?_, ?_, ?_⟩ <;> simp [uI1, hne, a0, a1, a2, a3]
    · subst h2
      subst h1
      refine ⟨?_, ?_, ?_, ?_⟩ <;> simp [uI1]
  · exact (((((Fr.uI ⟨Or.inr rfl, rfl⟩).trans (Fr.uI ⟨Or.inr rfl, rfl⟩)).trans (Fr.uI ⟨Or.inr rfl, rfl⟩)).trans (Fr.uI ⟨Or.inr rfl, rfl⟩))).trans (Fr.uI ⟨Or.inl rfl, rfl⟩)
theorem c_fail {b : Nat} {M : Mw} {β : Bw} {L : Lw} {V : Vw} {H : Hw} {k t kind : Nat} (hg : GB β L) (hB : CBd (b + 5) M β L) (hT : CTs b M β L V) (hG : CG b M β k H) (hk : k ≤ 200) (ht : t < β 0 0 5) (hH : H.2.2.2.1 ≤ 2) (hl : H.2.2.1.length < 128) (hn : nf (FP.fdiv (V.2.1 t) FP.fconst2) = true) (hlow : nf (FP.fdiv (FP.i2f (nI (β 0 0 2))) 1092616192) = true) (hm : V.1 t 7 ≤ 1000) :
    ∃ M', F_X5_failTask b (nI t) (nI kind) M = some M' ∧ CTs b M' β L (clV β (flL β V t) (t + 1) (β 4 t 0) k (flV V t) (β 0 0 5)) ∧ CG b M' β k (clH β (flL β V t) (β 4 t 0) k (adH H (k, kind, t, flL β V t))) ∧ Fr (SRun b) M M' ∧ (∀ κ, κ ≠ 25 → κ ≠ 33 → κ ≠ 23 → κ ≠ 26 → κ ≠ 28 → M'.1 κ b = M.1 κ b) ∧ (∀ j, j ≠ 5 → j ≠ 7 → j ≠ 8 → M'.1 23 b 0 j = M.1 23 b 0 j) := by
  have h5 := hg.1.2.2.2.2
  obtain ⟨g0, -⟩ := hg.2.2.2.1 t ht
  obtain ⟨M2, e2, hc2, ho2⟩ := c_suffer (hT t ht) hn
  have hF2 := ho2.fr
  have hB2 : CBd (b + 5) M2 β L := hB.run (hF2.mono (fun κ b' h => ⟨by omega, by omega, h.2⟩))
  have hT2 : CTs b M2 β L (flV V t) := fun t' ht' => by
    by_cases c : t' = t
    · subst c
      exact hc2
    · obtain ⟨o1, o2, o3⟩ := ho2 25 b t' (fun q => c q.2.2)
      exact (hT t' ht').to o1 o2 o3 (flV_ne c)
  have hG2 : CG b M2 β k H := hG.fr hF2
  have e7 : M2.1 25 b t 7 - 1 = nI (V.1 t 7) := by
    have h7 := hc2.2.2.2.2.2.2.1
    have h8 : (flV V t).1 t 7 = V.1 t 7 + 1 := by simp [flV]
    rw [h7, h8, nI_pred]
  have e11 : M2.2.1 25 b t 11 = FP.fdiv (V.2.1 t) FP.fconst2 := by
    have h11 := hc2.2.2.2.2.2.2.2.2.2.2.2.2.2.1
    rw [h11]
    simp [flV]
  have elow : M2.1 0 (b + 5) 0 2 = nI (β 0 0 2) := hB2.1 2 (by omega)
  have hin : inb (nI t) 5 = true := inb_nI (by omega) (by omega)
  have htail : ∀ x : Nat, x = V.1 t 7 + (if lowF β (FP.fdiv (V.2.1 t) FP.fconst2) = true then 1 else 0) → ∃ M', B_X5_failTask_41 b (nI t) (nI kind) (nI x) M2 = some M' ∧ CTs b M' β L (clV β (flL β V t) (t + 1) (β 4 t 0) k (flV V t) (β 0 0 5)) ∧ CG b M' β k (clH β (flL β V t) (β 4 t 0) k (adH H (k, kind, t, flL β V t))) ∧ Fr (SRun b) M M' ∧ (∀ κ, κ ≠ 25 → κ ≠ 33 → κ ≠ 23 → κ ≠ 26 → κ ≠ 28 → M'.1 κ b = M.1 κ b) ∧ (∀ j, j ≠ 5 → j ≠ 7 → j ≠ 8 → M'.1 23 b 0 j = M.1 23 b 0 j) := by
    intro x hx
    have hxb : x ≤ 1001 := by
      rw [hx]
      by_cases c : lowF β (FP.fdiv (V.2.1 t) FP.fconst2) = true
      · rw [if_pos c]
        omega
      · rw [if_neg c]
        omega
    have hmin : (if (3 : Int32) < nI x then (3 : Int32) else nI x) = nI (flL β V t) := by
      unfold flL
      rw [← hx]
      by_cases c : 3 < x
      · rw [if_pos (show (3 : Int32) < nI x from nI_lt (a := 3) c (by omega)), Nat.min_eq_left (by omega)]
        rfl
      · rw [if_neg (show ¬ (3 : Int32) < nI x from nI_nlt (a := 3) (by omega) (by omega)), Nat.min_eq_right (by omega)]
    have hle : flL β V t ≤ 3 := Nat.min_le_left _ _
    unfold B_X5_failTask_41
    simp only [bd_eq]
    rw [hmin, hG2.1]
    obtain ⟨M3, e3, hG3, hF3⟩ := c_add (kind := kind) (who := t) (lev := flL β V t) hG2 hl
    rw [e3, Option.bind_some, if_pos hin, clampI (by omega)]
    have hB3 : CBd (b + 5) M3 β L := hB2.run (hF3.mono (fun κ b' h => ⟨by omega, by omega, h.2⟩))
    have hT3 : CTs b M3 β L (flV V t) := fun t' ht' => by
      obtain ⟨o1, o2, o3⟩ := hF3 25 b (by omega)
      exact (hT2 t' ht').to (by rw [o1]) (by rw [o2]) (by rw [o3]) VE.rfl
    have ew : M3.1 4 (b + 5) t 0 = nI (β 4 t 0) := hB3.2.2.1 t ht 0 (by omega)
    rw [ew]
    obtain ⟨M4, e4, hT4, hG4, hF4, hk4, hj4⟩ := c_climb (task := t + 1) (w := β 4 t 0) (wI := nI (β 4 t 0)) hg hB3 hT3 hG3 hk hle (by omega) (fun _ => g0) hH (fun _ => rfl)
    rw [pk_m1] at e4
    rw [e4, Option.bind_some]
    refine ⟨M4, Eq.refl _, hT4, hG4, ?_, fun κ a1 a2 a3 a4 a5 => ?_, fun j j1 j2 j3 => ?_⟩
    · exact ((hF2.mono (fun κ b' h => ⟨by omega, by omega, h.2⟩)).trans (hF3.mono (fun κ b' h => ⟨by omega, by omega, h.2⟩))).trans hF4
    · rw [hk4 κ a1 a2 a3, (hF3 κ b (by omega)).1, (hF2 κ b (by omega)).1]
    · rw [hj4 j j1 j2 j3, (hF3 23 b (by omega)).1, (hF2 23 b (by omega)).1]
  unfold F_X5_failTask
  rw [if_pos hin, clampI (by omega), e2, Option.bind_some, bd_eq, e7, e11, elow, if_pos hlow]
  by_cases c : 0 ≤ Op.cmpValue (FP.fcmp (FP.fdiv (V.2.1 t) FP.fconst2) (FP.fdiv (FP.i2f (nI (β 0 0 2))) 1092616192)) .g
  · rw [if_pos c]
    have hx := htail (V.1 t 7) (by rw [if_neg (lowF_neg c)]; rfl)
    exact hx
  · rw [if_neg c, bd_eq, nI_1]
    have hx := htail (V.1 t 7 + 1) (by rw [if_pos (lowF_pos c)])
    exact hx
