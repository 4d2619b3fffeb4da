/-! A TASK'S FAULT, in the reference -/
theorem r_records {M : Mw} {β : Bw} {L : Lw} {H : Hw} {k kind who lev : Nat} (hG : RG M β H) (hl : H.2.2.1.length < 4000) : ∃ M', F_X10_records (nI k) (nI kind) (nI who) (nI lev) M = some M' ∧ RG M' β (adH H (k, kind, who, lev)) ∧ Fr (fun κ b => (88 ≤ κ ∧ κ ≤ 91) ∨ S50 κ b) M M' ∧ (∀ j, j ≠ 56 → M'.1 50 0 0 j = M.1 50 0 0 j) := by
  obtain ⟨g57, g59, g58, g85, g56, grec, gwk⟩ := hG
  have hin : inb (nI H.2.2.1.length) 4000 = true := inb_nI hl (by omega)
  have hc : (nI H.2.2.1.length).toNatClampNeg = H.2.2.1.length := clampI (by omega)
  unfold F_X10_records
  rw [g56, if_pos hin, hc, bd_eq, uI_k (show 50 ≠ 88 by omega), g56, if_pos hin, hc, bd_eq, uI_k (show 50 ≠ 89 by omega), uI_k (show 50 ≠ 88 by omega), g56, if_pos hin, hc, bd_eq, uI_k (show 50 ≠ 90 by omega), uI_k (show 50 ≠ 89 by omega), uI_k (show 50 ≠ 88 by omega), g56, if_pos hin, hc, bd_eq, uI_k (show 50 ≠ 91 by omega), uI_k (show 50 ≠ 90 by omega), uI_k (show 50 ≠ 89 by omega), uI_k (show 50 ≠ 88 by omega), g56, bd_eq]
  refine ⟨_, Eq.refl _, ⟨?_, ?_, ?_, fun w hw => ?_, ?_, fun i r hr => ?_, fun I hI hn => ?_⟩, ?_, fun j hj => ?_⟩
  · simp [uI1, g57, adH]
  · simp [uI1, g59, adH]
  · simp [uI1, g58, adH]
  · simp [uI1, g85 w hw, adH]
  · simp [uI1, adH, nI_1]
  · rcases getElem?_snoc hr with ⟨h1, h2⟩ | ⟨h1, h2⟩
    · obtain ⟨a0, a1, a2, a3⟩ := grec i r h1
      have hne : ¬ i = H.2.2.1.length := by omega
      refine ⟨?_, ?_, ?_, ?_⟩ <;> simp [uI1, hne, a0, a1, a2, a3]
    · subst h2
      subst h1
      refine ⟨?_, ?_, ?_, ?_⟩ <;> simp [uI1]
  · refine (gwk I hI ?_).fr ?_ ?_
    · simp [uI1] at hn
      exact hn
    · rw [uI_k (by omega), uI_k (by omega), uI_k (by omega), uI_k (by omega), uI_k (by omega)]
    · rw [uI_k (by omega), uI_k (by omega), uI_k (by omega), uI_k (by omega), uI_k (by omega)]
  · exact ((((Fr.uI (Or.inl ⟨by omega, by omega⟩)).trans (Fr.uI (Or.inl ⟨by omega, by omega⟩))).trans (Fr.uI (Or.inl ⟨by omega, by omega⟩))).trans (Fr.uI (Or.inl ⟨by omega, by omega⟩))).trans (Fr.uI (Or.inr rfl))
  · simp [uI1, hj]
theorem r_fault {M : Mw} {β : Bw} {L : Lw} {V : Vw} {H : Hw} {k t kind : Nat} (hg : GB β L) (h : RBd M β L) (hT : RTs M β V) (hG : RG M β H) (hk : k ≤ 200) (ht : t < β 0 0 5) (hb : H.2.2.2.1 ≤ 2) (hl : H.2.2.1.length < 4000) (hw : ∀ j, H.1 j ≤ k + 1) (hn : nf (FP.fdiv (V.2.1 t) FP.fconst2) = true) (hlow : nf (FP.fdiv (FP.i2f (nI (β 0 0 2))) 1092616192) = true) (hm : V.1 t 7 ≤ 1000) :
    ∃ M', F_X10_faultOf (nI t) (nI kind) (nI k) M = some M' ∧ RTs M' β (clV β (flL β V t) (t + 1) (β 4 t 0) k (flV V t) (β 0 0 5)) ∧ RG M' β (clH β (flL β V t) (β 4 t 0) k (adH H (k, kind, t, flL β V t))) ∧ Fr (fun κ b => STs κ b ∨ S84 κ b ∨ S50 κ b ∨ (88 ≤ κ ∧ κ ≤ 91)) M M' ∧ (∀ j, j ≠ 56 → j ≠ 57 → j ≠ 58 → j ≠ 59 → M'.1 50 0 0 j = M.1 50 0 0 j) := by
  have h5 := hg.1.2.2.2.2
  obtain ⟨g0, -⟩ := hg.2.2.2.1 t ht
  have hin : inb (nI t) 5 = true := inb_nI (by omega) (by omega)
  have hc : (nI t).toNatClampNeg = t := clampI (by omega)
  obtain ⟨h0, h1, h2, h3, h70, h71, h6, h7, h8, h9, h10, h12, h13, h14, h11, h15, h16⟩ := id (hT t ht)
  obtain ⟨M9, hM9⟩ : ∃ M9, M9 = uIw (uIw (uFw (uIw M 73 0 0 t (nI (V.1 t 7 + 1))) 74 0 0 t (FP.fdiv (V.2.1 t) FP.fconst2)) 75 0 0 t 0) 76 0 0 t 1 := ⟨_, rfl⟩
  have ho : OnR t M M9 := by
    rw [hM9]
    exact (((OnR.uI (by omega) (by omega)).trans (OnR.uF (by omega) (by omega))).trans (OnR.uI (by omega) (by omega))).trans (OnR.uI (by omega) (by omega))
  have hRT : RT M9 (flV V t) t := by
    rw [hM9]
    unfold RT flV
    refine ⟨?_, ?_, ?_, ?_, ?_, ?_, ?_, ?_, ?_, ?_, ?_, ?_, ?_, ?_, ?_, ?_, ?_⟩ <;> simp [uI1, uI2, uF1, uF2, uF3, h0, h1, h2, h70, h71, h6, h10, h12, h13, h14, h16]
    · exact h3
    · decide +kernel
    · decide +kernel
    · exact h15
  have hT9 : RTs M9 β (flV V t) := fun t' ht' => by
    by_cases c : t' = t
    · subst c
      exact hRT
    · exact (hT t' ht').on ho c (flV_ne c)
  have h9b : RBd M9 β L := h.on ho
  have hG9 : RG M9 β H := hG.frS ho.fr (fun b => by omega) (fun b => by omega) (fun κ b _ _ _ _ => by omega)
  have e7 : M9.1 73 0 0 t - 1 = nI (V.1 t 7) := by
    have a7 := hRT.2.2.2.2.2.2.2.1
    have a8 : (flV V t).1 t 7 = V.1 t 7 + 1 := by simp [flV]
    rw [a7, a8, nI_pred]
  have e11 : M9.2.1 74 0 0 t = FP.fdiv (V.2.1 t) FP.fconst2 := by
    rw [hM9]
    simp [uI2, uF2]
  have elow : M9.1 51 0 0 2 = nI (β 0 0 2) := h9b.1.2.2.1
  have htail : ∀ x : Nat, ∀ s0 : Int32, nI (V.1 t 7) + s0 = nI x → x = V.1 t 7 + (if lowF β (FP.fdiv (V.2.1 t) FP.fconst2) = true then 1 else 0) → ∃ M', B_X10_faultOf_73 (nI t) (nI kind) (nI k) s0 (nI (V.1 t 7)) 3 M9 = some M' ∧ RTs M' β (clV β (flL β V t) (t + 1) (β 4 t 0) k (flV V t) (β 0 0 5)) ∧ RG M' β (clH β (flL β V t) (β 4 t 0) k (adH H (k, kind, t, flL β V t))) ∧ Fr (fun κ b => STs κ b ∨ S84 κ b ∨ S50 κ b ∨ (88 ≤ κ ∧ κ ≤ 91)) M M' ∧ (∀ j, j ≠ 56 → j ≠ 57 → j ≠ 58 → j ≠ 59 → M'.1 50 0 0 j = M.1 50 0 0 j) := by
    intro x s0 hs hx
    have hxb : x ≤ 1001 := by
      rw [hx]
      by_cases c : lowF β (FP.fdiv (V.2.1 t) FP.fconst2) = true
      · rw [if_pos c]
        omega
      · rw [if_neg c]
        omega
    have hmin : (if nI x < (3 : Int32) then nI x else (3 : Int32)) = nI (flL β V t) := by
      unfold flL
      rw [← hx]
      by_cases c : x < 3
      · rw [if_pos (show nI x < (3 : Int32) from nI_lt (b := 3) c (by omega)), Nat.min_eq_right (by omega)]
      · rw [if_neg (show ¬ nI x < (3 : Int32) from nI_nlt (b := 3) (by omega) (by omega)), Nat.min_eq_left (by omega)]
        rfl
    have hle : flL β V t ≤ 3 := Nat.min_le_left _ _
    unfold B_X10_faultOf_73
    rw [hs, hmin, bd_eq]
    obtain ⟨M3, e3, hG3, hF3, hj3⟩ := r_records (L := L) (k := k) (kind := kind) (who := t) (lev := flL β V t) hG9 hl
    rw [e3, Option.bind_some]
    have hB3 : RBd M3 β L := h9b.fr (hF3.k1 (fun b => by omega)) (fun j j1 j2 => hj3 j (by omega))
    have hT3 : RTs M3 β (flV V t) := fun t' ht' => (hT9 t' ht').frS hF3 (fun κ b _ _ => by omega)
    have ew : F_X10_toldOf (nI t) 0 M3 = some (nI (β 4 t 0)) := by
      have := r_told (M := M3) (t := t) (p := 0) (by omega) (by omega)
      rw [hB3.2.1 t ht 0 (by omega) (by omega) (by omega)] at this
      exact this
    rw [ew, Option.bind_some]
    obtain ⟨M4, e4, hT4, hG4, hF4, hj4⟩ := r_climbs (task := t + 1) (w := β 4 t 0) (taskI := nI t) (wI := nI (β 4 t 0)) hg hB3 hT3 hG3 hk hle (pk_m1 t).symm (fun _ => ⟨by omega, by omega⟩) (fun _ => ⟨g0, rfl, fun _ => ⟨by omega, by rw [Nat.add_sub_cancel]⟩⟩) hb hw
    rw [e4, Option.bind_some]
    refine ⟨M4, Eq.refl _, hT4, hG4, ?_, fun j j0 j1 j2 j3 => ?_⟩
    · exact ((ho.fr.mono (fun κ b q => Or.inl q)).trans (hF3.mono (fun κ b q => q.elim (fun z => Or.inr (Or.inr (Or.inr z))) (fun z => Or.inr (Or.inr (Or.inl z)))))).trans (hF4.mono (fun κ b q => q.elim Or.inl (fun z => z.elim (fun y => Or.inr (Or.inl y)) (fun y => Or.inr (Or.inr (Or.inl y))))))
    · rw [hj4 j j1 j2 j3, hj3 j j0, (ho 50 0 0 j (by omega)).1]
  have f74 : (uIw M 73 0 0 t (nI (V.1 t 7 + 1))).2.1 74 0 0 t = V.2.1 t := by
    rw [uI2]
    exact h11
  unfold F_X10_faultOf
  rw [if_pos hin, if_pos hin, hc, bd_eq, h7, nI_1, if_pos hin, f74, if_pos hn, if_pos hin, bd_eq, if_pos hin, bd_eq, if_pos hin, bd_eq, nar1, if_pos hin, if_pos hin, ← hM9, elow, if_pos hlow, e11, e7]
  by_cases c : 0 ≤ Op.cmpValue (FP.fcmp (FP.fdiv (V.2.1 t) FP.fconst2) (FP.fdiv (FP.i2f (nI (β 0 0 2))) 1092616192)) .g
  · rw [if_pos c]
    exact htail (V.1 t 7) 0 (Int32.add_zero _) (by rw [if_neg (lowF_neg c)]; rfl)
  · rw [if_neg c]
    exact htail (V.1 t 7 + 1) 1 (nI_1 _) (by rw [if_pos (lowF_pos c)])
