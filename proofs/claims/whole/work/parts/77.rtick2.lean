theorem RA.same {M M' : Mw} {β : Bw} {V V' : Vw} {A : Nat → Nat → Nat} (h : RA M β V A) (h83 : M'.1 83 = M.1 83) (hV : ∀ t, V'.1 t 1 = V.1 t 1) : RA M' β V' A := fun t ht j hj => by
  rw [h83, hV]
  exact h t ht j hj
theorem RTs.ve {M : Mw} {β : Bw} {V V' : Vw} (h : RTs M β V) (hV : ∀ t, t < β 0 0 5 → VE V V' t) : RTs M β V' := fun t ht => (h t ht).ve (hV t ht)
theorem tk_12 {β : Bw} {k : Nat} {c : Bool} {V : Vw} {n t : Nat} : (beV β c k V n).1 t 12 = V.1 t 12 := by
  show (if t < n then beG β c k V t else V.1 t) 12 = _
  by_cases h : t < n
  · rw [if_pos h]
    unfold beG
    by_cases z : beB β k V t = true
    · rw [if_pos z]
      show fgF c (V.1 t) 12 = _
      exact fgF_o _ _ (by decide) (by decide)
    · rw [if_neg z]
      exact fgF_o _ _ (by decide) (by decide)
  · rw [if_neg h]
theorem la_12 {β : Bw} {k : Nat} {s : Vw × Hw} (t : Nat) : ∀ n, (laS β k s n).1.1 t 12 = s.1.1 t 12 := by
  intro n
  induction n with
  | zero => rfl
  | succ n ih =>
    rw [← ih]
    show (laT β k n (laS β k s n)).1.1 t 12 = _
    unfold laT
    by_cases c : (laS β k s n).2.2.2.2.2.2 = 0 ∧ (laS β k s n).1.1 n 0 ≤ k ∧ β 4 n 3 ≤ gpN (laS β k s n).1 n k
    · rw [if_pos c]; exact fail_f (by decide) (by decide) (by decide) (by decide) (by decide) (by decide) (by decide)
    · rw [if_neg c]
theorem lt_12 {β : Bw} {k w : Nat} {s : Vw × Hw} (t : Nat) : ∀ n, (ltS β k w s n).1.1 t 12 = s.1.1 t 12 := by
  intro n
  induction n with
  | zero => rfl
  | succ n ih =>
    rw [← ih]
    show (ltT β k w n (ltS β k w s n)).1.1 t 12 = _
    unfold ltT
    by_cases c : (ltS β k w s n).2.2.2.2.2.2 = 0 ∧ misB β (ltS β k w s n).1 k n w = true
    · rw [if_pos c]; exact fail_f (by decide) (by decide) (by decide) (by decide) (by decide) (by decide) (by decide)
    · rw [if_neg c]
theorem lw_12 {β : Bw} {k w : Nat} {lk : Nat → Nat} {s : Vw × Hw} (t : Nat) : ∀ n, (lwS β k w lk s n).1.1 t 12 = s.1.1 t 12 := by
  intro n
  induction n with
  | zero => rfl
  | succ n ih =>
    rw [← ih]
    show (lwT β k w lk n (lwS β k w lk s n)).1.1 t 12 = _
    unfold lwT
    by_cases c : (lwS β k w lk s n).2.2.2.2.2.2 = 0 ∧ β 1 0 n = w + 1 ∧ lk n = 0
    · rw [if_pos c]; exact clV_f (by decide) (by decide) (by decide) (by decide)
    · rw [if_neg c]
theorem lo_12 {β : Bw} {L : Lw} {k : Nat} {s : Vw × Hw} (t : Nat) : ∀ n, (loA β L k s n).1.1.1 t 12 = s.1.1 t 12 := by
  intro n
  induction n with
  | zero => rfl
  | succ n ih =>
    rw [← ih]
    show (loS β L k (β 0 0 4 - 1 - n) (loA β L k s n)).1.1.1 t 12 = _
    unfold loS
    by_cases c : (loA β L k s n).1.2.2.2.2.2.2 ≠ 0
    · rw [if_pos c]
    rw [if_neg c]
    by_cases c2 : slp L (nI (β 0 0 4 - 1 - n)) (nI k) (nI ((loA β L k s n).1.2.1 (β 0 0 4 - 1 - n)) + (-1)) = true
    · rw [if_pos c2]
    · rw [if_neg c2]
      show (lwS _ _ _ _ _ _).1.1 t 12 = _
      rw [lw_12, lt_12]
theorem cy_12 {β : Bw} {L : Lw} {k : Nat} {s : Vw × Hw} (t : Nat) : (cyS β L k s).1.1 t 12 = s.1.1 t 12 := by
  unfold cyS
  rw [← lo_12 (β := β) (L := L) (k := k) (s := s) t (β 0 0 4)]
  have hd : (dgS β k (loA β L k s (β 0 0 4)).2 (loA β L k s (β 0 0 4)).1).1.1 t 12 = (loA β L k s (β 0 0 4)).1.1.1 t 12 := by
    unfold dgS
    by_cases c : (loA β L k s (β 0 0 4)).1.2.2.2.2.2.2 = 0 ∧ 0 < β 0 0 4 ∧ (loA β L k s (β 0 0 4)).2 0 = 0
    · rw [if_pos c]; exact clV_f (by decide) (by decide) (by decide) (by decide)
    · rw [if_neg c]
  rw [← hd]
  generalize dgS β k (loA β L k s (β 0 0 4)).2 (loA β L k s (β 0 0 4)).1 = s1
  unfold ecS
  by_cases c : s1.2.2.2.2.2.2 = 0
  · rw [if_pos c]
    exact ecV_f (by decide) (by decide)
  · rw [if_neg c]
theorem tkS_12 {β : Bw} {L : Lw} {k : Nat} {s : Vw × Hw} (t : Nat) : (tkS β L k s).1.1 t 12 = (tk1 β L k s).1.1 t 12 := by
  unfold tkS tk2
  by_cases c : (k + 1) % β 0 0 1 = 0
  · rw [if_pos c, cy_12, la_12]
  · rw [if_neg c, la_12]
/-- the reference's tick -/
theorem r_tick {M : Mw} {β : Bw} {L : Lw} {r : Rsw} {k cy : Nat} {FO FM : UInt32 → Prop} {FS : Nat → UInt64 → Prop} (hg : GB β L) (hF : FH FO FM FS) (hlow : nf (FP.fdiv (FP.i2f (nI (β 0 0 2))) 1092616192) = true) (hY5 : 5 ≤ β 0 0 1) (hk : k < 200) (hcy : cy ≤ 40) (hh : r.1.2.2.2.2.2.1 = 0) (hI : IVS β L FO FM FS k cy r.1) (h : RRun M β L k r) :
    ∃ M', F_X10_tick (nI k) M = some M' ∧ RRun M' β L (k + 1) (stR β L k r) ∧ OnT M M' := by
  obtain ⟨hB, hT, ⟨x, hG⟩, hK, hA, h87, h86⟩ := h
  have hT5 := hg.1.2.2.2.2
  have hY50 := hg.1.2.1
  have est : stR β L k r = (tkS β L k r.1, tkK β L k r.1 r.2.1, beA β k r.1.1 r.2.2.1 (β 0 0 5), fun i => if i = k then tkO β L k r.1 else r.2.2.2 i) := if_neg (fun q => q hh)
  have erv : rvR β k r = rvV β k r.1.1 := if_neg (fun q => q hh)
  rw [erv] at hT
  have h86' := h86 hh
  obtain ⟨M1, hM1⟩ : ∃ M1, M1 = uIw M 50 0 0 58 0 := ⟨_, rfl⟩
  have hO1 : OnT M M1 := ⟨by rw [hM1]; exact Fr.uI (Or.inr rfl), fun j _ _ a _ => by rw [hM1, uI1, if_neg (fun q => a q.2.2.2)]⟩
  have e1 : ∀ κ, κ ≠ 50 → M1.1 κ = M.1 κ := fun κ hκ => by rw [hM1, uI_k hκ]
  have e150 : ∀ j, j ≠ 58 → M1.1 50 0 0 j = M.1 50 0 0 j := fun j a => by rw [hM1, uI1, if_neg (fun q => a q.2.2.2)]
  have hB1 : RBd M1 β L := hB.onT hO1
  have hF1 : Fr (fun κ _ => κ = 50) M M1 := by rw [hM1]; exact Fr.uI rfl
  have hT1 : RTs M1 β (rvV β k r.1.1) := hT.fr hF1 (fun κ b _ _ => by omega)
  have hG1 : RG M1 β (ovH r.1.2) := by
    obtain ⟨g57, g59, g58, g85, g56, grec, gwk⟩ := hG
    unfold RG
    rw [e150 57 (by decide), e150 59 (by decide), e150 56 (by decide), e1 85 (by decide), e1 88 (by decide), e1 89 (by decide), e1 90 (by decide), e1 91 (by decide)]
    refine ⟨g57, g59, ?_, g85, g56, grec, fun I hI hn => ?_⟩
    · rw [hM1, uI1, if_pos ⟨rfl, rfl, rfl, rfl⟩]
      rfl
    · refine (gwk I hI ?_).fr (e1 51 (by decide)) (e1 84 (by decide))
      rw [e1 51 (by decide), e150 27 (by decide)] at hn
      exact hn
  have hA1 : RA M1 β (rvV β k r.1.1) r.2.2.1 := hA.same (e1 83 (by decide)) (fun t => fgF_o _ _ (by decide) (by decide))
  have hIb : IV β L FO FM FS k k cy (beS β k r.1) := IV_be hg hI hh
  have hI1 : IV β L FO FM FS (k + 1) k cy (tk1 β L k r.1) := IV_tk1 hg hF hk hI hh
  obtain ⟨⟨D0, hS0⟩, -⟩ := id hI.1
  have hv0 : VB β (rvV β k r.1.1) := fun t ht => by
    obtain ⟨a7, a0, a1, a2, a5, af⟩ := hS0.2.1 t ht
    have := (hg.2.2.2.1 t ht).2.2.2.2.2.2.2.2.2
    show fgF (cyB β k) (r.1.1.1 t) 0 ≤ 1000 ∧ fgF (cyB β k) (r.1.1.1 t) 1 ≤ 1000 ∧ fgF (cyB β k) (r.1.1.1 t) 2 ≤ 1000
    rw [fgF_o _ _ (by decide) (by decide), fgF_o _ _ (by decide) (by decide), fgF_o _ _ (by decide) (by decide)]
    exact ⟨a0, by omega, by omega⟩
  obtain ⟨M2, q1, q2, q3, q4⟩ := r_begins (k := k) hg hB1 hT1 hA1 (by omega) hv0
  have hO2 : OnT M1 M2 := ⟨q4.mono (fun κ _ q => by omega), fun j _ _ _ _ => by rw [q4.k1 (fun b => by omega)]⟩
  have hB2 : RBd M2 β L := hB1.onT hO2
  have hT2 : RTs M2 β (beS β k r.1).1 := q2.ve (fun t ht => by
    rcases beV_rv (β := β) (k := k) (V := r.1.1) (n := β 0 0 5) (t := t) with z | z
    · exact z
    · omega)
  have hG2 : RG M2 β (beS β k r.1).2 := hG1.frS q4 (fun b => by omega) (fun b => by omega) (fun κ b _ _ _ _ => by omega)
  obtain ⟨⟨Db, hSb⟩, hJb, -⟩ := id hIb
  have hvb : VB β (beS β k r.1).1 := fun t ht => by
    obtain ⟨a7, a0, a1, a2, a5, af⟩ := hSb.2.1 t ht
    have := (hg.2.2.2.1 t ht).2.2.2.2.2.2.2.2.2
    exact ⟨a0, by omega, by omega⟩
  have e12 : ∀ t, (beS β k r.1).1.1 t 12 = r.1.1.1 t 12 := fun t => tk_12
  have hK2 : RK M2 β (beS β k r.1).1 r.2.1 := hK.same (by rw [q4.k1 (fun b => by omega), e1 82 (by decide)]) (fun t _ => e12 t)
  have ebA : beA β k (rvV β k r.1.1) r.2.2.1 (β 0 0 5) = beA β k r.1.1 r.2.2.1 (β 0 0 5) := by
    funext t j
    unfold beA
    have eb : beB β k (rvV β k r.1.1) t = beB β k r.1.1 t := by
      unfold beB
      show (decide (fgF (cyB β k) (r.1.1.1 t) 2 = 0) && decide (fgF (cyB β k) (r.1.1.1 t) 0 ≤ k) && _) = _
      rw [fgF_o _ _ (by decide) (by decide), fgF_o _ _ (by decide) (by decide)]
    rw [eb]
    show (if t < β 0 0 5 ∧ beB β k r.1.1 t = true ∧ j = fgF (cyB β k) (r.1.1.1 t) 1 then k else r.2.2.1 t j) = _
    rw [fgF_o _ _ (by decide) (by decide)]
  have hA2 : RA M2 β (beS β k r.1).1 (beA β k r.1.1 r.2.2.1 (β 0 0 5)) := by
    rw [ebA] at q3
    intro t ht j hj
    have := q3 t ht j hj
    rcases beV_rv (β := β) (k := k) (V := r.1.1) (n := β 0 0 5) (t := t) with z | z
    · rw [← z.1] at this; exact this
    · omega
  have hown := r_owner hg hB2 hT2 hvb (fun t ht => (hSb.2.1 t ht).2.2.2.1)
  have hown' : F_X10_whoHas M2 = some (nI (tkO β L k r.1) + (-1)) := hown
  have hol : tkO β L k r.1 ≤ 5 := Nat.le_trans (ow_le _) hT5
  obtain ⟨M6, hM6⟩ : ∃ M6, M6 = uIw M2 87 0 0 k (nI (tkO β L k r.1) + (-1)) := ⟨_, rfl⟩
  have hF6 : Fr (fun κ _ => κ = 87) M2 M6 := by rw [hM6]; exact Fr.uI rfl
  have hO6 : OnT M2 M6 := ⟨hF6.mono (fun κ _ q => by omega), fun j _ _ _ _ => by rw [hF6.k1 (fun b => by omega)]⟩
  have hB6 : RBd M6 β L := hB2.onT hO6
  have hT6 : RTs M6 β (beS β k r.1).1 := hT2.fr hF6 (fun κ b _ _ => by omega)
  have hG6 : RG M6 β (beS β k r.1).2 := hG2.frS hF6 (fun b => by omega) (fun b => by omega) (fun κ b _ _ _ _ => by omega)
  have hK6 : RK M6 β (beS β k r.1).1 r.2.1 := hK2.same (hF6.k1 (fun b => by omega)) (fun _ _ => rfl)
  have hA6 : RA M6 β (beS β k r.1).1 (beA β k r.1.1 r.2.2.1 (β 0 0 5)) := hA2.same (hF6.k1 (fun b => by omega)) (fun _ => rfl)
  have e87 : ∀ i, i < 200 → M6.1 87 0 0 i = nI (if i = k then tkO β L k r.1 else r.2.2.2 i) + (-1) := by
    intro i hi
    rw [hM6, uI1]
    by_cases z : i = k
    · rw [if_pos ⟨rfl, rfl, rfl, z⟩, if_pos z]
    · rw [if_neg (fun q => z q.2.2.2), if_neg z, q4.k1 (fun b => by omega), e1 87 (by decide)]
      exact h87 i hi
  have e86 : M6.1 86 = M.1 86 := by rw [hF6.k1 (fun b => by omega), q4.k1 (fun b => by omega), e1 86 (by decide)]
  have hwork : ∃ M7, (if nI (tkO β L k r.1) + (-1) = -1 then B_X10_tick_33 (nI k) M6 else (F_X10_works (nI (tkO β L k r.1) + (-1)) (nI k) M6).bind (fun M19 => B_X10_tick_33 (nI k) M19)) = B_X10_tick_33 (nI k) M7 ∧ RTs M7 β (tk1 β L k r.1).1 ∧ RG M7 β (tk1 β L k r.1).2 ∧ RK M7 β (tk1 β L k r.1).1 (tkK β L k r.1 r.2.1) ∧ OnX M6 M7 := by
    by_cases c : tkO β L k r.1 = 0
    · have et : tk1 β L k r.1 = beS β k r.1 := if_pos c
      have eK : tkK β L k r.1 r.2.1 = r.2.1 := if_pos c
      rw [et, eK, if_pos (show nI (tkO β L k r.1) + (-1) = -1 by rw [c]; decide)]
      exact ⟨M6, rfl, hT6, hG6, hK6, OnX.rfl⟩
    · have et : tk1 β L k r.1 = wkS β L k (tkO β L k r.1 - 1) (beS β k r.1) := if_neg c
      have eK : tkK β L k r.1 r.2.1 = wkK β L k (tkO β L k r.1 - 1) (beS β k r.1).1 r.2.1 := if_neg c
      obtain ⟨w1, w2⟩ := tkO_wB c
      have en : nI (tkO β L k r.1) + (-1) = nI (tkO β L k r.1 - 1) := by
        obtain ⟨n, hn⟩ := Nat.exists_eq_succ_of_ne_zero c
        rw [hn, pk_m1]
        rfl
      obtain ⟨M7, v1, v2, v3, v4, v5⟩ := r_work (V := (beS β k r.1).1) (H := (beS β k r.1).2) hg hF hlow hB6 hT6 hG6 hK6 hk hcy w1 w2 rfl hSb (SI_un hSb w1) hJb
      rw [et, eK, en, if_neg (nI_nm1 (by omega)), v1, Option.bind_some]
      exact ⟨M7, rfl, v2, v3, v4, v5⟩
  obtain ⟨M7, w0, w2, w3, w4, w5⟩ := hwork
  have hB7 : RBd M7 β L := hB6.onX w5
  obtain ⟨⟨D1, hS1⟩, hJ1, ho1, -⟩ := id hI1
  obtain ⟨M8, t1, t2, t3, t4⟩ := r_late hg hB7 w2 w3 (by omega) hcy hF.1 hlow hS1 ho1
  have hB8 : RBd M8 β L := hB7.onG t4
  have hI2 : IV β L FO FM FS (k + 1) k cy (tk2 β L k r.1) := (IV_la hg hF (by omega) hI1 (β 0 0 5) (Nat.le_refl _)).1
  have t2' : RTs M8 β (tk2 β L k r.1).1 := t2
  have t3' : RG M8 β (tk2 β L k r.1).2 := t3
  have hX68 : OnX M6 M8 := w5.trans t4.x
  have e886 : M8.1 86 = M.1 86 := by rw [hX68.1.k1 (fun b => by omega), e86]
  have e887 : M8.1 87 = M6.1 87 := hX68.1.k1 (fun b => by omega)
  have e883 : M8.1 83 = M6.1 83 := hX68.1.k1 (fun b => by omega)
  have e882 : M8.1 82 = M7.1 82 := t4.1.k1 (fun b => by unfold STs S84 S50; omega)
  have hO8 : OnT M M8 := ((hO1.trans hO2).trans hO6).trans hX68.t
  have hv9 := IVS_tk hg hF hk hI hh
  have hover : (tkS β L k r.1).2.2.2.2.2.2 ≤ 1 := hv9.1.2.2.1
  -- what is left: the memory behind the cycle's end
  have hfin : ∀ M9 : Mw, RTs M9 β (tkS β L k r.1).1 → RG M9 β (tkS β L k r.1).2 → OnY M8 M9 → ((tkS β L k r.1).2.2.2.2.2.1 ≠ 0 ∨ cyB β (k + 1) = false) → ((tkS β L k r.1).2.2.2.2.2.1 = 0 → ∀ o, o < 3 → M9.1 86 0 0 o = 0) → M9.1 82 = M8.1 82 → M9.1 83 = M8.1 83 → M9.1 87 = M8.1 87 → RRun M9 β L (k + 1) (stR β L k r) := by
    intro M9 f1 f2 f3 f4 f5 f82 f83 f87
    rw [est]
    refine ⟨hB8.onY f3, ?_, ⟨_, f2⟩, ?_, ?_, ?_, f5⟩
    · unfold rvR
      show RTs M9 β (if (tkS β L k r.1).2.2.2.2.2.1 ≠ 0 then (tkS β L k r.1).1 else rvV β (k + 1) (tkS β L k r.1).1)
      by_cases z : (tkS β L k r.1).2.2.2.2.2.1 ≠ 0
      · rw [if_pos z]; exact f1
      · rw [if_neg z]
        rcases f4 with y | y
        · exact absurd y z
        · exact f1.ve (fun t _ => ⟨by show fgF (cyB β (k + 1)) _ = _; rw [y, fgF_f], rfl, rfl, rfl⟩)
    · exact w4.same (by rw [f82, e882]) (fun t _ => tkS_12 t)
    · exact hA6.same (by rw [f83, e883]) (fun t => tk_1 t)
    · intro i hi
      rw [f87, e887]
      exact e87 i hi
  unfold F_X10_tick
  rw [← hM1, bd_eq, q1, Option.bind_some, hown', Option.bind_some, if_pos (inb_nI hk (by omega)), clampI (by omega), ← hM6, bd_eq, w0]
  unfold B_X10_tick_33
  have hne : ¬ nI (β 0 0 1) = 0 := nI_ne0 (by omega) (by omega)
  rw [t1, Option.bind_some, hB8.1.2.1, if_neg hne, nI_1, pk_rem (by omega) (by omega) (by omega)]
  by_cases c : (k + 1) % β 0 0 1 = 0
  case neg =>
    have et : tkS β L k r.1 = tk2 β L k r.1 := if_neg c
    rw [if_neg (nI_ne0 (by omega) (by have := Nat.mod_lt (k + 1) (show β 0 0 1 > 0 by omega); omega))]
    refine ⟨M8, rfl, hfin M8 (by rw [et]; exact t2') (by rw [et]; exact t3') OnY.rfl (Or.inr ?_) (fun _ => by rw [e886]; exact h86') rfl rfl rfl, hO8⟩
    unfold cyB
    exact decide_eq_false (fun q => c q.2)
  rw [if_pos (show nI ((k + 1) % β 0 0 1) = 0 by rw [c]; rfl)]
  have et : tkS β L k r.1 = cyS β L k (tk2 β L k r.1) := if_pos c
  have hY : β 0 0 1 ≤ k + 1 := Nat.le_of_dvd (by omega) (Nat.dvd_of_mod_eq_zero c)
  have h64 : ∀ M9 : Mw, RTs M9 β (tkS β L k r.1).1 → RG M9 β (tkS β L k r.1).2 → OnY M8 M9 → M9.1 82 = M8.1 82 → ∃ M', B_X10_tick_64 M9 = some M' ∧ RRun M' β L (k + 1) (stR β L k r) ∧ OnT M M' := by
    intro M9 f1 f2 f3 f82
    have f83 : M9.1 83 = M8.1 83 := f3.1.k1 (fun b => by omega)
    have f87 : M9.1 87 = M8.1 87 := f3.1.k1 (fun b => by omega)
    unfold B_X10_tick_64
    rw [f2.2.1]
    by_cases z : (tkS β L k r.1).2.2.2.2.2.1 = 0
    case neg =>
      have hz : (tkS β L k r.1).2.2.2.2.2.1 ≤ 1000 := by
        have := hv9.1.2.2.2.2.2
        omega
      rw [if_neg (nI_m1n z (by omega))]
      exact ⟨M9, rfl, hfin M9 f1 f2 f3 (Or.inl z) (fun q => absurd q z) f82 f83 f87, hO8.trans f3.t⟩
    rw [if_pos (show nI (tkS β L k r.1).2.2.2.2.2.1 + (-1) = -1 by rw [z]; decide)]
    obtain ⟨M10, n1, n2, n3, n4⟩ := r_newCycle hT5 f1
    rw [n1, Option.bind_some]
    have hY10 : OnY M9 M10 := ⟨n4.mono (fun κ _ q => by omega), fun j _ _ _ _ => by rw [n4.k1 (fun b => by omega)]⟩
    refine ⟨M10, rfl, ?_, (hO8.trans f3.t).trans hY10.t⟩
    rw [est]
    refine ⟨(hB8.onY f3).onY hY10, ?_, ⟨_, f2.frS n4 (fun b => by omega) (fun b => by omega) (fun κ b _ _ _ _ => by omega)⟩, ?_, ?_, ?_, fun _ => n3⟩
    · unfold rvR
      show RTs M10 β (if (tkS β L k r.1).2.2.2.2.2.1 ≠ 0 then (tkS β L k r.1).1 else rvV β (k + 1) (tkS β L k r.1).1)
      rw [if_neg (fun q => q z)]
      have ec : cyB β (k + 1) = true := decide_eq_true ⟨by omega, c⟩
      exact n2.ve (fun t _ => ⟨by show fgF (cyB β (k + 1)) _ = _; rw [ec], rfl, rfl, rfl⟩)
    · exact w4.same (by rw [n4.k1 (fun b => by omega), f82, e882]) (fun t _ => tkS_12 t)
    · exact hA6.same (by rw [n4.k1 (fun b => by omega), f83, e883]) (fun t => tk_1 t)
    · intro i hi
      rw [n4.k1 (fun b => by omega), f87, e887]
      exact e87 i hi
  rw [t3'.2.2.1]
  have ho2 := hI2.2.2.1
  by_cases co : (tk2 β L k r.1).2.2.2.2.2.2 = 0
  · obtain ⟨M9, p1, p2, p3, p4⟩ := r_endsCycle hg hF hlow hB8 t2' t3' (by omega) hcy (by omega) hI2 hY (fun o ho => by rw [e886]; exact h86' o ho)
    rw [if_pos (by rw [co]; rfl), p1, Option.bind_some]
    rw [← et] at p2 p3
    exact h64 M9 p2 p3 p4 (p4.1.k1 (fun b => by omega))
  · rw [if_neg (fun q => co ((nI_i0 (by omega)).mp q))]
    have e2 : tkS β L k r.1 = tk2 β L k r.1 := by rw [et, cy_id co]
    exact h64 M8 (by rw [e2]; exact t2') (by rw [e2]; exact t3') OnY.rfl rfl
