/-! CLIMBING in the reference: all levels, as the class does it -/
theorem r_climbs {M : Mw} {β : Bw} {L : Lw} {V : Vw} {H : Hw} {k lev task w : Nat} {taskI wI : Int32} (hg : GB β L) (h : RBd M β L) (hT : RTs M β V) (hG : RG M β H) (hk : k ≤ 200) (hl : lev ≤ 3) (hti : taskI = nI task + (-1)) (h0 : lev = 0 → 0 < task ∧ task ≤ β 0 0 5) (hw : lev = 1 ∨ lev = 2 → w < β 0 0 4 ∧ wI = nI w ∧ (0 < task → task ≤ β 0 0 5 ∧ β 4 (task - 1) 0 = w)) (hb : H.2.2.2.1 ≤ 2) (hm : ∀ j, H.1 j ≤ k + 1) :
    ∃ M', F_X10_climbs (nI lev) taskI wI (nI k) M = some M' ∧ RTs M' β (clV β lev task w k V (β 0 0 5)) ∧ RG M' β (clH β lev w k H) ∧ Fr (fun κ b => STs κ b ∨ S84 κ b ∨ S50 κ b) M M' ∧ (∀ j, j ≠ 57 → j ≠ 58 → j ≠ 59 → M'.1 50 0 0 j = M.1 50 0 0 j) := by
  have h5 := hg.1.2.2.2.2
  have h3 := hg.1.2.2.2.1
  obtain ⟨I, hI, hnI, -, hrow⟩ := h.2.2.2.2.2
  obtain ⟨g57, g59, g58, g85, g56, grec, gwk⟩ := hG
  have hR := gwk I hI hnI
  unfold F_X10_climbs
  by_cases c0 : lev = 0
  · obtain ⟨t1, t2⟩ := h0 c0
    subst c0
    rw [if_pos (show nI 0 = 0 from rfl)]
    have et : taskI = nI (task - 1) := by
      have e2 := pk_m1 (task - 1)
      rw [show task - 1 + 1 = task by omega] at e2
      rw [hti, e2]
    obtain ⟨M', e, hr, ho⟩ := r_restart hg h (show task - 1 < β 0 0 5 by omega) (hT (task - 1) (by omega)) hk
    rw [et, e, Option.bind_some]
    unfold B_X10_climbs_11 B_X10_climbs_55 B_X10_climbs_67
    rw [if_neg (by decide +kernel), if_neg (by decide +kernel), if_neg (by decide +kernel)]
    refine ⟨M', Eq.refl _, fun t ht => ?_, ?_, ho.fr.mono (fun κ b q => Or.inl q), fun j _ _ _ => (ho 50 0 0 j (by omega)).1⟩
    · by_cases c : t = task - 1
      · subst c
        refine hr.ve ⟨?_, Eq.refl _, Eq.refl _, Eq.refl _⟩
        unfold rsV
        rw [vs_at]
        show (if task - 1 < β 0 0 5 ∧ dR β 0 task w (task - 1) = true then rsF (V.1 (task - 1)) (rst β (task - 1) k) else V.1 (task - 1)) = _
        rw [if_pos ⟨ht, by unfold dR; simp; omega⟩]
      · refine (hT t ht).on ho c ⟨?_, Eq.refl _, Eq.refl _, Eq.refl _⟩
        show (if t < β 0 0 5 ∧ dR β 0 task w t = true then rsF (V.1 t) (rst β t k) else V.1 t) = _
        rw [if_neg (fun q => ?_)]
        have q2 := q.2
        unfold dR at q2
        simp at q2
        omega
    · rw [clH_low (by omega)]
      exact RG.frS ⟨g57, g59, g58, g85, g56, grec, gwk⟩ ho.fr (fun b => by omega) (fun b => by omega) (fun κ b _ _ _ _ => by omega)
  rw [if_neg (show ¬ nI lev = 0 from mt (nI_eq (b := 0) (by omega) (by omega)).mp c0)]
  unfold B_X10_climbs_11
  by_cases c1 : lev = 1
  · obtain ⟨w1, w2, w3⟩ := hw (Or.inl c1)
    subst c1
    rw [if_pos (show nI 1 = 1 from rfl), w2]
    obtain ⟨M', e, hT', hF'⟩ := r_climb1 hg h hT hk w1
    refine ⟨M', e, sel_RTs hT' (fun t ht => ?_), ?_, hF'.mono (fun κ b q => Or.inl q), fun j _ _ _ => by rw [hF'.k1 (fun b => by omega)]⟩
    · unfold dR
      by_cases c : β 4 t 0 = w
      · simp [c]
      · have c2 : ¬ task = t + 1 := fun q => by
          have := (w3 (by omega)).2
          rw [q] at this
          exact c this
        simp [c, c2]
    · rw [clH_low (by omega)]
      exact RG.frS ⟨g57, g59, g58, g85, g56, grec, gwk⟩ hF' (fun b => by omega) (fun b => by omega) (fun κ b _ _ _ _ => by omega)
  rw [if_neg (show ¬ nI lev = 1 from mt (nI_eq (b := 1) (by omega) (by omega)).mp c1)]
  unfold B_X10_climbs_55
  by_cases c2 : lev = 2
  · obtain ⟨w1, w2, w3⟩ := hw (Or.inr c2)
    subst c2
    rw [if_pos (show nI 2 = 2 from rfl), w2]
    obtain ⟨M', e, hT', hR', hF'⟩ := r_climb2 hg h hI hnI hrow hT hR hm hk w1
    rw [e, Option.bind_some]
    unfold B_X10_climbs_67
    rw [if_neg (by decide +kernel)]
    have k50 : M'.1 50 = M.1 50 := hF'.k1 (fun b => by omega)
    have k51 : M'.1 51 = M.1 51 := hF'.k1 (fun b => by omega)
    have kk : ∀ κ, 85 ≤ κ → M'.1 κ = M.1 κ := fun κ hκ => hF'.k1 (fun b => by omega)
    refine ⟨M', Eq.refl _, sel_RTs hT' (fun t ht => ?_), ⟨?_, ?_, ?_, ?_, ?_, ?_, fun I' hI' hn' => ?_⟩, hF'.mono (fun κ b q => q.elim Or.inl (fun z => Or.inr (Or.inl z))), fun j _ _ _ => by rw [k50]⟩
    · unfold dR
      by_cases c : und β (β 4 t 0) w = true
      · simp [c]
      · have c2 : ¬ task = t + 1 := fun q => by
          have hh := (w3 (by omega)).2
          rw [q] at hh
          have hh2 : β 4 t 0 = w := hh
          apply c
          rw [hh2]
          unfold und
          simp
        simp [c, c2]
    · rw [k50]
      exact g57
    · rw [k50]
      exact g59
    · rw [k50]
      exact g58
    · rw [kk 85 (by omega)]
      exact g85
    · rw [k50]
      exact g56
    · rw [kk 88 (by omega), kk 89 (by omega), kk 90 (by omega), kk 91 (by omega)]
      exact grec
    · rw [k51, k50, hnI] at hn'
      have : I = I' := (nI_eq (by omega) (by omega)).mp hn'
      subst this
      have ef : (clH β 2 w k H).1 = (fun j => if j < β 0 0 4 ∧ und β j w = true then k + 1 else H.1 j) := by
        funext j
        show clK β 2 w k H.1 (β 0 0 4) j = _
        unfold clK dW
        simp
      rw [ef]
      exact hR'
  rw [if_neg (show ¬ nI lev = 2 from mt (nI_eq (b := 2) (by omega) (by omega)).mp c2)]
  obtain rfl : lev = 3 := by omega
  unfold B_X10_climbs_67
  rw [if_pos (by decide +kernel)]
  obtain ⟨M', e, hT', hR', a57, a58, a59, aj, hF'⟩ := r_climb3 hg h hI hnI hrow hT hR hm hk g57 g59 hb
  have k51 : M'.1 51 = M.1 51 := hF'.k1 (fun b => by omega)
  have kk : ∀ κ, 85 ≤ κ → M'.1 κ = M.1 κ := fun κ hκ => hF'.k1 (fun b => by omega)
  refine ⟨M', e, sel_RTs hT' (fun t ht => ?_), ⟨?_, ?_, ?_, ?_, ?_, ?_, fun I' hI' hn' => ?_⟩, hF', aj⟩
  · unfold dR
    simp
  · rw [a57]
    rfl
  · rw [a59]
    show _ = nI (if H.2.2.2.1 + 1 = 3 then k + 1 else H.2.2.2.2.1) + (-1)
    by_cases c : H.2.2.2.1 + 1 = 3
    · rw [if_pos c, if_pos c, pk_m1]
    · rw [if_neg c, if_neg c]
  · rw [a58]
    rfl
  · rw [kk 85 (by omega)]
    exact g85
  · rw [aj 56 (by omega) (by omega) (by omega)]
    exact g56
  · rw [kk 88 (by omega), kk 89 (by omega), kk 90 (by omega), kk 91 (by omega)]
    exact grec
  · rw [k51, aj 27 (by omega) (by omega) (by omega), hnI] at hn'
    have : I = I' := (nI_eq (by omega) (by omega)).mp hn'
    subst this
    have ef : (clH β 3 w k H).1 = wkA (fun _ => true) k (β 0 0 4) H.1 := by
      funext j
      show clK β 3 w k H.1 (β 0 0 4) j = _
      unfold clK dW wkA
      simp
    rw [ef]
    exact hR'
