/-! ONE INJECTION MORE, the reference -/
abbrev SRx : Nat → Nat → Prop := fun κ _ => κ = 50 ∨ κ = 51 ∨ (64 ≤ κ ∧ κ ≤ 91)
/-- the reference's cells may change, what it was told not -/
theorem InvB.r {M M' : Mw} {β : Bw} {L : Lw} (h : InvB M β L) (hF : Fr SRx M M') (h5 : M'.1 50 0 0 5 = M.1 50 0 0 5) (h12 : M'.1 50 0 0 12 = M.1 50 0 0 12) (h13 : M'.1 50 0 0 13 = M.1 50 0 0 13) (hw : RWd (M'.1 51 0 0) β L) : InvB M' β L := by
  obtain ⟨h1, ⟨b1, b2, b3⟩, h3, ⟨k, hk, h4⟩, hz, hT⟩ := h
  refine ⟨h1.g (fun κ hκ => hF.k1 (fun b => by omega)) (fun j hj => ?_) (fun κ b x y z => (hF κ b (fun q => by omega)).1), ⟨b1, b2.fr (fun κ hκ => (hF κ 1 (fun q => by omega)).1), hw⟩, h3.fr (fun κ hκ => (hF κ 5 (fun q => by omega)).1) (fun κ x y => hF κ 0 (fun q => by omega)), ⟨k, hk, h4.fr (fun κ hκ => (hF κ 6 (fun q => by omega)).1) (fun κ x y => hF κ 1 (fun q => by omega))⟩, hz.fr (hF 25 1 (fun q => by omega)).1, fun t ht kd hkd => ?_⟩
  · rcases hj with rfl | rfl | rfl
    · exact h5
    · exact h12
    · exact h13
  · rw [hF.k1 (κ := 40) (fun b => by omega), hF.k1 (κ := 38) (fun b => by omega)]
    exact hT t ht kd hkd
def PR (M0 : Mw) (β : Bw) (L : Lw) (M : Mw) (p : Nat × Nat) : Prop := RWd (M.1 51 0 0) β L ∧ M.1 50 0 0 60 = nI p.1 + (-1) ∧ M.1 50 0 0 61 = nI p.2 ∧ p.1 ≤ 200 ∧ Fr SRx M0 M ∧ M.1 50 0 0 5 = M0.1 50 0 0 5 ∧ M.1 50 0 0 12 = M0.1 50 0 0 12 ∧ M.1 50 0 0 13 = M0.1 50 0 0 13
theorem RWd.low {f g : Nat → Int32} {β : Bw} {L : Lw} (hx : Gx β L) (h : RWd f β L) (e : ∀ i, i < 106 + 5 * L.length → g i = f i) : RWd g β L := by
  obtain ⟨⟨w0, w1, w2, w3, w4, w5, w6, w7⟩, wt, wn, ww, wi⟩ := h
  have hT5 := hx.1.1.2.2.2.2
  have hW3 := hx.1.1.2.2.2.1
  refine ⟨⟨by rw [e 0 (by omega)]; exact w0, by rw [e 1 (by omega)]; exact w1, by rw [e 2 (by omega)]; exact w2, by rw [e 3 (by omega)]; exact w3, by rw [e 4 (by omega)]; exact w4, by rw [e 5 (by omega)]; exact w5, by rw [e 6 (by omega)]; exact w6, by rw [e 7 (by omega)]; exact w7⟩, fun t ht j hj => by rw [e _ (by omega)]; exact wt t ht j hj, fun t ht n hn => ?_, fun w hw => by rw [e _ (by omega)]; exact ww w hw, fun i hi => ?_⟩
  · have h6 := (hx.1.2.2.2.1 t ht).2.2.2.2.2.2.2.2.2
    rw [e _ (by omega), e _ (by omega)]
    exact wn t ht n hn
  · show L[i]? = some (g (106 + 5 * i + 0), g (106 + 5 * i + 1), g (106 + 5 * i + 2), g (106 + 5 * i + 3), g (106 + 5 * i + 4))
    rw [e (106 + 5 * i + 0) (by omega), e (106 + 5 * i + 1) (by omega), e (106 + 5 * i + 2) (by omega), e (106 + 5 * i + 3) (by omega), e (106 + 5 * i + 4) (by omega)]
    exact wi i hi
theorem r_extra {M0 M : Mw} {β : Bw} {L : Lw} (hx : Gx β L) {t kd j n : Nat} (ht : t < β 0 0 5) (hk : kd < 5) (hj : j < cnt β L (β 0 0 0) t) (hj50 : j ≤ 50) (hn4 : kd ≠ 4 → n < β 4 t 6) {p : Nat × Nat} (hP : PR M0 β L M p) :
    ∃ M', F_X10_extra (nI kd) (nI t) (nI j) (if kd = 4 then -1 else nI n) M = some M' ∧ PR M0 β L M' (max p.1 (exC β L t kd j n), p.2 + (if exC β L t kd j n = 0 then 1 else 0)) := by
  obtain ⟨hw, p60, p61, ple, pF, p5, p12, p13⟩ := hP
  have hl := hx.tp ht
  have hBF := hx.bf hl
  have hT5 := hx.1.1.2.2.2.2
  have hH := hx.H
  have hlen := hx.len
  have hg' := hx.1.ex hlen (n := n) hk ht hj50 hn4
  have hBF' : BF β (L ++ [exR kd t j n]) FOx FOx FSx := hBF.gb hg' rfl rfl
  have hcle := exC_le hg'
  have hll : (L ++ [exR kd t j n]).length = L.length + 1 := by
    rw [List.length_append]
    rfl
  obtain ⟨xa, xb⟩ := rn_ex hBF (kd := kd) (n := n) hk hH hj (show j ≤ 1000 by omega)
  have hmany : ∀ M1 : Mw, M1.1 51 0 0 5 = nI (β 0 0 6) → M1.1 51 0 0 6 = nI (β 0 0 7) → F_X10_many M1 = some (nI L.length) := by
    intro M1 a c
    unfold F_X10_many
    rw [a, c, nI_add, hx.2.2.2.1]
  obtain ⟨M4, a1, a23, a24, a27, aF, ao⟩ := r_asTold M
  have e451 : M4.1 51 = M.1 51 := aF.k1 (fun b => by omega)
  have ev : (106 : Int32) + 5 * nI L.length = nI (106 + 5 * L.length) := by
    rw [show (106 : Int32) = nI 106 from rfl, show (5 : Int32) = nI 5 from rfl, pk_mul, nI_add]
  have ev1 : nI (106 + 5 * L.length) + 1 = nI (106 + 5 * L.length + 1) := nI_1 _
  have ev2 : nI (106 + 5 * L.length) + 2 = nI (106 + 5 * L.length + 2) := nI_add _ 2
  have ev3 : nI (106 + 5 * L.length) + 3 = nI (106 + 5 * L.length + 3) := nI_add _ 3
  have ev4 : nI (106 + 5 * L.length) + 4 = nI (106 + 5 * L.length + 4) := nI_add _ 4
  generalize hx4 : (if kd = 4 then (-1 : Int32) else nI n) = x4
  obtain ⟨M15, hM15⟩ : ∃ M15, M15 = uIw (uIw (uIw (uIw (uIw (uIw M4 50 0 0 27 1) 51 0 0 (106 + 5 * L.length) (nI kd)) 51 0 0 (106 + 5 * L.length + 1) (nI t)) 51 0 0 (106 + 5 * L.length + 2) (nI j)) 51 0 0 (106 + 5 * L.length + 3) x4) 51 0 0 (106 + 5 * L.length + 4) 1 := ⟨_, rfl⟩
  have eo : ∀ i, i < 106 + 5 * L.length → M15.1 51 0 0 i = M.1 51 0 0 i := fun i hi => by
    rw [hM15, uI1, if_neg (fun q => by omega), uI1, if_neg (fun q => by omega), uI1, if_neg (fun q => by omega), uI1, if_neg (fun q => by omega), uI1, if_neg (fun q => by omega), uI_k (by decide), e451]
  have erow : rowR M15 L.length = exR kd t j n := by
    unfold exR
    rw [hx4]
    have r0 : M15.1 51 0 0 (106 + 5 * L.length + 0) = nI kd := by
      rw [Nat.add_zero, hM15, uI1, if_neg (fun q => by omega), uI1, if_neg (fun q => by omega), uI1, if_neg (fun q => by omega), uI1, if_neg (fun q => by omega), uI1, if_pos ⟨rfl, rfl, rfl, rfl⟩]
    have r1 : M15.1 51 0 0 (106 + 5 * L.length + 1) = nI t := by
      rw [hM15, uI1, if_neg (fun q => by omega), uI1, if_neg (fun q => by omega), uI1, if_neg (fun q => by omega), uI1, if_pos ⟨rfl, rfl, rfl, rfl⟩]
    have r2 : M15.1 51 0 0 (106 + 5 * L.length + 2) = nI j := by
      rw [hM15, uI1, if_neg (fun q => by omega), uI1, if_neg (fun q => by omega), uI1, if_pos ⟨rfl, rfl, rfl, rfl⟩]
    have r3 : M15.1 51 0 0 (106 + 5 * L.length + 3) = x4 := by
      rw [hM15, uI1, if_neg (fun q => by omega), uI1, if_pos ⟨rfl, rfl, rfl, rfl⟩]
    have r4 : M15.1 51 0 0 (106 + 5 * L.length + 4) = 1 := by
      rw [hM15, uI1, if_pos ⟨rfl, rfl, rfl, rfl⟩]
    show (M15.1 51 0 0 (106 + 5 * L.length + 0), M15.1 51 0 0 (106 + 5 * L.length + 1), M15.1 51 0 0 (106 + 5 * L.length + 2), M15.1 51 0 0 (106 + 5 * L.length + 3), M15.1 51 0 0 (106 + 5 * L.length + 4)) = _
    rw [r0, r1, r2, r3, r4]
  have e50 : ∀ i, i ≠ 27 → M15.1 50 0 0 i = M4.1 50 0 0 i := fun i hi => by
    rw [hM15, uI_k (by decide), uI_k (by decide), uI_k (by decide), uI_k (by decide), uI_k (by decide), uI1, if_neg (fun q => hi q.2.2.2)]
  have e27 : M15.1 50 0 0 27 = 1 := by
    rw [hM15, uI_k (by decide), uI_k (by decide), uI_k (by decide), uI_k (by decide), uI_k (by decide), uI1, if_pos ⟨rfl, rfl, rfl, rfl⟩]
  have hF15 : Fr SRx M M15 := by
    have g : Fr SRx M4 M15 := by
      rw [hM15]
      exact (((((Fr.uI (S := SRx) (Or.inl rfl)).trans (Fr.uI (S := SRx) (Or.inr (Or.inl rfl)))).trans (Fr.uI (S := SRx) (Or.inr (Or.inl rfl)))).trans (Fr.uI (S := SRx) (Or.inr (Or.inl rfl)))).trans (Fr.uI (S := SRx) (Or.inr (Or.inl rfl)))).trans (Fr.uI (S := SRx) (Or.inr (Or.inl rfl)))
    exact (aF.mono (fun κ b q => Or.inl q)).trans g
  have hw15 : RWd (M15.1 51 0 0) β L := hw.low hx eo
  have hB : RBd M15 β (L ++ [exR kd t j n]) := by
    obtain ⟨⟨w0, w1, w2, w3, w4, w5, w6, w7⟩, wt, wn, ww, wi⟩ := id hw15
    have ne : ∀ t, t < β 0 0 5 → ¬ nI t = M15.1 50 0 0 24 := fun t ht => by rw [e50 24 (by decide), a24]; exact nI_nm1 (by omega)
    have hrow : ∀ i, i < L.length + 1 → (L ++ [exR kd t j n])[i]? = some (rowR M15 i) := fun i hi => by
      by_cases c : i < L.length
      · rw [List.getElem?_append_left c]
        exact wi i c
      · obtain rfl : i = L.length := by omega
        rw [erow, List.getElem?_append_right (Nat.le_refl _), Nat.sub_self]
        rfl
    refine ⟨⟨w0, w1, w2, w3, w4⟩, fun t ht j hj _ _ => wt t ht j hj, fun t ht => ?_, wn, ww, ⟨L.length + 1, by omega, ?_, lrf_told (by rw [e50 23 (by decide)]; exact a23) (by omega) hrow hll, fun i hi => ?_⟩⟩
    · rw [if_neg (ne t ht), if_neg (ne t ht)]
      exact ⟨wt t ht 2 (by omega), wt t ht 3 (by omega)⟩
    · rw [w5, w6, e27, nI_add, hx.2.2.2.1, nI_1]
    · exact hg'.2.2.2.2.2.2.2.2 _ (List.mem_of_getElem? (hrow i hi))
  obtain ⟨M17, t1, t2, t3⟩ := r_runs hBF' hB hH
  have e17 : M17.1 51 = M15.1 51 := t3.1.k1 (fun b => by omega)
  have hr17 : rowR M17 L.length = exR kd t j n := by
    rw [← erow]
    unfold rowR
    rw [e17]
  have hrl : (rcs β (L ++ [exR kd t j n]) (β 0 0 0)).length ≤ 90 := hBF'.len hH
  obtain ⟨f0, f1, f2, f3, f4⟩ : M17.1 51 0 0 (106 + 5 * L.length) = nI kd ∧ M17.1 51 0 0 (106 + 5 * L.length + 1) = nI t ∧ M17.1 51 0 0 (106 + 5 * L.length + 2) = nI j ∧ M17.1 51 0 0 (106 + 5 * L.length + 3) = (if kd = 4 then -1 else nI n) ∧ M17.1 51 0 0 (106 + 5 * L.length + 4) = 1 := by
    have h2 : (M17.1 51 0 0 (106 + 5 * L.length), M17.1 51 0 0 (106 + 5 * L.length + 1), M17.1 51 0 0 (106 + 5 * L.length + 2), M17.1 51 0 0 (106 + 5 * L.length + 3), M17.1 51 0 0 (106 + 5 * L.length + 4)) = exR kd t j n := hr17
    unfold exR at h2
    simpa using h2
  have hbeg : (rn β L (β 0 0 0)).2.2.1 t j ≤ 200 := Nat.le_trans (rn_A (β := β) (L := L) (β 0 0 0) t j) hH
  have hcau : F_X10_caughtIn (nI L.length) M17 = some (nI (exC β L t kd j n) + (-1)) := by
    have o0 : F_X10_of (nI L.length) 0 M17 = some (M17.1 51 0 0 (106 + 5 * L.length)) := r_of (p := 0) (by omega) (by omega)
    have o1 : F_X10_of (nI L.length) 1 M17 = some (M17.1 51 0 0 (106 + 5 * L.length + 1)) := r_of (p := 1) (by omega) (by omega)
    have o2 : F_X10_of (nI L.length) 2 M17 = some (M17.1 51 0 0 (106 + 5 * L.length + 2)) := r_of (p := 2) (by omega) (by omega)
    have ea : (51 * nI t) + nI j = nI (51 * t + j) := by rw [show (51 : Int32) = nI 51 from rfl, pk_mul, nI_add]
    have h83 := t2.2.2.2.2.1 t ht j hj50
    have xa' : j < (rn β (L ++ [exR kd t j n]) (β 0 0 0)).1.1.1 t 1 := xa
    rw [if_pos xa', xb] at h83
    have hd := r_caughtL (sl := false) (tick := (rn β L (β 0 0 0)).2.2.1 t j) (who := t) t2 hrl hg' hH (by omega) (by omega)
    rw [if_neg (by decide)] at hd
    unfold F_X10_caughtIn B_X10_caughtIn_22 B_X10_caughtIn_52
    rw [o1, Option.bind_some, o0, Option.bind_some, f0, if_neg (show ¬ nI kd = 5 from exR_5 (t := t) (j := j) (n := n) hk), f1, if_pos (show (0 : Int32) = 0 from rfl), o2, Option.bind_some, f2, ea, if_pos (inb_nI (by omega) (by omega)), clampI (by omega), h83, if_neg (nI_nm1 (by omega)), hd]
    rfl
  have m60 : M17.1 50 0 0 60 = nI p.1 + (-1) := by
    rw [t3.2 60 (by decide) (by decide) (by decide) (by decide), e50 60 (by decide), ao 60 (by decide) (by decide) (by decide), p60]
  have m61 : M17.1 50 0 0 61 = nI p.2 := by
    rw [t3.2 61 (by decide) (by decide) (by decide) (by decide), e50 61 (by decide), ao 61 (by decide) (by decide) (by decide), p61]
  have mo : ∀ i, i = 5 ∨ i = 12 ∨ i = 13 → M17.1 50 0 0 i = M.1 50 0 0 i := fun i hi => by
    rw [t3.2 i (by omega) (by omega) (by omega) (by omega), e50 i (by omega), ao i (by omega) (by omega) (by omega)]
  have hw17 : RWd (M17.1 51 0 0) β L := by rw [e17]; exact hw15
  have hF17 : Fr SRx M M17 := hF15.trans (t3.1.mono (fun κ b q => by omega))
  have hfin : ∀ (M' : Mw) (u : Nat), M' = uIw (uIw (uIw M17 50 0 0 27 0) 50 0 0 60 (nI (max p.1 (exC β L t kd j n)) + (-1))) 50 0 0 61 (nI (p.2 + u)) → u = (if exC β L t kd j n = 0 then 1 else 0) → PR M0 β L M' (max p.1 (exC β L t kd j n), p.2 + (if exC β L t kd j n = 0 then 1 else 0)) := by
    intro M' u e eu
    rw [← eu]
    have e51 : M'.1 51 = M17.1 51 := by rw [e, uI_k (by decide), uI_k (by decide), uI_k (by decide)]
    have h50 : ∀ i, i = 5 ∨ i = 12 ∨ i = 13 → M'.1 50 0 0 i = M0.1 50 0 0 i := fun i hi => by
      rw [e, uI1, if_neg (fun q => by omega), uI1, if_neg (fun q => by omega), uI1, if_neg (fun q => by omega), mo i hi]
      rcases hi with rfl | rfl | rfl
      · exact p5
      · exact p12
      · exact p13
    refine ⟨by rw [e51]; exact hw17, ?_, ?_, Nat.max_le.mpr ⟨ple, hcle⟩, ?_, h50 5 (by omega), h50 12 (by omega), h50 13 (by omega)⟩
    · rw [e, uI1, if_neg (fun q => by omega), uI1, if_pos ⟨rfl, rfl, rfl, rfl⟩]
    · rw [e, uI1, if_pos ⟨rfl, rfl, rfl, rfl⟩]
    · rw [e]
      exact pF.trans (hF17.trans (((Fr.uI (S := SRx) (Or.inl rfl)).trans (Fr.uI (S := SRx) (Or.inl rfl))).trans (Fr.uI (S := SRx) (Or.inl rfl))))
  unfold F_X10_extra
  rw [hmany M hw.1.2.2.2.2.2.1 hw.1.2.2.2.2.2.2.1, Option.bind_some, ev, bd_eq, a1, Option.bind_some, bd_eq, ev1, ev2, ev3, ev4, if_pos (inb_nI (by omega) (by omega)), bd_eq, if_pos (inb_nI (by omega) (by omega)), bd_eq, if_pos (inb_nI (by omega) (by omega)), bd_eq, if_pos (inb_nI (by omega) (by omega)), bd_eq, if_pos (inb_nI (by omega) (by omega)), bd_eq, clampI (by omega), clampI (by omega), clampI (by omega), clampI (by omega), clampI (by omega), ← hM15, hw15.1.1, t1, Option.bind_some, hmany M17 hw17.1.2.2.2.2.2.1 hw17.1.2.2.2.2.2.2.1, Option.bind_some, hcau, Option.bind_some, bd_eq]
  have e60 : (uIw M17 50 0 0 27 0).1 50 0 0 60 = nI p.1 + (-1) := by rw [uI1, if_neg (fun q => by omega), m60]
  rw [e60, m1_max (by omega) (by omega), bd_eq]
  have e61 : (uIw (uIw M17 50 0 0 27 0) 50 0 0 60 (nI (max p.1 (exC β L t kd j n)) + (-1))).1 50 0 0 61 = nI p.2 := by rw [uI1, if_neg (fun q => by omega), uI1, if_neg (fun q => by omega), m61]
  rw [e61]
  by_cases z : exC β L t kd j n = 0
  · rw [if_pos (show nI (exC β L t kd j n) + (-1) = -1 by rw [z]; decide), bd_eq, nI_1]
    exact ⟨_, rfl, hfin _ 1 rfl (if_pos z).symm⟩
  · rw [if_neg (nI_m1n z (by omega)), bd_eq]
    exact ⟨_, rfl, hfin _ 0 (by rw [Int32.add_zero, Nat.add_zero]) (if_neg z).symm⟩
