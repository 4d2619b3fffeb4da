/-! THE PROBE, the class -/
def Iv5 (M : Mw) (β : Bw) (L : Lw) : Prop := ITp M ∧ IBd M β L ∧ CRn 0 M β L (β 0 0 0) ∧ (∃ k, k ≤ β 0 0 0 ∧ CRn 1 M β L k) ∧ Zz 1 M
abbrev SPr : Nat → Nat → Prop := fun κ b => (κ ≤ 12 ∧ b = 7) ∨ (23 ≤ κ ∧ κ ≤ 35 ∧ b = 2) ∨ κ = 38 ∨ κ = 40
theorem CRn.pr {b k : Nat} {M M' : Mw} {β : Bw} {L : Lw} (h : CRn b M β L k) (hb : b ≤ 1) (hF : Fr SPr M M') : CRn b M' β L k := h.fr (fun κ hκ => (hF κ (b + 5) (fun q => by omega)).1) (fun κ x y => hF κ b (fun q => by omega))
theorem Iv5.fr {M M' : Mw} {β : Bw} {L : Lw} (h : Iv5 M β L) (hF : Fr SPr M M') : Iv5 M' β L := by
  obtain ⟨h1, ⟨b1, b2, b3⟩, h3, ⟨k, hk, h4⟩, h5⟩ := h
  exact ⟨h1.g (fun κ hκ => hF.k1 (fun b => by omega)) (fun j _ => by rw [hF.k1 (κ := 50) (fun b => by omega)]) (fun κ b x y z => (hF κ b (fun q => by omega)).1), ⟨b1, b2.fr (fun κ hκ => (hF κ 1 (fun q => by omega)).1), by rw [hF.k1 (κ := 51) (fun b => by omega)]; exact b3⟩, h3.pr (by omega) hF, ⟨k, hk, h4.pr (by omega) hF⟩, h5.fr (hF 25 1 (fun q => by omega)).1⟩
theorem Iv5.view {M M' : Mw} {β : Bw} {L : Lw} {k : Nat} (h : Iv5 M β L) (hk : k ≤ β 0 0 0) (hF : Fr (SRun 1) M M') (hv : CRn 1 M' β L k) (hz : Zz 1 M') : Iv5 M' β L := by
  obtain ⟨h1, ⟨b1, b2, b3⟩, h3, -, h5⟩ := h
  exact ⟨h1.g (fun κ hκ => hF.k1 (fun b => by omega)) (fun j _ => by rw [hF.k1 (κ := 50) (fun b => by omega)]) (fun κ b x y z => (hF κ b (fun q => by omega)).1), ⟨b1, b2.fr (fun κ hκ => (hF κ 1 (fun q => by omega)).1), by rw [hF.k1 (κ := 51) (fun b => by omega)]; exact b3⟩, h3.fr (fun κ hκ => (hF κ 5 (fun q => by omega)).1) (fun κ x y => hF κ 0 (fun q => by omega)), ⟨k, hk, hv⟩, hz⟩
def PB (M0 : Mw) (β : Bw) (L : Lw) (t kd : Nat) (M : Mw) (p : Nat × Nat) : Prop := Iv5 M β L ∧ C7 M β L ∧ M.1 38 0 t kd = nI p.1 + (-1) ∧ M.1 40 0 t kd = nI p.2 ∧ p.1 ≤ 200 ∧ ∀ t' kd', (t' ≠ t ∨ kd' ≠ kd) → M.1 38 0 t' kd' = M0.1 38 0 t' kd' ∧ M.1 40 0 t' kd' = M0.1 40 0 t' kd'
theorem exC_le {β : Bw} {L : Lw} {t kd j n : Nat} (hg : GB β (L ++ [exR kd t j n])) : exC β L t kd j n ≤ 200 := Nat.le_trans (cau_le (fun r hr => (rcs_g hg (β 0 0 0) r hr).2)) hg.1.1
theorem c_probeN {M0 M : Mw} {β : Bw} {L : Lw} (hx : Gx β L) {t kd j : Nat} (ht : t < β 0 0 5) (hk : kd < 5) (hj : j < cnt β L (β 0 0 0) t) (hj50 : j ≤ 50) (k116 : Int32 → Mw → Option Mw) {p : Nat × Nat} (hP : PB M0 β L t kd M p) (hv : CRn 1 M β L ((rn β L (β 0 0 0)).2.2.1 t j)) :
    ∃ M', it (fun _ _ => none) (B_X8_probe_152 0 1 k116 (nI t) (nI kd) (nI L.length) (nI (exN β t kd)) (nI j) (nI ((rn β L (β 0 0 0)).2.2.1 t j))) FU 0 M = k116 (nI (j + 1)) M' ∧ PB M0 β L t kd M' (exJ β L t kd j p (exN β t kd)) := by
  have hl := hx.tp ht
  have hBF := hx.bf hl
  have hT5 := hx.1.1.2.2.2.2
  have hW3 := hx.1.1.2.2.2.1
  have hH := hx.H
  have hlen := hx.len
  obtain ⟨b1, b2, b3, b4, b5⟩ := beg_inv (β 0 0 0) j hj
  have hN6 : exN β t kd ≤ 6 := by
    unfold exN
    by_cases c : kd = 4
    · rw [if_pos c]; omega
    · rw [if_neg c]; exact (hx.1.2.2.2.1 t ht).2.2.2.2.2.2.2.2.2
  have hpre := fun n => rn_pre hBF (kd := kd) (n := n) hk hH hj (show j ≤ 1000 by omega) _ (Nat.le_refl _)
  obtain ⟨B, hBdef⟩ : ∃ B, B = (rn β L (β 0 0 0)).2.2.1 t j := ⟨_, rfl⟩
  rw [← hBdef] at b1 b2 b3 b5 hpre hv ⊢
  obtain ⟨kq, kq1, kq2⟩ := rn_ivs hx hl (show B ≤ 200 by omega)
  obtain ⟨⟨⟨D, hS⟩, hJ, -⟩, -⟩ := kq2
  have key := it_for (z := fun _ _ => none) (B := B_X8_probe_152 0 1 k116 (nI t) (nI kd) (nI L.length) (nI (exN β t kd)) (nI j) (nI B)) (n := exN β t kd)
    (P := fun n M1 => PB M0 β L t kd M1 (exJ β L t kd j p n) ∧ CRn 1 M1 β L B)
    (Q := fun o => ∃ M', o = k116 (nI (j + 1)) M' ∧ PB M0 β L t kd M' (exJ β L t kd j p (exN β t kd)))
    (fun kk n M1 hn hP => by
      obtain ⟨⟨i5, c7, p38, p40, ple, pot⟩, pv⟩ := hP
      left
      have hn4 : kd ≠ 4 → n < β 4 t 6 := fun c => by
        unfold exN at hn
        rw [if_neg c] at hn
        exact hn
      have hg' := hx.1.ex hlen (n := n) hk ht hj50 hn4
      have hBF' : BF β (L ++ [exR kd t j n]) FOx FOx FSx := hBF.gb hg' rfl rfl
      obtain ⟨M2, s1, s2, s3, s4⟩ := c7.set hlen (t := t) (j := j) (n := n) hk
      have hF2 : Fr SPr M1 M2 := s4.mono (fun κ b q => Or.inl ⟨by omega, q.2⟩)
      have i52 := i5.fr hF2
      have pv2 := pv.pr (by omega) hF2
      obtain ⟨M3, r1, ⟨A, l, jj, r2⟩, r3⟩ := c_resume (L' := L ++ [exR kd t j n]) hW3 hT5 pv2 s2 i52.2.2.2.2 (Nat.le_trans (rn_len hx hl (show B ≤ 200 by omega)) (by omega)) hS.2.2.2.2.1 (fun t' ht' h2 => chV_app (by omega) (by omega) (by omega) ⟨Nat.le_of_eq b2, fun q => ((hJ t ht).2.2.2.2.2.2.2.2.1 q).2.1⟩ h2)
      rw [← hpre n] at r2
      obtain ⟨M4, d1, d2⟩ := c_delayNext (B := B) hBF' (show t < 5 by omega) (by omega) (by
        have e : rcs β (L ++ [exR kd t j n]) B = rcs β L B := by
          unfold rcs
          rw [hpre n]
        rw [e]
        exact cau_old (fun r hr => (rcs_g hx.1 B r hr).2)) r2
      have hF4 : Fr SPr M1 M4 := (hF2.trans (r3.mono (fun κ b q => Or.inr (Or.inl q)))).trans (d2.mono (fun κ b q => Or.inr (Or.inl q)))
      have ec : cau B t false (rcs β (L ++ [exR kd t j n]) (β 0 0 0)) = exC β L t kd j n := by
        unfold exC
        rw [hBdef]
      rw [ec] at d1
      have hcle := exC_le hg'
      have e38 : ∀ κ, κ = 38 ∨ κ = 40 → M4.1 κ = M1.1 κ := fun κ hκ => by
        rw [d2.k1 (fun b => by omega), r3.k1 (fun b => by omega), s4.k1 (fun b => by omega)]
      obtain ⟨M5, n1, n2, n3, n4, n5⟩ := c_noteD (M := M4) (show t < 5 by omega) hk (show (exJ β L t kd j p n).1 < 1000 by omega) (show exC β L t kd j n < 1000 by omega) (by rw [e38 38 (Or.inl rfl)]; exact p38) (by rw [e38 40 (Or.inr rfl)]; exact p40)
      have hF5 : Fr SPr M1 M5 := hF4.trans (n4.mono (fun κ b q => by omega))
      unfold B_X8_probe_152
      rw [if_neg (nI_ge hn (by omega)), s1, Option.bind_some, r1, Option.bind_some, d1, Option.bind_some, n1, Option.bind_some, bd_eq, nI_1]
      refine ⟨M5, rfl, ⟨i5.fr hF5, s3.fr (fun κ hκ => ?_), n2, n3, ?_, fun t' kd' q => ?_⟩, pv.pr (by omega) hF5⟩
      · rw [(n4 κ 7 (fun q => by omega)).1, (d2 κ 7 (fun q => by omega)).1, (r3 κ 7 (fun q => by omega)).1]
      · exact Nat.max_le.mpr ⟨ple, hcle⟩
      · obtain ⟨y1, y2⟩ := n5 t' kd' q
        obtain ⟨z1, z2⟩ := pot t' kd' q
        exact ⟨by rw [y1, e38 38 (Or.inl rfl), z1], by rw [y2, e38 40 (Or.inr rfl), z2]⟩)
    (fun kk M1 hP => by
      unfold B_X8_probe_152
      rw [if_pos (Int32.le_refl _), bd_eq, nI_1]
      exact ⟨M1, rfl, hP.1⟩)
    FU 0 M (Nat.zero_le _) (by unfold FU; omega) ⟨hP, hv⟩
  rw [nI_0] at key
  exact key
theorem c_probeJ {M0 M : Mw} {β : Bw} {L : Lw} (hx : Gx β L) {t kd : Nat} (ht : t < β 0 0 5) (hk : kd < 5) (hP : PB M0 β L t kd M (0, 0)) :
    ∃ M', it (fun _ _ => none) (B_X8_probe_116 0 1 (nI t) (nI kd) (nI L.length) (nI (exN β t kd))) FU 0 M = some M' ∧ PB M0 β L t kd M' (exT β L t kd) := by
  have hl := hx.tp ht
  have hBF := hx.bf hl
  have hT5 := hx.1.1.2.2.2.2
  have hH := hx.H
  have hv : cnt β L (β 0 0 0) t ≤ 1000 := by
    obtain ⟨k', kk1, kk2⟩ := rn_ivs hx hl hH
    have := kk2.2 t ht
    unfold cnt
    omega
  have key := it_for (z := fun _ _ => none) (B := B_X8_probe_116 0 1 (nI t) (nI kd) (nI L.length) (nI (exN β t kd))) (n := min 51 (cnt β L (β 0 0 0) t))
    (P := fun j M1 => PB M0 β L t kd M1 (exA β L t kd j))
    (Q := fun o => ∃ M', o = some M' ∧ PB M0 β L t kd M' (exT β L t kd))
    (fun kk j M1 hj hP => by
      left
      have hj1 : j < cnt β L (β 0 0 0) t := by omega
      have hj50 : j ≤ 50 := by omega
      obtain ⟨i5, c7, prest⟩ := id hP
      obtain ⟨b1, b2, b3, b4, b5⟩ := beg_inv (β 0 0 0) j hj1
      have hbo := c_beginOf (j := j) i5.2.2.1 hT5 ht hj50 hv
      have eb : nI (bgN β L (β 0 0 0) t j) + (-1) = nI ((rn β L (β 0 0 0)).2.2.1 t j) := by
        unfold bgN
        rw [if_pos hj1, pk_m1]
      rw [eb] at hbo
      obtain ⟨k0, hk0, hv0⟩ := i5.2.2.2.1
      obtain ⟨M2, q1, q2, q3⟩ := c_show hBF (show k0 ≤ 200 by omega) (show (rn β L (β 0 0 0)).2.2.1 t j ≤ β 0 0 0 by omega) hv0
      have i52 := i5.view (show (rn β L (β 0 0 0)).2.2.1 t j ≤ β 0 0 0 by omega) q3 q2 (z_F_X5_show i5.2.2.2.2 _ q1)
      have hP2 : PB M0 β L t kd M2 (exA β L t kd j) := by
        obtain ⟨p38, p40, ple, pot⟩ := prest
        have e38 : M2.1 38 = M1.1 38 := q3.k1 (fun b => by omega)
        have e40 : M2.1 40 = M1.1 40 := q3.k1 (fun b => by omega)
        exact ⟨i52, c7.fr (fun κ hκ => (q3 κ 7 (fun q => by omega)).1), by rw [e38]; exact p38, by rw [e40]; exact p40, ple, fun t' kd' q => by rw [e38, e40]; exact pot t' kd' q⟩
      obtain ⟨M3, r1, r2⟩ := c_probeN hx ht hk hj1 hj50 kk hP2 q2
      unfold B_X8_probe_116
      rw [if_neg (show ¬ (50 : Int32) < nI j from nI_nlt (a := 50) hj50 (by omega)), hbo, Option.bind_some, if_neg (nI_nm1 (by omega)), Option.bind_some, q1, Option.bind_some]
      exact ⟨M3, r1, r2⟩)
    (fun kk M1 hP => by
      unfold B_X8_probe_116
      by_cases c : 51 ≤ cnt β L (β 0 0 0) t
      · rw [Nat.min_eq_left c, if_pos (show (50 : Int32) < nI 51 by decide)]
        rw [Nat.min_eq_left c] at hP
        refine ⟨M1, rfl, ?_⟩
        unfold exT
        rw [Nat.min_eq_left c]
        exact hP
      · have hm : min 51 (cnt β L (β 0 0 0) t) = cnt β L (β 0 0 0) t := Nat.min_eq_right (by omega)
        rw [hm, if_neg (show ¬ (50 : Int32) < nI (cnt β L (β 0 0 0) t) from nI_nlt (a := 50) (by omega) (by omega))]
        have hbo := c_beginOf (j := cnt β L (β 0 0 0) t) hP.1.2.2.1 hT5 ht (by omega) hv
        have eb : nI (bgN β L (β 0 0 0) t (cnt β L (β 0 0 0) t)) + (-1) = -1 := by
          unfold bgN
          rw [if_neg (Nat.lt_irrefl _)]
          decide
        rw [eb] at hbo
        rw [hbo, Option.bind_some, if_pos rfl]
        rw [hm] at hP
        refine ⟨M1, rfl, ?_⟩
        unfold exT
        have hm' : min 51 ((rn β L (β 0 0 0)).1.1.1 t 1) = cnt β L (β 0 0 0) t := hm
        rw [hm']
        exact hP)
    FU 0 M (Nat.zero_le _) (by unfold FU; omega) hP
  rw [nI_0] at key
  exact key
theorem c_probe {M : Mw} {β : Bw} {L : Lw} (h : InvB M β L) {t kd : Nat} (ht : t < β 0 0 5) (hk : kd < 5) :
    ∃ M', F_X8_probe 0 1 (nI t) (nI kd) M = some M' ∧ InvB M' β L ∧ M'.1 40 0 t kd = nI (exT β L t kd).2 ∧ M'.1 38 0 t kd = nI (exT β L t kd).1 + (-1) := by
  have hx := h.2.1.1
  have hT5 := hx.1.1.2.2.2.2
  have hlen := hx.len
  have i1 : inb (nI t) 5 = true := inb_nI (by omega) (by omega)
  have i2 : inb (nI kd) 5 = true := inb_nI hk (by omega)
  have ct : (nI t).toNatClampNeg = t := clampI (by omega)
  have ck : (nI kd).toNatClampNeg = kd := clampI (by omega)
  unfold F_X8_probe
  rw [if_pos i1, if_pos i2, ct, ck]
  by_cases c : M.1 40 0 t kd = -1
  case neg =>
    rw [if_neg c]
    rcases h.2.2.2.2.2 t ht kd hk with q | q
    · exact absurd q c
    · exact ⟨M, rfl, h, q.1, q.2⟩
  rw [if_pos c]
  obtain ⟨M4, q1, q2, q3⟩ := c_copy7 hx.1 h.2.2.1.1
  rw [q1, Option.bind_some, bd_eq, bd_eq]
  obtain ⟨M6, hM6⟩ : ∃ M6, M6 = uIw M4 0 7 0 7 (M4.1 0 7 0 7 + 1) := ⟨_, rfl⟩
  have h7 := C7.of q2
  have hF6 : Fr (fun κ b => κ ≤ 12 ∧ b = 7) M M6 := by
    rw [hM6]
    exact q3.trans (Fr.uI ⟨by decide, rfl⟩)
  rw [← hM6] at h7
  have hin : Iv5 M β L := ⟨h.1, h.2.1, h.2.2.1, h.2.2.2.1, h.2.2.2.2.1⟩
  have k91 : ∃ M', B_X8_probe_91 0 1 (nI t) (nI kd) (nI L.length) (nI (exN β t kd)) M6 = some M' ∧ InvB M' β L ∧ M'.1 40 0 t kd = nI (exT β L t kd).2 ∧ M'.1 38 0 t kd = nI (exT β L t kd).1 + (-1) := by
    unfold B_X8_probe_91
    rw [if_pos i1, if_pos i2, bd_eq, if_pos i1, if_pos i2, bd_eq, ct, ck]
    obtain ⟨M8, hM8⟩ : ∃ M8, M8 = uIw (uIw M6 38 0 t kd (-1)) 40 0 t kd 0 := ⟨_, rfl⟩
    have hF8 : Fr (fun κ _ => κ = 38 ∨ κ = 40) M6 M8 := by
      rw [hM8]
      exact (Fr.uI (S := fun κ _ => κ = 38 ∨ κ = 40) (Or.inl rfl)).trans (Fr.uI (S := fun κ _ => κ = 38 ∨ κ = 40) (Or.inr rfl))
    have hF : Fr SPr M M8 := (hF6.mono (fun κ b q => Or.inl q)).trans (hF8.mono (fun κ b q => Or.inr (Or.inr q)))
    have e40 : M8.1 40 0 t kd = 0 := by rw [hM8, uI1, if_pos ⟨rfl, rfl, rfl, rfl⟩]
    have e38 : M8.1 38 0 t kd = -1 := by rw [hM8, uI_k (by decide), uI1, if_pos ⟨rfl, rfl, rfl, rfl⟩]
    obtain ⟨M9, r1, r2⟩ := c_probeJ (M0 := M) hx ht hk ⟨hin.fr hF, h7.fr (fun κ hκ => (hF8 κ 7 (fun q => by omega)).1), e38, e40, Nat.zero_le _, fun t' kd' q => by
      have x38 : M6.1 38 = M.1 38 := hF6.k1 (fun b => by omega)
      have x40 : M6.1 40 = M.1 40 := hF6.k1 (fun b => by omega)
      rw [hM8, uI_k (κ' := 38) (by decide), uI1, if_neg (fun z => by omega), uI1, if_neg (fun z => by omega), uI_k (κ' := 40) (by decide), x38, x40]
      exact ⟨rfl, rfl⟩⟩
    rw [← hM8]
    obtain ⟨⟨j1, j2, j3, j4, j5⟩, c7, p38, p40, ple, pot⟩ := r2
    refine ⟨M9, r1, ⟨j1, j2, j3, j4, j5, fun t' ht' kd' hkd' => ?_⟩, p40, p38⟩
    by_cases z : t' = t ∧ kd' = kd
    · rw [z.1, z.2]
      exact Or.inr ⟨p40, p38⟩
    · obtain ⟨y1, y2⟩ := pot t' kd' (by omega)
      rw [y1, y2]
      exact h.2.2.2.2.2 t' ht' kd' hkd'
  have el : (M6.1 0 (2 + 5) 0 6 + M6.1 0 (2 + 5) 0 7) - 1 = nI L.length := by
    obtain ⟨-, ⟨a, cc, x6, x7, x8⟩, -⟩ := h7
    have x6' : M6.1 0 (2 + 5) 0 6 = nI a := x6
    have x7' : M6.1 0 (2 + 5) 0 7 = nI cc := x7
    rw [x6', x7', nI_add, x8, nI_pred]
  have hM6' : uIw M4 0 (2 + 5) 0 7 (M4.1 0 (2 + 5) 0 7 + 1) = M6 := hM6.symm
  rw [hM6', el]
  by_cases c4 : kd = 4
  · rw [if_pos (show nI kd = 4 by rw [c4]; rfl)]
    have e : nI (exN β t kd) = 1 := by
      unfold exN
      rw [if_pos c4]
      rfl
    rw [e] at k91
    exact k91
  · rw [if_neg (show ¬ nI kd = 4 from mt (nI_eq (b := 4) (by omega) (by omega)).mp c4), if_pos i1]
    have e : nI (exN β t kd) = M6.1 4 (0 + 5) t 6 := by
      unfold exN
      rw [if_neg c4, (hF6 4 (0 + 5) (fun q => by omega)).1]
      exact (h.2.2.1.1.2.2.1 t ht 6 (by decide)).symm
    rw [e] at k91
    exact k91
