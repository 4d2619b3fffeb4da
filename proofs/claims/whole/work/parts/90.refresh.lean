/-! THE BOARD CHANGES: all is made anew -/
theorem ITp.g {M M' : Mw} (h : ITp M) (e : ∀ κ, κ = 13 ∨ κ = 15 ∨ κ = 16 ∨ κ = 21 ∨ κ = 43 ∨ κ = 52 ∨ κ = 53 ∨ κ = 54 → M'.1 κ = M.1 κ) (e50 : ∀ j, j = 5 ∨ j = 12 ∨ j = 13 → M'.1 50 0 0 j = M.1 50 0 0 j) (eb : ∀ κ b, κ ≤ 12 → 2 ≤ b → b ≤ 4 → M'.1 κ b = M.1 κ b) : ITp M' := by
  obtain ⟨⟨S, s1, s2, s3, s4⟩, f1, f2, im, l1, l2⟩ := h
  refine ⟨⟨S, s1, by rw [e 15 (by omega)]; exact s2, by rw [e50 5 (by omega)]; exact s3, fun j hj => by rw [e 16 (by omega), e 54 (by omega)]; exact s4 j hj⟩, ?_, ?_, fun k hk => ?_, ?_, ?_⟩
  · rw [e 13 (by omega), e50 12 (by omega)]; exact f1
  · rw [e 13 (by omega), e50 13 (by omega)]; exact f2
  · rw [e 43 (by omega), e 53 (by omega), e 52 (by omega)]
    rcases im k hk with q | ⟨β, L, q1, q2, q3, q4, q5⟩
    · exact Or.inl q
    · exact Or.inr ⟨β, L, q1, q2, q3, q4.fr (fun κ hκ => eb κ (k + 2) hκ (by omega) (by omega)), q5⟩
  · rw [e 21 (by omega)]; exact l1
  · rw [e 21 (by omega)]; exact l2
theorem c_show0 {b : Nat} {M : Mw} {β : Bw} {L : Lw} (h : CRn b M β L 0) : F_X5_show b (nI 0) M = some M := by
  unfold F_X5_show B_X5_show_12
  rw [h.now, if_pos (Int32.le_refl _), bd_eq, it_FU]
  unfold B_X5_show_17
  rw [if_pos (Int32.le_refl _)]
theorem c_forget8 {M : Mw} : ∃ M', F_X8_forget M = some M' ∧ (∀ t, t < 5 → ∀ kd, kd < 5 → M'.1 40 0 t kd = -1) ∧ Fr (fun κ _ => κ = 40) M M' := by
  have key := it_for (z := fun _ _ => none) (B := B_X8_forget_2) (n := 5) (P := fun n M1 => (∀ t, t < n → ∀ kd, kd < 5 → M1.1 40 0 t kd = -1) ∧ Fr (fun κ _ => κ = 40) M M1)
    (Q := fun o => ∃ M', o = some M' ∧ (∀ t, t < 5 → ∀ kd, kd < 5 → M'.1 40 0 t kd = -1) ∧ Fr (fun κ _ => κ = 40) M M')
    (fun k2 n M1 hn hP => by
      obtain ⟨p1, p2⟩ := hP
      left
      have hin : inb (nI n) 5 = true := inb_nI hn (by omega)
      unfold B_X8_forget_2
      rw [if_neg (show ¬ (5 : Int32) ≤ nI n from nI_ge (b := 5) hn (by omega))]
      have key2 := it_for (z := fun _ _ => none) (B := B_X8_forget_9 k2 (nI n)) (n := 5) (P := fun m M2 => (∀ t, t < n → ∀ kd, kd < 5 → M2.1 40 0 t kd = -1) ∧ (∀ kd, kd < m → M2.1 40 0 n kd = -1) ∧ Fr (fun κ _ => κ = 40) M M2)
        (Q := fun o => ∃ M', o = k2 (nI (n + 1)) M' ∧ (∀ t, t < n + 1 → ∀ kd, kd < 5 → M'.1 40 0 t kd = -1) ∧ Fr (fun κ _ => κ = 40) M M')
        (fun k9 m M2 hm hP2 => by
          obtain ⟨r1, r2, r3⟩ := hP2
          left
          unfold B_X8_forget_9
          rw [if_neg (show ¬ (5 : Int32) ≤ nI m from nI_ge (b := 5) hm (by omega)), if_pos hin, if_pos (inb_nI hm (by omega)), clampI (by omega), clampI (by omega), bd_eq, bd_eq, nI_1]
          refine ⟨_, rfl, fun t ht kd hkd => ?_, fun kd hkd => ?_, r3.trans (Fr.uI rfl)⟩
          · rw [uI1, if_neg (fun q => by omega)]
            exact r1 t ht kd hkd
          · rw [uI1]
            by_cases z : kd = m
            · rw [if_pos ⟨rfl, rfl, rfl, z⟩]
            · rw [if_neg (fun q => z q.2.2.2)]
              exact r2 kd (by omega))
        (fun k9 M2 hP2 => by
          obtain ⟨r1, r2, r3⟩ := hP2
          unfold B_X8_forget_9
          rw [if_pos (show (5 : Int32) ≤ nI 5 by decide), bd_eq, nI_1]
          refine ⟨M2, rfl, fun t ht kd hkd => ?_, r3⟩
          by_cases z : t = n
          · rw [z]; exact r2 kd hkd
          · exact r1 t (by omega) kd hkd)
        FU 0 M1 (by omega) (by unfold FU; omega) ⟨p1, fun kd hkd => by omega, p2⟩
      rw [nI_0] at key2
      exact key2)
    (fun k2 M1 hP => by
      unfold B_X8_forget_2
      rw [if_pos (show (5 : Int32) ≤ nI 5 by decide)]
      exact ⟨M1, rfl, hP⟩)
    FU 0 M (by omega) (by unfold FU; omega) ⟨fun t ht => by omega, Fr.rfl⟩
  rw [nI_0] at key
  exact key
theorem c_refresh {M : Mw} {β : Bw} {L : Lw} (hx : Gx β L) (h : CBs 1 M β L) (hz : Zz 1 M) : ∃ M', F_X9_refresh M = some M' ∧ CBs 1 M' β L ∧ CRn 0 M' β L (β 0 0 0) ∧ CRn 1 M' β L 0 ∧ TrC M' β L ∧ Fr (fun κ b => (κ ≤ 12 ∧ (b = 5 ∨ b = 6)) ∨ (23 ≤ κ ∧ κ ≤ 35 ∧ (b = 0 ∨ b = 1)) ∨ κ = 40) M M' := by
  have hg := hx.1
  have hT5 := hg.1.2.2.2.2
  obtain ⟨M1, a1, a2, a3⟩ := c_copy (b := 5) (b1 := 1) (by decide) hg h
  obtain ⟨M2, b1, b2, b3⟩ := c_reset (b := 0) hg a2.d
  have e2 : ∀ κ, κ ≤ 12 → M2.1 κ 1 = M.1 κ 1 := fun κ hκ => by rw [(b3 κ 1 (fun q => by omega)).1, (a3 κ 1 (fun q => by omega)).1]
  have h2 : CBs 1 M2 β L := h.fr e2
  have hs : ∃ M3, F_X5_show 0 (nI (β 0 0 0)) M2 = some M3 ∧ CRn 0 M3 β L (β 0 0 0) ∧ Fr (SRun 0) M2 M3 := by
    by_cases hl : 0 < β 0 0 3
    · exact c_show (hx.bf hl) (Nat.zero_le _) (Nat.le_refl _) b2
    · have h0 : β 0 0 0 = 0 := (hx.2.2.2.2.1 (by omega)).1
      rw [h0]
      exact ⟨M2, c_show0 b2, b2, Fr.rfl⟩
  obtain ⟨M3, c1, c2, c3⟩ := hs
  have h3 : CBs 1 M3 β L := h2.fr (fun κ hκ => (c3 κ 1 (fun q => by omega)).1)
  obtain ⟨M4, d1, d2, d3⟩ := c_copy (b := 6) (b1 := 1) (by decide) hg h3
  obtain ⟨M5, f1, f2, f3⟩ := c_reset (b := 1) hg d2.d
  obtain ⟨M6, g1, g2, g3⟩ := c_forget8 (M := M5)
  have hz4 : Zz 1 M4 := hz.fr (by rw [(d3 25 1 (fun q => by omega)).1, (c3 25 1 (fun q => by omega)).1, (b3 25 1 (fun q => by omega)).1, (a3 25 1 (fun q => by omega)).1])
  have hz6 : Zz 1 M6 := Zz.fr (z_F_X5_reset hz4 M5 f1) (g3 25 1 (fun q => by omega)).1
  refine ⟨M6, ?_, ?_, ?_, ?_, ⟨hz6, fun t ht kd hkd => Or.inl (g2 t (by omega) kd hkd)⟩, ?_⟩
  · unfold F_X9_refresh
    have a1' : F_X0_copyFrom (0 + 5) 1 M = some M1 := a1
    have d1' : F_X0_copyFrom (1 + 5) 1 M3 = some M4 := d1
    rw [a1', Option.bind_some, b1, Option.bind_some, h2.c 0 (by omega), c1, Option.bind_some, d1', Option.bind_some, f1, Option.bind_some, g1, Option.bind_some]
  · exact h3.fr (fun κ hκ => by rw [(g3 κ 1 (fun q => by omega)).1, (f3 κ 1 (fun q => by omega)).1, (d3 κ 1 (fun q => by omega)).1])
  · refine c2.fr (fun κ hκ => by rw [(g3 κ 5 (fun q => by omega)).1, (f3 κ 5 (fun q => by omega)).1, (d3 κ 5 (fun q => by omega)).1]) (fun κ k1 k2 => ?_)
    obtain ⟨x1, x2, x3⟩ := g3 κ 0 (fun q => by omega)
    obtain ⟨y1, y2, y3⟩ := f3 κ 0 (fun q => by omega)
    obtain ⟨z1, z2, z3⟩ := d3 κ 0 (fun q => by omega)
    exact ⟨by rw [x1, y1, z1], by rw [x2, y2, z2], by rw [x3, y3, z3]⟩
  · refine f2.fr (fun κ hκ => (g3 κ 6 (fun q => by omega)).1) (fun κ k1 k2 => g3 κ 1 (fun q => by omega))
  · exact (((((a3.mono (fun κ b q => by omega)).trans (b3.mono (fun κ b q => by omega))).trans (c3.mono (fun κ b q => by omega))).trans (d3.mono (fun κ b q => by omega))).trans (f3.mono (fun κ b q => by omega))).trans (g3.mono (fun κ b q => by omega))
/-- behind a change of the board -/
theorem inv_refresh {M : Mw} {β : Bw} {L : Lw} (hx : Gx β L) (hT : ITp M) (h : CBs 1 M β L) (hz : Zz 1 M) : ∃ M', F_X9_refresh M = some M' ∧ M'.1 26 0 0 1 = nI (rcs β L (β 0 0 0)).length ∧ CBs 1 M' β L ∧ (∀ κ, 44 ≤ κ → M'.1 κ = M.1 κ) ∧ ∀ M2 : Mw, RWd (M2.1 51 0 0) β L → OnI M' M2 ∨ Fr (fun κ _ => κ = 51) M' M2 → InvB M2 β L := by
  obtain ⟨M', q1, q2, q3, q4, q5, q6⟩ := c_refresh hx h hz
  have hT' : ITp M' := hT.g (fun κ hκ => q6.k1 (fun b => by omega)) (fun j _ => by rw [q6.k1 (κ := 50) (fun b => by omega)]) (fun κ b h1 h2 h3 => (q6 κ b (fun q => by omega)).1)
  refine ⟨M', q1, (whole_rec q3).1, q2, fun κ hκ => q6.k1 (fun b => by omega), fun M2 hw ho => ?_⟩
  rcases ho with ho | hF
  · refine ⟨hT'.i ho, ⟨hx, q2.fr (fun κ hκ => (ho.1 κ 1 (fun q => by omega)).1), hw⟩, q3.fr (fun κ hκ => (ho.1 κ 5 (fun q => by omega)).1) (fun κ a b => ho.1 κ 0 (fun q => by omega)), ⟨0, Nat.zero_le _, q4.fr (fun κ hκ => (ho.1 κ 6 (fun q => by omega)).1) (fun κ a b => ho.1 κ 1 (fun q => by omega))⟩, q5.1.fr (ho.1 25 1 (fun q => by omega)).1, fun t ht kd hkd => ?_⟩
    rw [ho.1.k1 (κ := 40) (fun b q => by omega), ho.1.k1 (κ := 38) (fun b q => by omega)]
    exact q5.2 t ht kd hkd
  · refine ⟨hT'.g (fun κ hκ => hF.k1 (fun b => by omega)) (fun j _ => by rw [hF.k1 (κ := 50) (fun b => by omega)]) (fun κ b h1 h2 h3 => (hF κ b (fun q => by omega)).1), ⟨hx, q2.fr (fun κ hκ => (hF κ 1 (fun q => by omega)).1), hw⟩, q3.fr (fun κ hκ => (hF κ 5 (fun q => by omega)).1) (fun κ a b => hF κ 0 (fun q => by omega)), ⟨0, Nat.zero_le _, q4.fr (fun κ hκ => (hF κ 6 (fun q => by omega)).1) (fun κ a b => hF κ 1 (fun q => by omega))⟩, q5.1.fr (hF 25 1 (fun q => by omega)).1, fun t ht kd hkd => ?_⟩
    rw [hF.k1 (κ := 40) (fun b q => by omega), hF.k1 (κ := 38) (fun b q => by omega)]
    exact q5.2 t ht kd hkd
/-! acts -/
def acN (β : Bw) (a : Nat) : Bw := fun κ i j => if κ = 0 ∧ i = 0 ∧ j = 7 then a else β κ i j
theorem bst_ac {β : Bw} {a t w : Nat} : ∀ d, bst (acN β a) t w d = bst β t w d := by
  intro d
  induction d with
  | zero => rfl
  | succ d ih =>
    funext n
    show (if n = β 4 t 6 - 1 - d then vN (acN β a) t w n (bst (acN β a) t w d) else bst (acN β a) t w d n) = (if n = β 4 t 6 - 1 - d then vN β t w n (bst β t w d) else bst β t w d n)
    rw [ih]
    rfl
theorem GB.ac {β : Bw} {L L' : Lw} (h : GB β L) (a : Nat) (hl : L'.length ≤ 19) (hr : ∀ r ∈ L', GRow β r) : GB (acN β a) L' := ⟨h.1, h.2.1, h.2.2.1, h.2.2.2.1, h.2.2.2.2.1, h.2.2.2.2.2.1, h.2.2.2.2.2.2.1, hl, hr⟩
theorem Gx.ac {β : Bw} {L L' : Lw} (h : Gx β L) {a : Nat} (ha : a ≤ 10) (hl : β 0 0 6 + a = L'.length) (h3 : 0 < β 0 0 3) (hr : ∀ r ∈ L', GRow β r) : Gx (acN β a) L' := by
  obtain ⟨g1, g2, g3, g4, g5, g6, g7, g8⟩ := h
  refine ⟨g1.ac a (by omega) hr, g2, ha, hl, fun q => ?_, g6, g7, fun t ht => ?_⟩
  · have q' : β 0 0 3 = 0 := q
    omega
  · unfold goN
    rw [bst_ac, bst_ac]
    exact g8 t ht
theorem CBs.ac {M : Mw} {β : Bw} {L : Lw} (h : CBs 1 M β L) {a n : Nat} (hn : n ≤ L.length) (hl : β 0 0 6 + a = n) : CBs 1 (uIw M 0 1 0 7 (nI a)) (acN β a) (L.take n) := by
  obtain ⟨h0, hl0, h4, h68, h12, h10, hr⟩ := h.st
  refine CBs.mk' ⟨fun j hj => ?_, ?_, fun t ht j hj => ?_, fun t ht m hm => ?_, fun w hw => ?_, fun t ht j hj => ?_, fun i hi => ?_⟩
  · rw [uI1]
    by_cases z : j = 7
    · rw [if_pos ⟨rfl, rfl, rfl, z⟩, z]
      rfl
    · rw [if_neg (fun q => z q.2.2.2), h0 j hj]
      show nI (β 0 0 j) = nI (if 0 = 0 ∧ 0 = 0 ∧ j = 7 then a else β 0 0 j)
      rw [if_neg (fun q => z q.2.2)]
  · show β 0 0 6 + a = _
    rw [List.length_take]
    omega
  · rw [uI_k (by decide)]
    exact h4 t ht j hj
  · rw [uI_k (by decide), uI_k (by decide)]
    exact h68 t ht m hm
  · rw [uI_k (by decide), uI_k (by decide)]
    exact h12 w hw
  · rw [uI_k (by decide)]
    exact h10 t ht j hj
  · rw [List.length_take] at hi
    rw [uI_k (by decide), List.getElem?_take_of_lt (by omega)]
    exact hr i (by omega)
theorem RWd.ac {f : Nat → Int32} {β : Bw} {L : Lw} (h : RWd f β L) {a n : Nat} {f' : Nat → Int32} (hn : n ≤ L.length) (h6 : f' 6 = nI a) (ho : ∀ i, i ≠ 6 → f' i = f i) : RWd f' (acN β a) (L.take n) := by
  obtain ⟨⟨w0, w1, w2, w3, w4, w5, w6, w7⟩, wt, wn, ww, wi⟩ := h
  refine ⟨⟨by rw [ho 0 (by decide)]; exact w0, by rw [ho 1 (by decide)]; exact w1, by rw [ho 2 (by decide)]; exact w2, by rw [ho 3 (by decide)]; exact w3, by rw [ho 4 (by decide)]; exact w4, by rw [ho 5 (by decide)]; exact w5, h6, by rw [ho 7 (by decide)]; exact w7⟩, fun t ht j hj => by rw [ho _ (by omega)]; exact wt t ht j hj, fun t ht m hm => by rw [ho _ (by omega), ho _ (by omega)]; exact wn t ht m hm, fun w hw => by rw [ho _ (by omega)]; exact ww w hw, fun i hi => ?_⟩
  rw [List.length_take] at hi
  rw [List.getElem?_take_of_lt (by omega), wi i (by omega)]
  show some (row5 _) = some (row5 _)
  congr 1
  show (f (106 + 5 * i + 0), f (106 + 5 * i + 1), f (106 + 5 * i + 2), f (106 + 5 * i + 3), f (106 + 5 * i + 4)) = (f' (106 + 5 * i + 0), f' (106 + 5 * i + 1), f' (106 + 5 * i + 2), f' (106 + 5 * i + 3), f' (106 + 5 * i + 4))
  rw [ho _ (by omega), ho _ (by omega), ho _ (by omega), ho _ (by omega), ho _ (by omega)]
theorem ok_undo : ∀ M : Mw, Inv M → ∃ (r1 : Int32 × Mw) (r2 : Int32 × Mw), F_X9_undo M = some r1 ∧ F_X10_undo r1.2 = some r2 ∧ r1.1 = r2.1 ∧ Inv r2.2 := by
  intro M hM
  obtain ⟨β, L, h⟩ := hM
  have hx := h.2.1.1
  have h3 := hx.2.2.2.2.2.2.1
  obtain ⟨h6, h7, hll⟩ := And.intro hx.2.1 (And.intro hx.2.2.1 hx.2.2.2.1)
  have hw := h.2.1.2.2
  unfold F_X9_undo
  rw [h.2.1.2.1.c 3 (by omega), h.2.1.2.1.c 7 (by omega)]
  by_cases hl : 0 < β 0 0 3
  case neg =>
    rw [if_pos (show nI (β 0 0 3) = 0 by rw [show β 0 0 3 = 0 by omega]; rfl)]
    refine ⟨_, ((-2), M), rfl, ?_, rfl, β, L, h⟩
    unfold F_X10_undo
    show (F_X10_isBoard M).bind _ = _
    rw [r_isBoard hx hw, Option.bind_some, if_neg hl, if_pos rfl]
  rw [if_neg (nI_ne0 hl (by omega))]
  by_cases c : β 0 0 7 = 0
  · rw [if_pos (show nI (β 0 0 7) = 0 by rw [c]; rfl)]
    refine ⟨_, ((-5), M), rfl, ?_, rfl, β, L, h⟩
    unfold F_X10_undo
    show (F_X10_isBoard M).bind _ = _
    rw [r_isBoard hx hw, Option.bind_some, if_pos hl, if_neg (show ¬ (1 : Int32) = 0 by decide)]
    show (if M.1 51 0 0 6 = 0 then some ((-5), M) else _) = _
    rw [hw.1.2.2.2.2.2.2.1, if_pos (show nI (β 0 0 7) = 0 by rw [c]; rfl)]
  · have ha : nI (β 0 0 7) - 1 = nI (β 0 0 7 - 1) := by rw [show (1 : Int32) = nI 1 from rfl, pk_sub (by omega)]
    have hn : β 0 0 6 + (β 0 0 7 - 1) ≤ L.length := by omega
    have hx' : Gx (acN β (β 0 0 7 - 1)) (L.take (β 0 0 6 + (β 0 0 7 - 1))) := hx.ac (by omega) (by rw [List.length_take]; omega) hl (fun r hr => hx.1.2.2.2.2.2.2.2.2 r (List.mem_of_mem_take hr))
    have hcb := h.2.1.2.1.ac (a := β 0 0 7 - 1) hn rfl
    have hF0 : Fr (fun κ b => κ = 0 ∧ b = 1) M (uIw M 0 1 0 7 (nI (β 0 0 7 - 1))) := Fr.uI ⟨rfl, rfl⟩
    obtain ⟨M', q1, q2, q3, q4, q5⟩ := inv_refresh hx' (h.1.g (fun κ hκ => hF0.k1 (fun b => by omega)) (fun j _ => by rw [hF0.k1 (κ := 50) (fun b => by omega)]) (fun κ b _ _ _ => (hF0 κ b (by omega)).1)) hcb (h.2.2.2.2.1.fr (hF0 25 1 (by omega)).1)
    have e51 : M'.1 51 = M.1 51 := by rw [q4 51 (by decide), hF0.k1 (fun b => by omega)]
    rw [if_neg (nI_ne0 (by omega) (by omega)), ha, bd_eq, q1, Option.bind_some, q3.c 7 (by omega)]
    have hw' : RWd (M'.1 51 0 0) β L := by rw [e51]; exact hw
    refine ⟨_, (nI (β 0 0 7 - 1), uIw M' 51 0 0 6 (nI (β 0 0 7 - 1))), rfl, ?_, rfl, acN β (β 0 0 7 - 1), L.take (β 0 0 6 + (β 0 0 7 - 1)), q5 _ ?_ (Or.inr (Fr.uI rfl))⟩
    · unfold F_X10_undo
      show (F_X10_isBoard M').bind _ = _
      rw [r_isBoard hx hw', Option.bind_some, if_pos hl, if_neg (show ¬ (1 : Int32) = 0 by decide)]
      show (if M'.1 51 0 0 6 = 0 then some ((-5), M') else bd (uIw M' 51 0 0 6 (M'.1 51 0 0 6 - 1)) (fun M5 => some (M5.1 51 0 0 6, M5))) = _
      rw [hw'.1.2.2.2.2.2.2.1, if_neg (nI_ne0 (by omega) (by omega)), ha, bd_eq, uI1, if_pos ⟨rfl, rfl, rfl, rfl⟩]
    · exact hw'.ac hn (by rw [uI1, if_pos ⟨rfl, rfl, rfl, rfl⟩]) (fun i hi => by rw [uI1, if_neg (fun q => hi q.2.2.2)])
theorem ok_anew : ∀ M : Mw, Inv M → ∃ (r1 : Int32 × Mw) (r2 : Int32 × Mw), F_X9_anew M = some r1 ∧ F_X10_anew r1.2 = some r2 ∧ r1.1 = r2.1 ∧ Inv r2.2 := by
  intro M hM
  obtain ⟨β, L, h⟩ := hM
  have hx := h.2.1.1
  have h3 := hx.2.2.2.2.2.2.1
  obtain ⟨h6, h7, hll⟩ := And.intro hx.2.1 (And.intro hx.2.2.1 hx.2.2.2.1)
  have hw := h.2.1.2.2
  unfold F_X9_anew
  rw [h.2.1.2.1.c 3 (by omega), h.2.1.2.1.c 7 (by omega)]
  by_cases hl : 0 < β 0 0 3
  case neg =>
    rw [if_pos (show nI (β 0 0 3) = 0 by rw [show β 0 0 3 = 0 by omega]; rfl)]
    refine ⟨_, ((-2), M), rfl, ?_, rfl, β, L, h⟩
    unfold F_X10_anew
    show (F_X10_isBoard M).bind _ = _
    rw [r_isBoard hx hw, Option.bind_some, if_neg hl, if_pos rfl]
  rw [if_neg (nI_ne0 hl (by omega)), bd_eq, bd_eq]
  have hn : β 0 0 6 + 0 ≤ L.length := by omega
  have hx' : Gx (acN β 0) (L.take (β 0 0 6 + 0)) := hx.ac (by omega) (by rw [List.length_take]; omega) hl (fun r hr => hx.1.2.2.2.2.2.2.2.2 r (List.mem_of_mem_take hr))
  have hcb := h.2.1.2.1.ac (a := 0) hn rfl
  have hF0 : Fr (fun κ b => κ = 0 ∧ b = 1) M (uIw M 0 1 0 7 (nI 0)) := Fr.uI ⟨rfl, rfl⟩
  obtain ⟨M', q1, q2, q3, q4, q5⟩ := inv_refresh hx' (h.1.g (fun κ hκ => hF0.k1 (fun b => by omega)) (fun j _ => by rw [hF0.k1 (κ := 50) (fun b => by omega)]) (fun κ b _ _ _ => (hF0 κ b (by omega)).1)) hcb (h.2.2.2.2.1.fr (hF0 25 1 (by omega)).1)
  have e51 : M'.1 51 = M.1 51 := by rw [q4 51 (by decide), hF0.k1 (fun b => by omega)]
  have q1' : F_X9_refresh (uIw M 0 1 0 7 0) = some M' := q1
  rw [q1', Option.bind_some]
  have hw' : RWd (M'.1 51 0 0) β L := by rw [e51]; exact hw
  refine ⟨_, (nI (β 0 0 7), uIw M' 51 0 0 6 0), rfl, ?_, rfl, acN β 0, L.take (β 0 0 6 + 0), q5 _ ?_ (Or.inr (Fr.uI rfl))⟩
  · unfold F_X10_anew
    show (F_X10_isBoard M').bind _ = _
    rw [r_isBoard hx hw', Option.bind_some, if_pos hl, if_neg (show ¬ (1 : Int32) = 0 by decide)]
    show bd (M'.1 51 0 0 6) (fun v4 => bd (uIw M' 51 0 0 6 0) (fun M5 => some (v4, M5))) = _
    rw [hw'.1.2.2.2.2.2.2.1, bd_eq, bd_eq]
  · exact hw'.ac hn (by rw [uI1, if_pos ⟨rfl, rfl, rfl, rfl⟩]; rfl) (fun i hi => by rw [uI1, if_neg (fun q => hi q.2.2.2)])
