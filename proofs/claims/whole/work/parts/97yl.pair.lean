/-! THE TAPE READ, both sides -/
theorem c_clear {b : Nat} {M : Mw} : ∃ M', F_X0_clear b M = some M' ∧ (∀ j, j < 8 → M'.1 0 b 0 j = 0) ∧ (∀ t, t < 5 → M'.1 4 b t 6 = 0) ∧ (∀ t, t < 5 → ∀ n, n < 6 → M'.1 8 b t n = 0) ∧ Fr (fun κ b' => κ ≤ 12 ∧ b' = b) M M' := by
  unfold F_X0_clear
  obtain ⟨M8, hM8⟩ : ∃ M8, M8 = uIw (uIw (uIw (uIw (uIw (uIw (uIw (uIw M 0 b 0 0 0) 0 b 0 1 0) 0 b 0 2 0) 0 b 0 3 0) 0 b 0 4 0) 0 b 0 5 0) 0 b 0 6 0) 0 b 0 7 0 := ⟨_, rfl⟩
  rw [bd_eq, bd_eq, bd_eq, bd_eq, bd_eq, bd_eq, bd_eq, bd_eq, ← hM8]
  have hF8 : Fr (fun κ b' => κ ≤ 12 ∧ b' = b) M M8 := by
    rw [hM8]
    exact (((((((Fr.uI ⟨by decide, rfl⟩).trans (Fr.uI ⟨by decide, rfl⟩)).trans (Fr.uI ⟨by decide, rfl⟩)).trans (Fr.uI ⟨by decide, rfl⟩)).trans (Fr.uI ⟨by decide, rfl⟩)).trans (Fr.uI ⟨by decide, rfl⟩)).trans (Fr.uI ⟨by decide, rfl⟩)).trans (Fr.uI ⟨by decide, rfl⟩)
  have h8 : ∀ j, j < 8 → M8.1 0 b 0 j = 0 := by
    intro j hj
    rw [hM8]
    rcases (by omega : j = 0 ∨ j = 1 ∨ j = 2 ∨ j = 3 ∨ j = 4 ∨ j = 5 ∨ j = 6 ∨ j = 7) with rfl | rfl | rfl | rfl | rfl | rfl | rfl | rfl <;> simp [uI1]
  have key := it_for (z := fun _ _ => none) (B := B_X0_clear_42 b) (n := 5) (P := fun k M1 => (∀ t, t < k → M1.1 4 b t 6 = 0) ∧ (∀ t, t < k → ∀ n, n < 6 → M1.1 8 b t n = 0) ∧ M1.1 0 = M8.1 0 ∧ Fr (fun κ b' => κ ≤ 12 ∧ b' = b) M M1)
    (Q := fun o => ∃ M', o = some M' ∧ (∀ j, j < 8 → M'.1 0 b 0 j = 0) ∧ (∀ t, t < 5 → M'.1 4 b t 6 = 0) ∧ (∀ t, t < 5 → ∀ n, n < 6 → M'.1 8 b t n = 0) ∧ Fr (fun κ b' => κ ≤ 12 ∧ b' = b) M M')
    (fun kk t M1 ht hP => by
      obtain ⟨p1, p2, p3, p4⟩ := hP
      left
      have it5 : inb (nI t) 5 = true := inb_nI ht (by omega)
      have ct : (nI t).toNatClampNeg = t := clampI (by omega)
      unfold B_X0_clear_42
      rw [if_neg (show ¬ (5 : Int32) ≤ nI t from nI_ge (b := 5) ht (by omega)), if_pos it5, ct, bd_eq]
      have key2 := it_for (z := fun _ _ => none) (B := B_X0_clear_59 b kk (nI t)) (n := 6) (P := fun m M2 => (∀ t', t' < t + 1 → M2.1 4 b t' 6 = 0) ∧ (∀ t', t' < t → ∀ n, n < 6 → M2.1 8 b t' n = 0) ∧ (∀ n, n < m → M2.1 8 b t n = 0) ∧ M2.1 0 = M8.1 0 ∧ Fr (fun κ b' => κ ≤ 12 ∧ b' = b) M M2)
        (Q := fun o => ∃ M', o = kk (nI (t + 1)) M' ∧ (∀ t', t' < t + 1 → M'.1 4 b t' 6 = 0) ∧ (∀ t', t' < t + 1 → ∀ n, n < 6 → M'.1 8 b t' n = 0) ∧ M'.1 0 = M8.1 0 ∧ Fr (fun κ b' => κ ≤ 12 ∧ b' = b) M M')
        (fun k2 m M2 hm hP2 => by
          obtain ⟨r1, r2, r3, r4, r5⟩ := hP2
          left
          unfold B_X0_clear_59
          rw [if_neg (show ¬ (6 : Int32) ≤ nI m from nI_ge (b := 6) hm (by omega)), if_pos it5, if_pos (inb_nI hm (by omega)), ct, clampI (by omega), bd_eq, bd_eq, nI_1]
          refine ⟨_, rfl, fun t' ht' => by rw [uI_k (by decide)]; exact r1 t' ht', fun t' ht' n hn => by rw [uI1, if_neg (fun q => by omega)]; exact r2 t' ht' n hn, fun n hn => ?_, by rw [uI_k (by decide)]; exact r4, r5.trans (Fr.uI ⟨by decide, rfl⟩)⟩
          rw [uI1]
          by_cases z : n = m
          · rw [if_pos ⟨rfl, rfl, rfl, z⟩]
          · rw [if_neg (fun q => z q.2.2.2)]
            exact r3 n (by omega))
        (fun k2 M2 hP2 => by
          obtain ⟨r1, r2, r3, r4, r5⟩ := hP2
          unfold B_X0_clear_59
          rw [if_pos (show (6 : Int32) ≤ nI 6 by decide), bd_eq, nI_1]
          refine ⟨M2, rfl, r1, fun t' ht' n hn => ?_, r4, r5⟩
          by_cases z : t' = t
          · rw [z]; exact r3 n hn
          · exact r2 t' (by omega) n hn)
        FU 0 (uIw M1 4 b t 6 0) (by omega) (by unfold FU; omega) ⟨fun t' ht' => by
          rw [uI1]
          by_cases z : t' = t
          · rw [if_pos ⟨rfl, rfl, z, rfl⟩]
          · rw [if_neg (fun q => z q.2.2.1)]
            exact p1 t' (by omega), fun t' ht' n hn => by rw [uI_k (by decide)]; exact p2 t' ht' n hn, fun n hn => by omega, by rw [uI_k (by decide)]; exact p3, p4.trans (Fr.uI ⟨by decide, rfl⟩)⟩
      rw [nI_0] at key2
      exact key2)
    (fun kk M1 hP => by
      obtain ⟨p1, p2, p3, p4⟩ := hP
      unfold B_X0_clear_42
      rw [if_pos (show (5 : Int32) ≤ nI 5 by decide)]
      exact ⟨M1, rfl, fun j hj => by rw [p3]; exact h8 j hj, p1, p2, p4⟩)
    FU 0 M8 (by omega) (by unfold FU; omega) ⟨fun t ht => by omega, fun t ht => by omega, rfl, hF8⟩
  rw [nI_0] at key
  exact key
abbrev B0w : Bw := fun _ _ _ => 0
theorem GBp.zero : GBp B0w [] := by
  refine ⟨⟨by decide, by decide, by decide, by decide, by decide, by decide, rfl, rfl⟩, fun q => absurd q (by decide), fun _ => ⟨rfl, rfl, rfl, rfl, rfl, rfl⟩, fun q => absurd q (by decide), fun t ht => absurd ht (Nat.not_lt_zero _), fun t _ => rfl, fun t n ht => absurd ht (Nat.not_lt_zero _), fun t n k hk => ?_, ⟨rfl, fun w _ hw => absurd hw (Nat.not_lt_zero _)⟩, fun w hw => absurd hw (Nat.not_lt_zero _), fun r hr => absurd hr List.not_mem_nil⟩
  have hk' : (0 : Nat).testBit k = true := hk
  rw [Nat.zero_testBit] at hk'
  cases hk'
abbrev SBo : Nat → Nat → Prop := fun κ b => κ = 13 ∨ κ = 14 ∨ κ = 15 ∨ (κ ≤ 12 ∧ b = 0) ∨ κ = 98 ∨ κ = 99
def gB (β : Bw) : Bw := fun κ i j => if κ = 10 then goN β i j else β κ i j
theorem bst_gB {β : Bw} {t w : Nat} : ∀ d, bst (gB β) t w d = bst β t w d := by
  intro d
  induction d with
  | zero => rfl
  | succ d ih =>
    funext n
    show (if n = β 4 t 6 - 1 - d then vN (gB β) t w n (bst (gB β) t w d) else bst (gB β) t w d n) = (if n = β 4 t 6 - 1 - d then vN β t w n (bst β t w d) else bst β t w d n)
    rw [ih]
    rfl
theorem GBp.gb {β : Bw} {L : Lw} (h : GBp β L) (hn : ∀ t, t < β 0 0 5 → 0 < β 4 t 6) : GB β L := by
  obtain ⟨⟨a0, a1, a2, a3, a4, a5, a6, a7⟩, b, c, d, e, e2, g, i, j, k, l⟩ := h
  have hl : ∀ x, 0 < x → (x = β 0 0 0 ∨ x = β 0 0 5) → 0 < β 0 0 3 := fun x h1 h2 => by
    apply Nat.pos_of_ne_zero
    intro q
    obtain ⟨c0, -, -, -, c5, -⟩ := c q
    omega
  refine ⟨⟨a0, a1, a2, a3, a4⟩, fun q => b (hl _ q (Or.inl rfl)), fun q => ⟨?_, d q⟩, fun t ht => ?_, fun t n ht hn' => ?_, j, fun w hw => ?_, by omega, l⟩
  · have := b (hl _ q (Or.inr rfl))
    omega
  · obtain ⟨e0, e1, e1', e2', e3, e4, e5, e6, e7⟩ := e t ht
    exact ⟨e0, e1, e1', e2', e3, e4, e5, e6, hn t ht, e7⟩
  · obtain ⟨g1, g2⟩ := g t n ht hn'
    have h6 := (e t ht).2.2.2.2.2.2.2.2
    exact ⟨g1, g2, bits_lt h6 (fun k hk => (i t n k hk).2), fun k hk => i t n k hk⟩
  · obtain ⟨k1, k2⟩ := k w hw
    refine ⟨k1, fun q hq => ?_⟩
    rw [k2 q, decide_eq_true hq, Bool.true_and]
theorem GBp.gx {β : Bw} {L : Lw} (h : GBp β L) (hn : ∀ t, t < β 0 0 5 → 0 < β 4 t 6) (h3 : β 0 0 3 ≤ 1000) : Gx (gB β) L := by
  have hb := h.gb hn
  obtain ⟨⟨a0, a1, a2, a3, a4, a5, a6, a7⟩, b, c, -⟩ := h
  refine ⟨⟨hb.1, hb.2.1, hb.2.2.1, hb.2.2.2.1, hb.2.2.2.2.1, hb.2.2.2.2.2.1, hb.2.2.2.2.2.2.1, hb.2.2.2.2.2.2.2⟩, ?_, ?_, ?_, c, b, h3, fun t ht => ?_⟩
  · show β 0 0 6 ≤ 8
    omega
  · show β 0 0 7 ≤ 10
    omega
  · show β 0 0 6 + β 0 0 7 = L.length
    omega
  · unfold goN
    rw [bst_gB, bst_gB]
    exact ⟨rfl, rfl⟩
theorem board_pair {M Mr : Mw} {S : Nat} {f : Nat → Nat} (hc : CTp M S f) (hr1 : ∀ j, j < S → Mr.1 54 0 0 j &&& 255 = nI (f j) ∧ (f j < 128 → Mr.1 54 0 0 j = nI (f j))) (hr2 : Mr.1 50 0 0 5 = nI S) :
    (∃ β L Mc' Mr', F_X1_readTape M = some (1, Mc') ∧ F_X10_board Mr = some (nI (β 0 0 3), Mr') ∧ Gx β L ∧ CBs 0 Mc' β L ∧ Mc'.1 13 0 0 2 = 0 ∧ Mc'.1 13 0 0 3 = -1 ∧ Mc'.1 15 0 0 1 = nI S ∧ Fr SBo M Mc' ∧ RWd (Mr'.1 51 0 0) β L ∧ Mr'.1 50 0 0 12 = 0 ∧ Mr'.1 50 0 0 13 = -1 ∧ Mr'.1 50 0 0 5 = 0 ∧ Fr (fun κ _ => κ = 50 ∨ κ = 51 ∨ κ = 56) Mr Mr') ∨
    (∃ e pl Mc' Mr', F_X1_readTape M = some (0, Mc') ∧ F_X10_board Mr = some (-4, Mr') ∧ CF Mc' e pl ∧ RF Mr' e pl ∧ Fr SBo M Mc' ∧ Mr'.1 50 0 0 5 = 0 ∧ Fr (fun κ _ => κ = 50 ∨ κ = 56) Mr Mr') := by
  -- the class starts
  obtain ⟨M1, a1, a2, a3, a4, a5⟩ := c_clear (b := 0) (M := M)
  obtain ⟨M4, hM4⟩ : ∃ M4, M4 = uIw (uIw (uIw M1 13 0 0 2 0) 13 0 0 3 (-1)) 15 0 0 4 0 := ⟨_, rfl⟩
  have hc4 : CTp M4 S f := hc.fr (by rw [hM4, uI_k (by decide), uI_k (by decide), uI_k (by decide), a5.k1 (fun b => by omega)]) (by rw [hM4, uI1, if_neg (fun q => absurd q.2.2.2 (by decide)), uI_k (by decide), uI_k (by decide), a5.k1 (fun b => by omega)])
  have hF4 : Fr SBo M M4 := by
    rw [hM4]
    exact (((a5.mono (fun κ b q => by omega)).trans (Fr.uI (S := SBo) (Or.inl rfl))).trans (Fr.uI (S := SBo) (Or.inl rfl))).trans (Fr.uI (S := SBo) (Or.inr (Or.inr (Or.inl rfl))))
  obtain ⟨M5, b1, b2, b3, b4⟩ := c_advance hc4 (Nat.zero_le _) (show M4.1 15 0 0 4 = nI 0 by rw [hM4, uI1, if_pos ⟨rfl, rfl, rfl, rfl⟩]; rfl)
  have hF5 : Fr SBo M M5 := hF4.trans (b4.mono (fun κ b q => by omega))
  have k5 : ∀ κ, κ ≠ 15 → M5.1 κ = M4.1 κ := fun κ q => b4.k1 (fun b => q)
  have k41 : ∀ κ, κ ≠ 13 → κ ≠ 15 → M4.1 κ = M1.1 κ := fun κ p q => by rw [hM4, uI_k q, uI_k p, uI_k p]
  have ec : F_X1_readTape M = it (fun _ _ => none) (B_X1_readTape_26) FU (nI 0) M5 := by
    unfold F_X1_readTape F_X6_rewind
    rw [a1, Option.bind_some, bd_eq, bd_eq, bd_eq, ← hM4, b1, Option.bind_some, Option.bind_some]
    rfl
  -- the reference starts
  obtain ⟨R5, hR5⟩ : ∃ R5, R5 = uIw (uIw (uIw (uIw (uIw Mr 50 0 0 7 (Mr.1 50 0 0 5)) 50 0 0 5 0) 50 0 0 8 0) 50 0 0 12 0) 50 0 0 13 (-1) := ⟨_, rfl⟩
  have kR5 : ∀ κ, κ ≠ 50 → R5.1 κ = Mr.1 κ := fun κ q => by rw [hR5, uI_k q, uI_k q, uI_k q, uI_k q, uI_k q]
  have hFR5 : Fr (fun κ _ => κ = 50 ∨ κ = 56) Mr R5 := by
    rw [hR5]
    exact ((((Fr.uI (Or.inl rfl)).trans (Fr.uI (Or.inl rfl))).trans (Fr.uI (Or.inl rfl))).trans (Fr.uI (Or.inl rfl))).trans (Fr.uI (Or.inl rfl))
  have r507 : R5.1 50 0 0 7 = nI S := by rw [hR5]; simp [uI1]; exact hr2
  have r505 : R5.1 50 0 0 5 = 0 := by rw [hR5]; simp [uI1]
  have r508 : R5.1 50 0 0 8 = nI 0 := by rw [hR5]; simp [uI1]; rfl
  have r5012 : R5.1 50 0 0 12 = 0 := by rw [hR5]; simp [uI1]
  have r5013 : R5.1 50 0 0 13 = -1 := by rw [hR5]; simp [uI1]
  have hz := it_for (z := fun _ _ => none) (B := B_X10_board_30) (n := 201) (P := fun n M3 => (∀ i, i < n → M3.1 56 0 0 i = 0) ∧ Fr (fun κ _ => κ = 56) R5 M3)
    (Q := fun o => ∃ M2, o = (F_X10_advance M2).bind (fun M7 => it (fun _ => none) (B_X10_board_54) FU M7) ∧ (∀ i, i < 201 → M2.1 56 0 0 i = 0) ∧ Fr (fun κ _ => κ = 56) R5 M2)
    (fun kk n M3 hn hP => by
      obtain ⟨p1, p3⟩ := hP
      left
      unfold B_X10_board_30
      rw [if_neg (show ¬ (201 : Int32) ≤ nI n from nI_ge (b := 201) hn (by omega)), if_pos (inb_nI hn (by omega)), clampI (by omega), bd_eq, bd_eq, nI_1]
      refine ⟨_, rfl, fun i hi => ?_, p3.trans (Fr.uI rfl)⟩
      rw [uI1]
      by_cases z : i = n
      · rw [if_pos ⟨rfl, rfl, rfl, z⟩]
      · rw [if_neg (fun q => z q.2.2.2)]
        exact p1 i (by omega))
    (fun kk M3 hP => by
      unfold B_X10_board_30
      rw [if_pos (show (201 : Int32) ≤ nI 201 by decide)]
      exact ⟨M3, rfl, hP⟩)
    FU 0 R5 (by omega) (by unfold FU; omega) ⟨fun i hi => by omega, Fr.rfl⟩
  rw [nI_0] at hz
  obtain ⟨R6, z1, z2, z3⟩ := hz
  have e650 : R6.1 50 = R5.1 50 := z3.k1 (fun b => by omega)
  have hr6 : RTp R6 S f := ⟨hc.1, hc.2.1, fun j hj => by rw [z3.k1 (fun b => by omega), kR5 54 (by decide)]; exact hr1 j hj, by rw [e650]; exact r507⟩
  obtain ⟨R7, y1, y2, y3, y4⟩ := r_advance hr6 (Nat.zero_le _) (by rw [e650]; exact r508)
  have er : F_X10_board Mr = it (fun _ => none) (B_X10_board_54) FU R7 := by
    unfold F_X10_board
    rw [bd_eq, bd_eq, bd_eq, bd_eq, bd_eq, ← hR5, z1, y1, Option.bind_some]
  have e756 : R7.1 56 = R6.1 56 := y4.1.k1 (fun b => by omega)
  have hFR7 : Fr (fun κ _ => κ = 50 ∨ κ = 56) Mr R7 := (hFR5.trans (z3.mono (fun κ b q => Or.inr q))).trans (y4.1.mono (fun κ b q => Or.inl q))
  have hk : Lk S f M5 R7 B0w [] 0 := by
    refine ⟨⟨Nat.zero_le _, b2, b3⟩, ?_, ?_, ⟨fun j hj => ?_, fun t ht => absurd ht (Nat.not_lt_zero _), fun t ht => ?_, fun t ht n hn => ?_, fun t ht => absurd ht (Nat.not_lt_zero _), fun w hw => absurd hw (Nat.not_lt_zero _), fun i hi => absurd hi (Nat.not_lt_zero _)⟩, ⟨Nat.zero_le _, y2, y3, ?_, ?_⟩, ⟨⟨⟨?_, ?_, ?_, ?_, ?_, ?_, ?_, ?_⟩, fun t ht => absurd ht (Nat.not_lt_zero _), fun t ht => absurd ht (Nat.not_lt_zero _), fun w hw => absurd hw (Nat.not_lt_zero _), fun i hi => absurd hi (Nat.not_lt_zero _)⟩, fun t ht => ?_⟩, GBp.zero⟩
    · rw [k5 13 (by decide), hM4, uI_k (by decide), uI1, if_neg (fun q => absurd q.2.2.2 (by decide)), uI1, if_pos ⟨rfl, rfl, rfl, rfl⟩]
    · rw [k5 13 (by decide), hM4, uI_k (by decide), uI1, if_pos ⟨rfl, rfl, rfl, rfl⟩]
    · rw [k5 0 (by decide), k41 0 (by decide) (by decide)]; exact a2 j hj
    · rw [k5 4 (by decide), k41 4 (by decide) (by decide)]; exact a3 t ht
    · rw [k5 8 (by decide), k41 8 (by decide) (by decide)]; exact a4 t ht n hn
    · rw [y4.2 12 (by decide) (by decide) (by decide) (by decide), e650]; exact r5012
    · rw [y4.2 13 (by decide) (by decide) (by decide) (by decide), e650]; exact r5013
    · rw [e756]; exact z2 0 (by decide)
    · rw [e756]; exact z2 1 (by decide)
    · rw [e756]; exact z2 2 (by decide)
    · rw [e756]; exact z2 3 (by decide)
    · rw [e756]; exact z2 4 (by decide)
    · rw [e756]; exact z2 5 (by decide)
    · rw [e756]; exact z2 6 (by decide)
    · rw [e756]; exact z2 7 (by decide)
    · rw [e756]; exact z2 _ (by omega)
  have h505 : R7.1 50 0 0 5 = 0 := by rw [y4.2 5 (by decide) (by decide) (by decide) (by decide), e650]; exact r505
  rw [ec, er]
  have hS := hc.1
  -- a fault: both stop
  have kbad : ∀ (e pl : Nat) (Mc' Mr' : Mw), CF Mc' e pl → RF Mr' e pl → B_X1_readTape_88 Mc' = some (0, Mc') ∧ B_X1_readTape_77 Mc' = some (0, Mc') ∧ B_X10_board_131 Mr' = some (-4, Mr') ∧ B_X10_board_75 Mr' = some (-4, Mr') := by
    intro e pl Mc' Mr' h1 h2
    have hne : ¬ Mc'.1 13 0 0 2 = 0 := by
      rw [h1.1]
      exact nI_ne0 h2.2.1 (by have := h2.1; omega)
    have h88 : B_X1_readTape_88 Mc' = some (0, Mc') := by
      unfold B_X1_readTape_88 B_X1_readTape_102
      rw [if_neg hne, if_neg hne]
    have h131 : B_X10_board_131 Mr' = some (-4, Mr') := by
      unfold B_X10_board_131
      rw [r_good0 h2.ne, Option.bind_some, if_pos rfl]
    refine ⟨h88, ?_, h131, ?_⟩
    · unfold B_X1_readTape_77
      rw [if_neg hne, h88]
    · unfold B_X10_board_75
      rw [it_FU]
      generalize it (fun _ _ => none) (B_X10_board_77) 999999 = kk
      unfold B_X10_board_77
      rw [r_good0 h2.ne, Option.bind_some, if_pos rfl, h131]
      by_cases z : Mr'.1 56 0 0 4 ≤ 0
      · rw [if_pos z]
      · rw [if_neg z]
  rcases tape_loop (S + 1) M5 R7 B0w [] 0 FU FU 0 (by omega) (by unfold FU; omega) (by unfold FU; omega) (Nat.le_refl _) hk (Nat.le_refl _) with ⟨Mc', Mr', β, L, a, p1, p2, p3, p4, p5, p6⟩ | ⟨e, pl, Mc', Mr', p1, p2, p3, p4, p5, p6⟩
  case inr =>
    right
    obtain ⟨-, q1, -, q2⟩ := kbad e pl Mc' Mr' p3 p4
    exact ⟨e, pl, Mc', Mr', by rw [p1, q1], by rw [p2, q2], p3, p4, hF5.trans (p5.mono (fun κ b q => by omega)), by rw [p6.2 5 (by omega)]; exact h505, hFR7.trans p6.1⟩
  have hk' := p3
  obtain ⟨hc', h132, h133, hC, hr, hR, hg⟩ := p3
  rw [p1, p2]
  unfold B_X1_readTape_77 B_X10_board_75 F_X1_findTaskWithoutNode
  rw [if_pos h132]
  have hT5 := hg.1.2.2.2.2.1
  rcases bare_loop hk' (β 0 0 5) 0 FU FU (by omega) (by unfold FU; omega) (by unfold FU; omega) with ⟨q1, q2, q3⟩ | ⟨t, Mc2, Mr2, q1, q2, q3, q4, q5, q6⟩
  case inr =>
    rw [nI_0] at q1 q2
    right
    obtain ⟨x1, -, x2, -⟩ := kbad 4 t Mc2 Mr2 q3 q4
    rw [q1, q2, Option.bind_some, x1, x2]
    exact ⟨4, t, Mc2, Mr2, rfl, rfl, q3, q4, (hF5.trans (p5.mono (fun κ b q => by omega))).trans (q5.mono (fun κ b q => by omega)), by rw [q6.2 5 (by omega), p6.2 5 (by omega)]; exact h505, (hFR7.trans p6.1).trans q6.1⟩
  rw [nI_0] at q2 q3
  left
  have hn : ∀ t, t < β 0 0 5 → 0 < β 4 t 6 := fun t ht => q1 t (Nat.zero_le _) ht
  have hS3 : β 0 0 3 ≤ 1000 := Nat.le_trans p4 (Nat.le_trans hc'.1 hS)
  have hGB := hg.gb hn
  obtain ⟨M11, m1, m2, m3⟩ := c_measure (b := 0) (M := Mc') hGB (hC.1 5 (by decide)) (fun t ht => hC.2.2.1 t (by omega)) (fun t ht n hn' => ⟨hC.2.2.2.2.1 t ht n hn', hC.2.2.2.1 t (by omega) n (by have := (hGB.2.2.2.1 t ht).2.2.2.2.2.2.2.2.2; omega)⟩)
  obtain ⟨R9, t1, t2, t3⟩ := r_tell131 hr.2.2.2.1
  have k11 : ∀ κ, κ ≠ 98 → κ ≠ 99 → κ ≠ 10 → M11.1 κ = Mc'.1 κ := fun κ x y z => m3.k1 (fun b => by omega)
  refine ⟨gB β, L, M11, R9, ?_, ?_, hg.gx hn hS3, CBs.mk' ⟨fun j hj => ?_, ?_, fun t ht j hj => ?_, fun t ht n hn' => ?_, fun w hw => ?_, fun t ht j hj => ?_, fun i hi => ?_⟩, ?_, ?_, ?_, (hF5.trans (p5.mono (fun κ b q => by omega))).trans (m3.mono (fun κ b q => by omega)), ?_, ?_, ?_, ?_, ((hFR7.trans p6.1).mono (fun κ b q => by omega)).trans (t3.mono (fun κ b q => by omega))⟩
  · rw [q2, Option.bind_some]
    unfold B_X1_readTape_88 B_X1_readTape_102
    rw [if_pos h132, m1, Option.bind_some, k11 13 (by decide) (by decide) (by decide), if_pos h132]
  · rw [q3, t1, hR.1.1.2.2.2.2.2.2.2]
    rfl
  · rw [k11 0 (by decide) (by decide) (by decide)]; exact hC.1 j hj
  · obtain ⟨⟨a0, a1, a2, a3, a4, a5, a6, a7⟩, -⟩ := hg
    show β 0 0 6 + β 0 0 7 = L.length
    omega
  · rw [k11 4 (by decide) (by decide) (by decide)]
    by_cases z : j = 6
    · rw [z]; exact hC.2.2.1 t (Nat.lt_of_lt_of_le ht hT5)
    · exact hC.2.1 t ht j (by omega)
  · rw [k11 6 (by decide) (by decide) (by decide), k11 8 (by decide) (by decide) (by decide)]
    have h6 := (hGB.2.2.2.1 t ht).2.2.2.2.2.2.2.2.2
    exact ⟨hC.2.2.2.2.1 t ht n hn', hC.2.2.2.1 t (Nat.lt_of_lt_of_le ht hT5) n (Nat.lt_of_lt_of_le hn' h6)⟩
  · rw [k11 1 (by decide) (by decide) (by decide), k11 2 (by decide) (by decide) (by decide)]
    exact hC.2.2.2.2.2.1 w hw
  · obtain ⟨x0, x1⟩ := m2 t ht
    rcases (by omega : j = 0 ∨ j = 1) with rfl | rfl
    · exact x0
    · exact x1
  · rw [k11 12 (by decide) (by decide) (by decide)]
    exact hC.2.2.2.2.2.2 i hi
  · rw [k11 13 (by decide) (by decide) (by decide)]; exact h132
  · rw [k11 13 (by decide) (by decide) (by decide)]; exact h133
  · rw [k11 15 (by decide) (by decide) (by decide)]; exact hc'.2.1.2.2.2
  · have hw : RWd (Mr'.1 56 0 0) (gB β) L := hR.1
    have hx := hg.gx hn hS3
    exact hw.eq hx (fun i hi => t2 i hi)
  · rw [t3.k1 (fun b => by omega)]; exact hr.2.2.2.1
  · rw [t3.k1 (fun b => by omega)]; exact hr.2.2.2.2
  · rw [t3.k1 (fun b => by omega), p6.2 5 (by omega)]; exact h505
