/-! a watcher, both sides -/
theorem c_addWatcher {M : Mw} {β : Bw} {L : Lw} {u : Nat} (hC : KC M β L) (hg : GBp β L) (hW : β 0 0 4 < 3) (hu : u ≤ β 0 0 4) : ∃ M', F_X0_addWatcher 0 (nI u + (-1)) M = some M' ∧ M'.1 0 0 0 4 = nI (β 0 0 4 + 1) ∧ (∀ j, j ≠ 4 → M'.1 0 0 0 j = M.1 0 0 0 j) ∧ (∀ w, w ≤ β 0 0 4 → M'.1 1 0 0 w = if w = β 0 0 4 then nI u + (-1) else M.1 1 0 0 w) ∧ (∀ w, w ≤ β 0 0 4 → M'.1 2 0 0 w = nI (bwN β u (β 0 0 4) w)) ∧ Fr (fun κ b => (κ = 0 ∨ κ = 1 ∨ κ = 2) ∧ b = 0) M M' := by
  have e4 : M.1 0 0 0 4 = nI (β 0 0 4) := hC.1 4 (by decide)
  have k8 := fun w hw => (hg.2.2.2.2.2.2.2.2.2.1 w hw).1
  generalize hWd : β 0 0 4 = W at hW hu e4 k8
  obtain ⟨M4, hM4⟩ : ∃ M4, M4 = uIw (uIw M 1 0 0 W (nI u + (-1))) 2 0 0 W (nI (2 ^ W)) := ⟨_, rfl⟩
  have hF4 : Fr (fun κ b => (κ = 0 ∨ κ = 1 ∨ κ = 2) ∧ b = 0) M M4 := by
    rw [hM4]
    exact (Fr.uI (S := fun κ b => (κ = 0 ∨ κ = 1 ∨ κ = 2) ∧ b = 0) ⟨Or.inr (Or.inl rfl), rfl⟩).trans (Fr.uI (S := fun κ b => (κ = 0 ∨ κ = 1 ∨ κ = 2) ∧ b = 0) ⟨Or.inr (Or.inr rfl), rfl⟩)
  have e40 : M4.1 0 = M.1 0 := by rw [hM4, uI_k (by decide), uI_k (by decide)]
  have e41 : M4.1 1 = (uIw M 1 0 0 W (nI u + (-1))).1 1 := by rw [hM4, uI_k (by decide)]
  have e42 : ∀ w, M4.1 2 0 0 w = if w = W then nI (2 ^ W) else M.1 2 0 0 w := fun w => by
    rw [hM4, uI1]
    by_cases c : w = W
    · rw [if_pos ⟨rfl, rfl, rfl, c⟩, if_pos c]
    · rw [if_neg (fun q => c q.2.2.2), if_neg c, uI_k (by decide)]
  have key := it_for (z := fun _ _ => none) (B := B_X0_addWatcher_36 0 (nI u + (-1))) (n := W)
    (P := fun n M1 => (∀ w, w ≤ W → M1.1 2 0 0 w = if w < n then nI (bwN β u W w) else M4.1 2 0 0 w) ∧ Fr (fun κ b => κ = 2 ∧ b = 0) M4 M1)
    (Q := fun o => ∃ M', o = some M' ∧ M'.1 0 0 0 4 = nI (W + 1) ∧ (∀ j, j ≠ 4 → M'.1 0 0 0 j = M.1 0 0 0 j) ∧ (∀ w, w ≤ W → M'.1 1 0 0 w = if w = W then nI u + (-1) else M.1 1 0 0 w) ∧ (∀ w, w ≤ W → M'.1 2 0 0 w = nI (bwN β u W w)) ∧ Fr (fun κ b => (κ = 0 ∨ κ = 1 ∨ κ = 2) ∧ b = 0) M M')
    (fun kk n M1 hn hP => by
      obtain ⟨p1, p2⟩ := hP
      left
      have x4 : M1.1 0 0 0 4 = nI W := by rw [(p2 0 0 (by omega)).1, e40, e4]
      have i3 : inb (nI n) 3 = true := inb_nI (by omega) (by omega)
      have x2 : M1.1 2 0 0 n = nI (β 2 0 n) := by
        rw [p1 n (by omega), if_neg (Nat.lt_irrefl _), e42, if_neg (by omega)]
        exact (hC.2.2.2.2.2.1 n (by omega)).2
      have h8 := k8 n (by omega)
      have hst : ∀ v : Nat, v = bwN β u W n → ∀ w, w ≤ W → (if w = n then nI v else M1.1 2 0 0 w) = if w < n + 1 then nI (bwN β u W w) else M4.1 2 0 0 w := by
        intro v e w hw
        by_cases c : w = n
        · rw [if_pos c, if_pos (by omega), e, c]
        · rw [if_neg c, p1 w hw]
          by_cases d : w < n
          · rw [if_pos d, if_pos (by omega)]
          · rw [if_neg d, if_neg (by omega)]
      have hsame : β 2 0 n = bwN β u W n → ∀ w, w ≤ W → M1.1 2 0 0 w = if w < n + 1 then nI (bwN β u W w) else M4.1 2 0 0 w := by
        intro e w hw
        rw [← hst _ e w hw]
        by_cases c : w = n
        · rw [if_pos c, c, x2]
        · rw [if_neg c]
      unfold B_X0_addWatcher_36
      rw [x4, if_neg (nI_ge hn (by omega))]
      by_cases cu : u = 0
      · rw [if_pos (show nI u + (-1) = -1 by rw [cu]; decide), bd_eq, nI_1]
        refine ⟨M1, rfl, hsame ?_, p2⟩
        unfold bwN
        rw [if_neg (by omega), if_neg (fun q => q.1 cu)]
      · obtain ⟨v, rfl⟩ : ∃ v, u = v + 1 := ⟨u - 1, by omega⟩
        rw [if_neg (nI_m1n cu (by omega)), if_pos i3, clampI (by omega), x2, pk_m1]
        have hab := andW_bit _ h8 v (by omega)
        by_cases cb : (β 2 0 n).testBit v = true
        · rw [if_neg (fun q => (hab.mp q) cb), if_pos i3, if_pos i3, (orW_bit _ h8 W hW).1, bd_eq, bd_eq, nI_1]
          refine ⟨_, rfl, fun w hw => ?_, p2.trans (Fr.uI ⟨rfl, rfl⟩)⟩
          rw [uI1, ← hst (β 2 0 n ||| 2 ^ W) (by
            unfold bwN
            rw [if_neg (by omega), if_pos ⟨by omega, cb⟩]) w hw]
          by_cases c : w = n
          · rw [if_pos ⟨rfl, rfl, rfl, c⟩, if_pos c]
          · rw [if_neg (fun q => c q.2.2.2), if_neg c]
        · rw [if_pos (hab.mpr cb), bd_eq, nI_1]
          refine ⟨M1, rfl, hsame ?_, p2⟩
          unfold bwN
          rw [if_neg (by omega), if_neg (fun q => cb q.2)])
    (fun kk M1 hP => by
      obtain ⟨p1, p2⟩ := hP
      have x4 : M1.1 0 0 0 4 = nI W := by rw [(p2 0 0 (by omega)).1, e40, e4]
      unfold B_X0_addWatcher_36
      rw [x4, if_pos (Int32.le_refl _), bd_eq, nI_1]
      refine ⟨_, rfl, by rw [uI1, if_pos ⟨rfl, rfl, rfl, rfl⟩], fun j hj => ?_, fun w hw => ?_, fun w hw => ?_, (hF4.trans (p2.mono (fun κ b q => ⟨by omega, q.2⟩))).trans (Fr.uI ⟨Or.inl rfl, rfl⟩)⟩
      · rw [uI1, if_neg (fun q => hj q.2.2.2), (p2 0 0 (by omega)).1, e40]
      · rw [uI_k (by decide), (p2 1 0 (by omega)).1, e41, uI1]
        by_cases c : w = W
        · rw [if_pos ⟨rfl, rfl, rfl, c⟩, if_pos c]
        · rw [if_neg (fun q => c q.2.2.2), if_neg c]
      · rw [uI_k (by decide), p1 w hw]
        by_cases c : w < W
        · rw [if_pos c]
        · obtain rfl : w = W := by omega
          rw [if_neg (Nat.lt_irrefl _), e42, if_pos rfl]
          unfold bwN
          rw [if_pos rfl])
    FU 0 M4 (Nat.zero_le _) (by unfold FU; omega) ⟨fun w hw => by rw [if_neg (Nat.not_lt_zero _)], Fr.rfl⟩
  rw [nI_0] at key
  unfold F_X0_addWatcher
  rw [e4, if_pos (show nI W < 3 from nI_lt (b := 3) hW (by omega)), if_pos (inb_nI (by omega) (by omega)), clampI (by omega), bd_eq]
  have e4' : (uIw M 1 0 0 W (nI u + (-1))).1 0 0 0 4 = nI W := by rw [uI_k (by decide), e4]
  rw [e4', if_pos (inb_nI (by omega) (by omega)), clampI (by omega), shW_bit W hW, bd_eq, ← hM4]
  exact key
theorem ln_watch {S a : Nat} {f : Nat → Nat} {Mc Mr : Mw} {β : Bw} {L : Lw} (hk : Lk S f Mc Mr β L a) (hl : 0 < β 0 0 3) (hla : β 0 0 3 ≤ a) (hm : kdP S f a ≠ 4) : LnO S f Mc Mr a (F_X1_readWatcher Mc) ((F_X10_readWatcher Mr).bind B_X10_readText_91) := by
  obtain ⟨hc, h132, h133, hC, hr, hR, hg⟩ := hk
  have hf := hc.2.1.2.1
  have e4 : Mc.1 0 0 0 4 = nI (β 0 0 4) := hC.1 4 (by decide)
  have w3 : Mr.1 56 0 0 3 = nI (β 0 0 4) := hR.1.1.2.2.2.1
  have hW3 := hg.1.2.2.2.1
  unfold F_X1_readWatcher F_X10_readWatcher
  rw [e4]
  have hcan := r_can (idx := 3) (most := nI 3) hr (by decide)
  by_cases cW : β 0 0 4 < 3
  case neg =>
    have e3 : β 0 0 4 = 3 := by omega
    rcases hcan with ⟨c, M', r1, r2, r3⟩ | ⟨c, -⟩
    · have r1' : F_X10_canTake 3 3 Mr = some (0, M') := r1
      obtain ⟨Mc', q1, q2, q3⟩ := c_flaw (e := 3) hc
      have q1' : (F_X1_fail 3 Mc).bind (fun q => if bz q.1 then some (q.1, q.2) else none) = some (0, Mc') := q1
      obtain ⟨M2, b1, b2, b3⟩ := bk_91 _ _ _ r2
      rw [if_neg (show ¬ nI (β 0 0 4) < 3 from nI_nlt (b := 3) (by omega) (by omega)), q1', r1', Option.bind_some, if_pos rfl]
      exact Or.inr ⟨3, _, Mc', M2, rfl, q2, b1, b2, q3.mono (fun κ b q => by omega), r3.b.trans b3⟩
    · exact absurd (by rw [w3, e3]) c
  rcases hcan with ⟨c, -⟩ | ⟨-, Mr1, r1, r2, r3⟩
  · rw [w3] at c
    have := (nI_eq (by omega) (by omega)).mp c
    omega
  have r1' : F_X10_canTake 3 3 Mr = some (1, Mr1) := r1
  obtain ⟨Mc1, q1, q2, q3⟩ := hc.adv
  rw [if_pos (show nI (β 0 0 4) < 3 from nI_lt (b := 3) cW (by omega)), q1, Option.bind_some, r1', Option.bind_some, if_neg (show ¬ (1 : Int32) = 0 by decide)]
  have eR1 : Mr1.1 56 = Mr.1 56 := r3.1.k1 (fun b => by omega)
  obtain ⟨Mc2, hMc2⟩ : ∃ Mc2, Mc2 = uIw Mc1 14 0 0 0 (-1) := ⟨_, rfl⟩
  have q2' : CS Mc2 S f (enP S f a) := by rw [hMc2]; exact q2.fr (uI_k (by decide)) (uI_k (by decide))
  have e42 : Mc2.1 0 0 0 4 = nI (β 0 0 4) := by rw [hMc2, uI_k (by decide), q3.k1 (fun b => by omega), e4]
  have w31 : Mr1.1 56 0 0 3 = nI (β 0 0 4) := by rw [eR1, w3]
  rw [bd_eq, ← hMc2, e42]
  show LnO S f Mc Mr a _ (((if Mr1.1 56 0 0 3 = 0 then ((F_X10_expects 12 Mr1).bind (fun M11 => (B_X10_readWatcher_46 (-1) M11))) else ((F_X10_toldBy 21 0 ((Mr1.1 56 0 0 3) - 1) Mr1).bind (fun q5 => (bd q5.1 (fun v7 => (B_X10_readWatcher_46 v7 q5.2))))))).bind B_X10_readText_91)
  rw [w31]
  have b46 : ∀ v, BK (fun M => (B_X10_readWatcher_46 v M).bind B_X10_readText_91) → True := fun _ _ => trivial
  have hFc2 : Fr SC Mc Mc2 := by
    rw [hMc2]
    exact (q3.mono (fun κ b q => by omega)).trans (Fr.uI (S := SC) (Or.inr (Or.inl rfl)))
  have hOld : ∀ κ, κ ≠ 14 → κ ≠ 15 → Mc2.1 κ = Mc.1 κ := fun κ x y => by rw [hMc2, uI_k x, q3.k1 (fun b => y)]
  -- what the reference stores
  have s46 : ∀ (v : Int32) (M : Mw), M.1 56 0 0 3 = nI (β 0 0 4) → (B_X10_readWatcher_46 v M).bind B_X10_readText_91 = B_X10_readText_91 (uIw (uIw M 56 0 0 (8 + β 0 0 4) v) 56 0 0 3 (nI (β 0 0 4 + 1))) := by
    intro v M h3
    have e8 : (8 : Int32) + nI (β 0 0 4) = nI (8 + β 0 0 4) := nI_add 8 _
    have e3' : (uIw M 56 0 0 (8 + β 0 0 4) v).1 56 0 0 3 = nI (β 0 0 4) := by rw [uI1, if_neg (fun q => by omega), h3]
    unfold B_X10_readWatcher_46
    rw [h3, e8, if_pos (inb_nI (by omega) (by omega)), clampI (by omega), bd_eq, e3', bd_eq, nI_1, Option.bind_some]
  -- the end, on both sides
  have kend : ∀ (Mc4 Mr4 : Mw) (a4 u : Nat), CS Mc4 S f a4 → RS Mr4 S f a4 → Mc4.1 14 0 0 0 = nI u + (-1) → (β 0 0 4 = 0 → u = 0) → (0 < β 0 0 4 → 1 ≤ u ∧ u ≤ β 0 0 4) → enP S f a ≤ a4 → (∀ κ, κ ≠ 14 → κ ≠ 15 → Mc4.1 κ = Mc.1 κ) → Mr4.1 56 = Mr.1 56 → Fr SC Mc Mc4 → OB Mr Mr4 →
      LnO S f Mc Mr a ((F_X1_readEnd Mc4).bind (fun q9 => if q9.1 = 0 then some (0, q9.2) else ((F_X0_addWatcher 0 (q9.2.1 14 0 0 0) q9.2).bind (fun M12 => some (1, M12))))) ((B_X10_readWatcher_46 (nI u + (-1)) Mr4).bind B_X10_readText_91) := by
    intro Mc4 Mr4 a4 u c4 s4 g0 hu0 hu1 hle hold e56 Fc4 Fr4
    rw [s46 _ _ (by rw [e56, w3])]
    refine lk_end c4 (s4.u.u) Fc4 ((Fr4.trans OB.u).trans OB.u) ?_
    intro Mc5 Mr5 c5 s5 F5 y7 yo Fc5 Fr5
    have hFG : ∀ κ, κ ≠ 14 → κ ≠ 15 → Mc5.1 κ = Mc.1 κ := fun κ x y => by rw [F5.k1 (fun b => y), hold κ x y]
    have hC5 : KC Mc5 β L := hC.fr (fun κ hκ => by rw [hFG κ (by omega) (by omega)])
    have g5 : Mc5.1 14 0 0 0 = nI u + (-1) := by rw [F5.k1 (fun b => by omega), g0]
    have huW : u ≤ β 0 0 4 := by
      by_cases z : β 0 0 4 = 0
      · rw [hu0 z]; exact Nat.zero_le _
      · exact (hu1 (by omega)).2
    obtain ⟨M6, t1, t2, t3, t4, t5, t6⟩ := c_addWatcher hC5 hg cW huW
    obtain ⟨M7, hM7⟩ : ∃ M7, M7 = uIw M6 0 0 0 3 (M6.1 0 0 0 3 + 1) := ⟨_, rfl⟩
    have k7 : ∀ κ, κ ≠ 0 → M7.1 κ = M6.1 κ := fun κ x => by rw [hM7, uI_k x]
    have k6 : ∀ κ, κ ≠ 0 → κ ≠ 1 → κ ≠ 2 → M6.1 κ = Mc5.1 κ := fun κ x y z => t6.k1 (fun b => by omega)
    refine ⟨M6, waB β u, L, enP S f a4, ?_, ?_, ?_, by rw [waB_3]; exact ⟨Nat.succ_pos _, by have q1 := hc.a_lt hm; have q2 := en_le hf c4.1; omega⟩, Fc5.trans (t6.mono (fun κ b q => by omega))⟩
    · show (F_X0_addWatcher 0 (Mc5.1 14 0 0 0) Mc5).bind _ = _
      rw [g5, t1, Option.bind_some]
    · have ha := hc.a_lt hm
      have b1 := en_le hf c4.1
      omega
    rw [← hM7]
    have wo : ∀ j, j ≠ 3 → j ≠ 7 → j ≠ 8 + β 0 0 4 → Mr5.1 56 0 0 j = Mr.1 56 0 0 j := fun j j3 j7 j8 => by
      rw [yo j j7, uI1, if_neg (fun q => j3 q.2.2.2), uI1, if_neg (fun q => j8 q.2.2.2), e56]
    have n4 : ∀ κ i j, 2 < κ → waB β u κ i j = β κ i j := fun κ i j h => waB_n (Or.inl h)
    obtain ⟨⟨v0, v1, v2, v3, v4, v5, v6, v7⟩, vt, vn, vw, vi⟩ := hR.1
    have hT5 := hg.1.2.2.2.2.1
    refine ⟨c5.fr (by rw [k7 15 (by decide), k6 15 (by decide) (by decide) (by decide)]) (by rw [k7 16 (by decide), k6 16 (by decide) (by decide) (by decide)]), ?_, ?_, ⟨fun j hj => ?_, fun t ht j hj => ?_, fun t ht => ?_, fun t ht n hn => ?_, fun t ht n hn => ?_, fun w hw => ?_, fun i hi => ?_⟩, s5, ⟨⟨⟨?_, ?_, ?_, ?_, ?_, ?_, ?_, ?_⟩, fun t ht j hj => ?_, fun t ht n hn => ?_, fun w hw => ?_, fun i hi => ?_⟩, fun t ht => ?_⟩, hg.watch hl cW hu0 hu1⟩
    · rw [k7 13 (by decide), k6 13 (by decide) (by decide) (by decide), hFG 13 (by decide) (by decide)]; exact h132
    · rw [k7 13 (by decide), k6 13 (by decide) (by decide) (by decide), hFG 13 (by decide) (by decide)]; exact h133
    · rw [hM7, uI1]
      by_cases j3 : j = 3
      · rw [if_pos ⟨rfl, rfl, rfl, j3⟩, j3, waB_3, t3 3 (by decide), hC5.1 3 (by decide), nI_1]
      · rw [if_neg (fun q => j3 q.2.2.2)]
        by_cases j4 : j = 4
        · rw [j4, waB_4, t2]
        · rw [t3 j j4, hC5.1 j hj, waB_n (Or.inr ⟨rfl, j3, j4⟩)]
    · rw [k7 4 (by decide), k6 4 (by decide) (by decide) (by decide), n4 4 _ _ (by decide)]
      exact hC5.2.1 t (by rw [waB_n (by omega)] at ht; exact ht) j hj
    · rw [k7 4 (by decide), k6 4 (by decide) (by decide) (by decide), n4 4 _ _ (by decide)]
      exact hC5.2.2.1 t ht
    · rw [k7 8 (by decide), k6 8 (by decide) (by decide) (by decide), n4 8 _ _ (by decide)]
      exact hC5.2.2.2.1 t ht n hn
    · rw [n4 4 _ _ (by decide)] at hn
      rw [k7 6 (by decide), k6 6 (by decide) (by decide) (by decide), n4 6 _ _ (by decide)]
      exact hC5.2.2.2.2.1 t (by rw [waB_n (by omega)] at ht; exact ht) n hn
    · rw [waB_4] at hw
      rw [k7 1 (by decide), k7 2 (by decide), t4 w (by omega), t5 w (by omega), waB_1, waB_2 (by omega)]
      refine ⟨?_, rfl⟩
      by_cases z : w = β 0 0 4
      · rw [if_pos z, if_pos z]
      · rw [if_neg z, if_neg z]
        exact (hC5.2.2.2.2.2.1 w (by omega)).1
    · rw [k7 12 (by decide), k6 12 (by decide) (by decide) (by decide)]
      exact hC5.2.2.2.2.2.2 i hi
    · rw [wo 0 (by decide) (by decide) (by omega), waB_n (by omega)]; exact v0
    · rw [wo 1 (by decide) (by decide) (by omega), waB_n (by omega)]; exact v1
    · rw [wo 2 (by decide) (by decide) (by omega), waB_n (by omega)]; exact v2
    · rw [yo 3 (by decide), uI1, if_pos ⟨rfl, rfl, rfl, rfl⟩, waB_4]
    · rw [wo 4 (by decide) (by decide) (by omega), waB_n (by omega)]; exact v4
    · rw [wo 5 (by decide) (by decide) (by omega), waB_n (by omega)]; exact v5
    · rw [wo 6 (by decide) (by decide) (by omega), waB_n (by omega)]; exact v6
    · rw [y7, uI1, if_neg (fun q => absurd q.2.2.2 (by decide)), uI1, if_neg (fun q => by omega), e56, v7, waB_3, nI_1]
    · rw [waB_n (by omega)] at ht
      rw [wo _ (by omega) (by omega) (by omega), n4 4 _ _ (by decide)]
      exact vt t ht j hj
    · rw [waB_n (by omega)] at ht
      rw [n4 4 _ _ (by decide)] at hn
      have h6 := (hg.2.2.2.2.1 t ht).2.2.2.2.2.2.2.2
      rw [wo _ (by omega) (by omega) (by omega), wo _ (by omega) (by omega) (by omega), n4 6 _ _ (by decide)]
      obtain ⟨x1, s, x2, x3, x4⟩ := vn t ht n hn
      exact ⟨x1, s, x2, x3, fun k => by rw [n4 8 _ _ (by decide)]; exact x4 k⟩
    · rw [waB_4] at hw
      rw [waB_1]
      by_cases z : w = β 0 0 4
      · rw [if_pos z, yo _ (by omega), uI1, if_neg (fun q => by omega), uI1, if_pos ⟨rfl, rfl, rfl, by omega⟩]
      · rw [if_neg z, wo _ (by omega) (by omega) (by omega)]
        exact vw w (by omega)
    · show L[i]? = some (Mr5.1 56 0 0 (106 + 5 * i + 0), Mr5.1 56 0 0 (106 + 5 * i + 1), Mr5.1 56 0 0 (106 + 5 * i + 2), Mr5.1 56 0 0 (106 + 5 * i + 3), Mr5.1 56 0 0 (106 + 5 * i + 4))
      rw [wo (106 + 5 * i + 0) (by omega) (by omega) (by omega), wo (106 + 5 * i + 1) (by omega) (by omega) (by omega), wo (106 + 5 * i + 2) (by omega) (by omega) (by omega), wo (106 + 5 * i + 3) (by omega) (by omega) (by omega), wo (106 + 5 * i + 4) (by omega) (by omega) (by omega)]
      exact vi i hi
    · rw [wo _ (by omega) (by omega) (by omega), n4 4 _ _ (by decide)]
      exact hR.2 t ht
  have hbad : ∀ v : Int32, ∀ e pl M, RF M e pl → M.1 56 0 0 3 = nI (β 0 0 4) → ∃ M', (B_X10_readWatcher_46 v M).bind B_X10_readText_91 = some M' ∧ RF M' e pl ∧ OB M M' := by
    intro v e pl M h h3
    rw [s46 v M h3]
    obtain ⟨M', b1, b2, b3⟩ := bk_91 e pl (uIw (uIw M 56 0 0 (8 + β 0 0 4) v) 56 0 0 3 (nI (β 0 0 4 + 1))) ((h.fr (uI_k (by decide))).fr (uI_k (by decide)))
    exact ⟨M', b1, b2, (OB.u.trans OB.u).trans b3⟩
  by_cases c0 : β 0 0 4 = 0
  · rw [if_pos (show nI (β 0 0 4) = 0 by rw [c0]; rfl), if_pos (show nI (β 0 0 4) = 0 by rw [c0]; rfl)]
    unfold B_X1_readWatcher_67
    rcases c_word q2' (t := 12) (by decide) with ⟨c, Mc3, p1, p2, p3⟩ | ⟨c, Mc3, p1, p2, p3⟩
    · rcases r_expects r2 (t := 12) (by decide) with ⟨-, Mr3, m1, m2, m3⟩ | ⟨c2, -⟩
      · rw [p1, m1, Option.bind_some, Option.bind_some, if_neg (show ¬ (1 : Int32) = 0 by decide)]
        have en := (en_le hf q2.1).1
        exact kend Mc3 Mr3 _ 0 p2 m2 (by rw [p3.k1 (fun b => by omega), hMc2, uI1, if_pos ⟨rfl, rfl, rfl, rfl⟩]; decide) (fun _ => rfl) (fun q => by omega) en (fun κ x y => by rw [p3.k1 (fun b => y), hOld κ x y]) (by rw [m3.1.k1 (fun b => by omega), eR1]) (hFc2.trans (p3.mono (fun κ b q => by omega))) (r3.b.trans m3.b)
      · exact absurd c c2
    · rcases r_expects r2 (t := 12) (by decide) with ⟨c2, -⟩ | ⟨-, Mr3, m1, m2, m3⟩
      · exact absurd c2 c
      · rw [p1, m1, Option.bind_some, Option.bind_some, if_pos rfl]
        obtain ⟨M', b1, b2, b3⟩ := hbad (-1) _ _ Mr3 m2 (by rw [m3.1.k1 (fun b => by omega), w31])
        exact Or.inr ⟨_, _, Mc3, M', rfl, p2, b1, b2, hFc2.trans (p3.mono (fun κ b q => by omega)), (r3.b.trans m3.b).trans b3⟩
  · rw [if_neg (nI_ne0 (by omega) (by omega)), if_neg (nI_ne0 (by omega) (by omega)), Option.bind_assoc]
    unfold B_X1_readWatcher_67
    rcases c_pair q2' (t := 21) (lo := 0) (n := β 0 0 4) (slot := 0) (hi := nI (β 0 0 4) - 1) (by decide) (by omega) (by omega) (by omega) (nI_m _) with ⟨c, Mc3, p1, p2, p3, p4, p5⟩ | ⟨c, Mc3, p1, p2, p3⟩
    · rcases r_toldBy r2 (t := 21) (lo := 0) (n := β 0 0 4) (hi := nI (β 0 0 4) - 1) (by decide) (by omega) (by omega) (nI_m _) with ⟨-, Mr3, m1, m2, m3⟩ | ⟨c2, -⟩
      · obtain ⟨y1, y2⟩ := pR_0 c
        have p1' : F_X1_readPair 21 0 (nI (β 0 0 4) - 1) 0 Mc2 = some (1, Mc3) := p1
        have m1' : F_X10_toldBy 21 0 (nI (β 0 0 4) - 1) Mr1 = some (nI (vlP S f (enP S f (enP S f a))), Mr3) := m1
        rw [p1', m1', Option.bind_some, Option.bind_some, if_neg (show ¬ (1 : Int32) = 0 by decide), bd_eq]
        have en := (en_le hf q2.1).1
        have en2 := (en_le hf (en_le hf q2.1).2).1
        have := kend Mc3 Mr3 _ (vlP S f (enP S f (enP S f a)) + 1) p2 m2 (by rw [p3, pk_m1]) (fun z => by omega) (fun _ => ⟨by omega, by omega⟩) (by omega) (fun κ x y => by rw [p5.k1 (fun b => by omega), hOld κ x y]) (by rw [m3.1.k1 (fun b => by omega), eR1]) (hFc2.trans (p5.mono (fun κ b q => by omega))) (r3.b.trans m3.b)
        rw [pk_m1] at this
        exact this
      · exact absurd c c2
    · rcases r_toldBy r2 (t := 21) (lo := 0) (n := β 0 0 4) (hi := nI (β 0 0 4) - 1) (by decide) (by omega) (by omega) (nI_m _) with ⟨c2, -⟩ | ⟨-, Mr3, m1, m2, m3⟩
      · exact absurd c2 c
      · have p1' : F_X1_readPair 21 0 (nI (β 0 0 4) - 1) 0 Mc2 = some (0, Mc3) := p1
        have m1' : F_X10_toldBy 21 0 (nI (β 0 0 4) - 1) Mr1 = some (0, Mr3) := m1
        rw [p1', m1', Option.bind_some, Option.bind_some, if_pos rfl, bd_eq]
        obtain ⟨M', b1, b2, b3⟩ := hbad 0 _ _ Mr3 m2 (by rw [m3.1.k1 (fun b => by omega), w31])
        exact Or.inr ⟨_, _, Mc3, M', rfl, p2, b1, b2, hFc2.trans (p3.mono (fun κ b q => by omega)), (r3.b.trans m3.b).trans b3⟩
