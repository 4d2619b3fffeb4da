/-! THE LINE OF THE BOARD ITSELF -/
theorem r_boardEq (M : Mw) : (F_X10_readBoard M).bind B_X10_readText_91 = (F_X10_expects 1 M).bind (tS 19 20 200 0 (tS 3 5 50 1 (tS 7 0 9 2 B_X10_readText_91))) := by
  unfold F_X10_readBoard tS
  simp only [Option.bind_assoc, bd_eq, Option.bind_some]
theorem lk_word {S a0 a t : Nat} {f : Nat → Nat} {Mc0 Mr0 Mc Mr : Mw} {kc : Int32 × Mw → Option (Int32 × Mw)} {kr : Mw → Option Mw} (ht : t < 24) (hc : CS Mc S f a) (hr : RS Mr S f a) (hFc : Fr SC Mc0 Mc) (hFr : OB Mr0 Mr) (bad : BK kr)
    (good : ∀ Mc' Mr', CS Mc' S f (enP S f a) → RS Mr' S f (enP S f a) → Fr FT15 Mc Mc' → O5 Mr Mr' → Fr SC Mc0 Mc' → OB Mr0 Mr' → LnO S f Mc0 Mr0 a0 (kc (1, Mc')) (kr Mr')) :
    LnO S f Mc0 Mr0 a0 ((F_X1_readWord t Mc).bind (fun q => if q.1 = 0 then some (0, q.2) else kc q)) ((F_X10_expects t Mr).bind kr) := by
  rcases c_word hc ht with ⟨c, Mc', q1, q2, q3⟩ | ⟨c, Mc', q1, q2, q3⟩
  · rcases r_expects hr ht with ⟨-, Mr', r1, r2, r3⟩ | ⟨c2, -⟩
    · rw [q1, r1, Option.bind_some, Option.bind_some, if_neg (show ¬ (1 : Int32) = 0 by decide)]
      exact good Mc' Mr' q2 r2 q3 r3 (hFc.trans (q3.mono (fun κ b q => by omega))) (hFr.trans r3.b)
    · exact absurd c c2
  · rcases r_expects hr ht with ⟨c2, -⟩ | ⟨-, Mr', r1, r2, r3⟩
    · exact absurd c2 c
    · right
      obtain ⟨M', b1, b2, b3⟩ := bad _ _ _ r2
      rw [q1, r1, Option.bind_some, Option.bind_some, if_pos rfl]
      exact ⟨_, _, Mc', M', rfl, q2, b1, b2, hFc.trans (q3.mono (fun κ b q => by omega)), (hFr.trans r3.b).trans b3⟩
theorem GBp.board {β : Bw} {L : Lw} (h : GBp β L) (hl : β 0 0 3 = 0) {H Y N : Nat} (h1 : 20 ≤ H) (h2 : H < 201) (h3 : 5 ≤ Y) (h4 : Y < 51) (h5 : N < 10) : GBp (bdB β H Y N) L := by
  obtain ⟨⟨a0, a1, a2, a3, a4, a5, a6, a7⟩, b, c, d, e, e2, g, i, j, k, l⟩ := h
  obtain ⟨z0, z1, z2, z4, z5, zL⟩ := c hl
  have n4 : ∀ i j, bdB β H Y N 4 i j = β 4 i j := fun i j => bdB_n (by omega)
  have x0 : bdB β H Y N 0 0 0 = H := rfl
  have x1 : bdB β H Y N 0 0 1 = Y := rfl
  have x2 : bdB β H Y N 0 0 2 = N := rfl
  have x3 : bdB β H Y N 0 0 3 = 1 := rfl
  have x4 : bdB β H Y N 0 0 4 = β 0 0 4 := rfl
  have x5 : bdB β H Y N 0 0 5 = β 0 0 5 := rfl
  have x6 : bdB β H Y N 0 0 6 = β 0 0 6 := rfl
  have x7 : bdB β H Y N 0 0 7 = β 0 0 7 := rfl
  unfold GBp
  rw [x0, x1, x2, x3, x4, x5, x6, x7]
  refine ⟨⟨by omega, by omega, by omega, a3, a4, a5, a6, a7⟩, fun _ => ⟨h1, h3⟩, fun q => absurd q (by decide), d, fun t ht => by omega, fun t ht => ?_, fun t n ht => by omega, fun t n k hk => ?_, ⟨?_, fun w hw hw2 => by omega⟩, fun w hw => by omega, ?_⟩
  · rw [n4]; exact e2 t ht
  · rw [n4]
    exact i t n k hk
  · exact j.1
  · rw [zL]
    intro r hr
    exact absurd hr List.not_mem_nil
theorem ln_board {S a : Nat} {f : Nat → Nat} {Mc Mr : Mw} {β : Bw} {L : Lw} (hk : Lk S f Mc Mr β L a) (hl : β 0 0 3 = 0) (hm : mtP S f a 1 = true) : LnO S f Mc Mr a (F_X1_readBoard Mc) ((F_X10_readBoard Mr).bind B_X10_readText_91) := by
  obtain ⟨hc, h132, h133, hC, hr, hR, hg⟩ := hk
  have hf := hc.2.1.2.1
  obtain ⟨Mc1, q1, q2, q3⟩ := hc.adv
  rcases r_expects hr (t := 1) (by decide) with ⟨-, Mr1, r1, r2, r3⟩ | ⟨c2, -⟩
  case inr => exact absurd hm c2
  rw [r_boardEq, r1, Option.bind_some]
  unfold F_X1_readBoard
  rw [q1, Option.bind_some]
  have eR1 : Mr1.1 56 = Mr.1 56 := r3.1.k1 (fun b => by omega)
  refine lk_pair (t := 19) (lo := 20) (n := 201) (slot := 0) (i := 0) (by decide) (by omega) (by omega) (by omega) (by decide) q2 r2 (q3.mono (fun κ b q => by omega)) r3.b (bk_tS (by decide) (bk_tS (by decide) bk_91)) ?_
  intro Mc2 Mr2 p1 p2 c2 s2 g2 go2 x2 xo2 F2 Fc2 Fr2
  refine lk_pair (t := 3) (lo := 5) (n := 51) (slot := 1) (i := 1) (by decide) (by omega) (by omega) (by omega) (by decide) c2 s2 Fc2 Fr2 (bk_tS (by decide) bk_91) ?_
  intro Mc3 Mr3 p3 p4 c3 s3 g3 go3 x3 xo3 F3 Fc3 Fr3
  refine lk_pair (t := 7) (lo := 0) (n := 10) (slot := 2) (i := 2) (by decide) (by omega) (by omega) (by omega) (by decide) c3 s3 Fc3 Fr3 bk_91 ?_
  intro Mc4 Mr4 p5 p6 c4 s4 g4 go4 x4 xo4 F4 Fc4 Fr4
  refine lk_end c4 s4 Fc4 Fr4 ?_
  intro Mc5 Mr5 c5 s5 F5 y7 yo Fc5 Fr5
  have e14 : Mc5.1 14 = Mc4.1 14 := F5.k1 (fun b => by omega)
  have v0 : Mc5.1 14 0 0 0 = nI (vlP S f (enP S f (enP S f a))) := by rw [e14, go4 0 (by decide), go3 0 (by decide), g2]
  have v1 : Mc5.1 14 0 0 1 = nI (vlP S f (enP S f (enP S f (enP S f (enP S f a))))) := by rw [e14, go4 1 (by decide), g3]
  have v2 : Mc5.1 14 0 0 2 = nI (vlP S f (enP S f (enP S f (enP S f (enP S f (enP S f (enP S f a))))))) := by rw [e14, g4]
  have w0 : Mr5.1 56 0 0 0 = nI (vlP S f (enP S f (enP S f a))) := by rw [yo 0 (by decide), xo4 0 (by decide), xo3 0 (by decide), x2]
  have w1 : Mr5.1 56 0 0 1 = nI (vlP S f (enP S f (enP S f (enP S f (enP S f a))))) := by rw [yo 1 (by decide), xo4 1 (by decide), x3]
  have w2 : Mr5.1 56 0 0 2 = nI (vlP S f (enP S f (enP S f (enP S f (enP S f (enP S f (enP S f a))))))) := by rw [yo 2 (by decide), x4]
  have wo : ∀ j, 2 < j → j ≠ 7 → Mr5.1 56 0 0 j = Mr.1 56 0 0 j := fun j h2 h7 => by rw [yo j h7, xo4 j (by omega), xo3 j (by omega), xo2 j (by omega), eR1]
  generalize vlP S f (enP S f (enP S f a)) = H at p1 p2 v0 w0
  generalize vlP S f (enP S f (enP S f (enP S f (enP S f a)))) = Y at p3 p4 v1 w1
  generalize vlP S f (enP S f (enP S f (enP S f (enP S f (enP S f (enP S f a)))))) = N at p5 p6 v2 w2
  have hFG : ∀ κ, κ ≠ 14 → κ ≠ 15 → Mc5.1 κ = Mc.1 κ := fun κ h4 h5 => by
    rw [F5.k1 (fun b => h5), F4.k1 (fun b => by omega), F3.k1 (fun b => by omega), F2.k1 (fun b => by omega), q3.k1 (fun b => h5)]
  obtain ⟨M17, hM17⟩ : ∃ M17, M17 = uIw (uIw (uIw Mc5 0 0 0 0 (nI H)) 0 0 0 1 (nI Y)) 0 0 0 2 (nI N) := ⟨_, rfl⟩
  have ekc : (bd (uIw Mc5 0 0 0 0 (Mc5.1 14 0 0 0)) (fun M15 => (bd (uIw M15 0 0 0 1 (M15.1 14 0 0 1)) (fun M16 => (bd (uIw M16 0 0 0 2 (M16.1 14 0 0 2)) (fun M17 => some ((1 : Int32), M17))))))) = some (1, M17) := by
    rw [bd_eq, v0, bd_eq, uI_k (κ' := 14) (by decide), v1, bd_eq, uI_k (κ' := 14) (by decide), uI_k (κ' := 14) (by decide), v2, ← hM17]
  obtain ⟨z0, z1, z2, z4, z5, zL⟩ := hg.2.2.1 hl
  have e03 : M17.1 0 0 0 3 = nI 0 := by
    rw [hM17, uI1, if_neg (fun q => absurd q.2.2.2 (by decide)), uI1, if_neg (fun q => absurd q.2.2.2 (by decide)), uI1, if_neg (fun q => absurd q.2.2.2 (by decide)), hFG 0 (by decide) (by decide), hC.1 3 (by decide), hl]
  obtain ⟨M18, hM18⟩ : ∃ M18, M18 = uIw M17 0 0 0 3 (M17.1 0 0 0 3 + 1) := ⟨_, rfl⟩
  have k18 : ∀ κ, κ ≠ 0 → M18.1 κ = Mc5.1 κ := fun κ h => by rw [hM18, hM17, uI_k h, uI_k h, uI_k h, uI_k h]
  have c18 : CS M18 S f (enP S f (enP S f (enP S f (enP S f (enP S f (enP S f (enP S f (enP S f a)))))))) := c5.fr (k18 15 (by decide)) (k18 16 (by decide))
  have hFs : Fr SC Mc M17 := by
    rw [hM17]
    exact ((Fc5.trans (Fr.uI (S := SC) (Or.inr (Or.inr (Or.inr ⟨by decide, rfl⟩))))).trans (Fr.uI (S := SC) (Or.inr (Or.inr (Or.inr ⟨by decide, rfl⟩))))).trans (Fr.uI (S := SC) (Or.inr (Or.inr (Or.inr ⟨by decide, rfl⟩))))
  have hlt : a < enP S f (enP S f (enP S f (enP S f (enP S f (enP S f (enP S f (enP S f a))))))) := by
    have ha := hc.a_lt (fun q => by
      unfold mtP at hm
      rw [q] at hm
      cases hm)
    have b1 := en_le hf q2.1
    have b2 := en_le hf b1.2
    have b3 := en_le hf b2.2
    have b4 := en_le hf b3.2
    have b5 := en_le hf b4.2
    have b6 := en_le hf b5.2
    have b7 := en_le hf b6.2
    omega
  refine ⟨M17, bdB β H Y N, L, enP S f (enP S f (enP S f (enP S f (enP S f (enP S f (enP S f (enP S f a))))))), ekc, hlt, ?_, ⟨show 0 < 1 from Nat.one_pos, show 1 ≤ _ from by omega⟩, hFs⟩
  · rw [← hM18]
    have n4 : ∀ κ i j, κ ≠ 0 → bdB β H Y N κ i j = β κ i j := fun κ i j h => bdB_n (Or.inl h)
    refine ⟨c18, ?_, ?_, ⟨fun j hj => ?_, fun t ht => ?_, fun t ht => ?_, fun t ht n hn => ?_, fun t ht => ?_, fun w hw => ?_, fun i hi => ?_⟩, s5, ⟨⟨⟨w0, w1, w2, ?_, ?_, ?_, ?_, ?_⟩, fun t ht => ?_, fun t ht => ?_, fun w hw => ?_, fun i hi => ?_⟩, fun t ht => ?_⟩, hg.board hl p1 p2 p3 p4 p6⟩
    · rw [k18 13 (by decide), hFG 13 (by decide) (by decide)]; exact h132
    · rw [k18 13 (by decide), hFG 13 (by decide) (by decide)]; exact h133
    · rw [hM18, uI1]
      by_cases j3 : j = 3
      · rw [if_pos ⟨rfl, rfl, rfl, j3⟩, e03, j3]
        rfl
      · rw [if_neg (fun q => j3 q.2.2.2), hM17, uI1]
        by_cases j2 : j = 2
        · rw [if_pos ⟨rfl, rfl, rfl, j2⟩, j2]
          rfl
        · rw [if_neg (fun q => j2 q.2.2.2), uI1]
          by_cases j1 : j = 1
          · rw [if_pos ⟨rfl, rfl, rfl, j1⟩, j1]
            rfl
          · rw [if_neg (fun q => j1 q.2.2.2), uI1]
            by_cases j0 : j = 0
            · rw [if_pos ⟨rfl, rfl, rfl, j0⟩, j0]
              rfl
            · rw [if_neg (fun q => j0 q.2.2.2), hFG 0 (by decide) (by decide), hC.1 j hj, bdB_n (by omega)]
    · have ht' : t < β 0 0 5 := ht
      omega
    · rw [k18 4 (by decide), hFG 4 (by decide) (by decide), n4 4 _ _ (by decide)]
      exact hC.2.2.1 t ht
    · rw [k18 8 (by decide), hFG 8 (by decide) (by decide), n4 8 _ _ (by decide)]
      exact hC.2.2.2.1 t ht n hn
    · have ht' : t < β 0 0 5 := ht
      omega
    · have hw' : w < β 0 0 4 := hw
      omega
    · rw [zL] at hi
      exact absurd hi (Nat.not_lt_zero _)
    · rw [wo 3 (by decide) (by decide)]; exact hR.1.1.2.2.2.1
    · rw [wo 4 (by decide) (by decide)]; exact hR.1.1.2.2.2.2.1
    · rw [wo 5 (by decide) (by decide)]; exact hR.1.1.2.2.2.2.2.1
    · rw [wo 6 (by decide) (by decide)]; exact hR.1.1.2.2.2.2.2.2.1
    · rw [y7, xo4 7 (by decide), xo3 7 (by decide), xo2 7 (by decide), eR1, hR.1.1.2.2.2.2.2.2.2, hl]
      rfl
    · have ht' : t < β 0 0 5 := ht
      omega
    · have ht' : t < β 0 0 5 := ht
      omega
    · have hw' : w < β 0 0 4 := hw
      omega
    · rw [zL] at hi
      exact absurd hi (Nat.not_lt_zero _)
    · rw [wo _ (by omega) (by omega), n4 4 _ _ (by decide)]
      exact hR.2 t ht
