/-! an injection, both sides -/
theorem J3_at {x i : Nat} {p : Int32} {M : Mw} : (J3 x p M).1 56 0 0 i = if i = x + 4 then -1 else if i = x + 3 then -1 else if i = x then p else M.1 56 0 0 i := by
  unfold J3
  rw [uI1]
  by_cases a : i = x + 4
  · rw [if_pos ⟨rfl, rfl, rfl, a⟩, if_pos a]
  · rw [if_neg (fun q => a q.2.2.2), if_neg a, uI1]
    by_cases b : i = x + 3
    · rw [if_pos ⟨rfl, rfl, rfl, b⟩, if_pos b]
    · rw [if_neg (fun q => b q.2.2.2), if_neg b, uI1]
      by_cases c : i = x
      · rw [if_pos ⟨rfl, rfl, rfl, c⟩, if_pos c]
      · rw [if_neg (fun q => c q.2.2.2), if_neg c]
theorem RS.j3 {M : Mw} {S a x : Nat} {f : Nat → Nat} {p : Int32} (h : RS M S f a) : RS (J3 x p M) S f a := h.u.u.u
theorem OB.j3 {M : Mw} {x : Nat} {p : Int32} : OB M (J3 x p M) := (OB.u.trans OB.u).trans OB.u
theorem ln_inj {S a kd : Nat} {f : Nat → Nat} {Mc Mr : Mw} {β : Bw} {L : Lw} (hk : Lk S f Mc Mr β L a) (hl : 0 < β 0 0 3) (hla : β 0 0 3 ≤ a) (hm : kdP S f a ≠ 4) (hkd : kd ≤ 5) : LnO S f Mc Mr a (F_X1_readInjection (nI kd) Mc) ((F_X10_readInjection (nI kd) Mr).bind B_X10_readText_91) := by
  obtain ⟨hc, h132, h133, hC, hr, hR, hg⟩ := hk
  have hf := hc.2.1.2.1
  have hT5 := hg.1.2.2.2.2.1
  have hW3 := hg.1.2.2.2.1
  have hL8 := hg.1.2.2.2.2.2.1
  have hL6 := hg.1.2.2.2.2.2.2.1
  have e6 : Mc.1 0 0 0 6 = nI L.length := by rw [hC.1 6 (by decide), hL6]
  have w5 : Mr.1 56 0 0 5 = nI L.length := by rw [hR.1.1.2.2.2.2.2.1, hL6]
  have w3 : Mr.1 56 0 0 3 = nI (β 0 0 4) := hR.1.1.2.2.2.1
  have w4 : Mr.1 56 0 0 4 = nI (β 0 0 5) := hR.1.1.2.2.2.2.1
  have hcan := r_can (idx := 5) (most := nI 8) hr (by decide)
  have n5 : nI kd = 5 ↔ kd = 5 := nI_eq (b := 5) (by omega) (by omega)
  have n4 : nI kd = 4 ↔ kd = 4 := nI_eq (b := 4) (by omega) (by omega)
  by_cases c8 : L.length < 8
  case neg =>
    have e8 : L.length = 8 := by omega
    rcases hcan with ⟨c, M', r1, r2, r3⟩ | ⟨c, -⟩
    · have r1' : F_X10_canTake 5 8 Mr = some (0, M') := r1
      obtain ⟨Mc', q1, q2, q3⟩ := c_flaw (e := 3) hc
      have q1' : (F_X1_fail 3 Mc).bind (fun q => if bz q.1 then some (q.1, q.2) else none) = some (0, Mc') := q1
      obtain ⟨M2, b1, b2, b3⟩ := bk_91 _ _ _ r2
      unfold F_X1_readInjection F_X10_readInjection
      rw [if_neg (nI_nm1 (by omega)), e6, if_neg (show ¬ nI L.length < 8 from nI_nlt (b := 8) (by omega) (by omega)), q1', r1', Option.bind_some, if_pos rfl]
      exact Or.inr ⟨3, _, Mc', M2, rfl, q2, b1, b2, q3.mono (fun κ b q => by omega), r3.b.trans b3⟩
    · exact absurd (by rw [w5, e8]) c
  rcases hcan with ⟨c, -⟩ | ⟨-, Mr1, r1, r2, r3⟩
  · rw [w5] at c
    have := (nI_eq (by omega) (by omega)).mp c
    omega
  have r1' : F_X10_canTake 5 8 Mr = some (1, Mr1) := r1
  have eR1 : Mr1.1 56 = Mr.1 56 := r3.1.k1 (fun b => by omega)
  obtain ⟨Mc1, q1, q2, q3⟩ := hc.adv
  rw [r_injEq (T := L.length) (W := β 0 0 4) r1' (by rw [eR1, w5]) (by rw [eR1, w3]) c8]
  unfold F_X1_readInjection
  rw [if_neg (nI_nm1 (by omega)), e6, if_pos (show nI L.length < 8 from nI_lt (b := 8) c8 (by omega)), q1, Option.bind_some]
  have hF1 : Fr SC Mc Mc1 := q3.mono (fun κ b q => by omega)
  have hC1 : KC Mc1 β L := hC.fr (fun κ hκ => by rw [q3.k1 (fun b => by omega)])
  have ha := hc.a_lt hm
  have hx : 106 + 5 * L.length ≤ 141 := by omega
  obtain ⟨x, hxd⟩ : ∃ x, x = 106 + 5 * L.length := ⟨_, rfl⟩
  rw [← hxd]
  have s9 : RS (J3 x (nI kd) Mr1) S f (enP S f a) := r2.j3
  have O9 : OB Mr (J3 x (nI kd) Mr1) := r3.b.trans OB.j3
  have old9 : ∀ i, i ≠ x → i ≠ x + 3 → i ≠ x + 4 → (J3 x (nI kd) Mr1).1 56 0 0 i = Mr.1 56 0 0 i := fun i h1 h2 h3 => by
    rw [J3_at, if_neg h3, if_neg h2, if_neg h1, eR1]
  -- the line's end, good
  have kend : ∀ (Mc4 Mr4 : Mw) (a4 : Nat) (g0 g1 g2 g3 : Int32), CS Mc4 S f a4 → RS Mr4 S f a4 → Mc4.1 14 0 0 0 = g0 → Mc4.1 14 0 0 1 = g1 → Mc4.1 14 0 0 2 = g2 → Mc4.1 14 0 0 3 = g3 → enP S f a ≤ a4 → (∀ κ, κ ≠ 14 → κ ≠ 15 → Mc4.1 κ = Mc.1 κ) → Fr SC Mc Mc4 → OB Mr Mr4 → GRow β (row4 (nI kd) g0 g1 g2 g3) → row5 (fun p => Mr4.1 56 0 0 (x + p)) = row4 (nI kd) g0 g1 g2 g3 → (∀ i, i < x ∨ x + 4 < i → Mr4.1 56 0 0 i = Mr.1 56 0 0 i) →
      LnO S f Mc Mr a (B_X1_readInjection_145 (nI kd) Mc4) (KE Mr4) := by
    intro Mc4 Mr4 a4 g0 g1 g2 g3 c4 s4 y0 y1 y2 y3 hle hold Fc4 Fr4 hrow erow hkeep
    unfold B_X1_readInjection_145 KE
    refine lk_end c4 s4.u Fc4 (Fr4.trans OB.u) ?_
    intro Mc5 Mr5 c5 s5 F5 y7 yo Fc5 Fr5
    have hFG : ∀ κ, κ ≠ 14 → κ ≠ 15 → Mc5.1 κ = Mc.1 κ := fun κ p q => by rw [F5.k1 (fun b => q), hold κ p q]
    have h14 : Mc5.1 14 = Mc4.1 14 := F5.k1 (fun b => by omega)
    have e65 : Mc5.1 0 0 0 6 = nI L.length := by rw [hFG 0 (by decide) (by decide), e6]
    obtain ⟨M6, t1, t2, t3, t4⟩ := c_setInj (b := 0) (i := L.length) (M := Mc5) (by omega) (nI kd) g0 g1 g2 g3
    have e66 : M6.1 0 0 0 6 = nI L.length := by rw [t4.k1 (fun b => by omega), e65]
    obtain ⟨M7, hM7⟩ : ∃ M7, M7 = uIw M6 0 0 0 6 (nI (L.length + 1)) := ⟨_, rfl⟩
    obtain ⟨M8, hM8⟩ : ∃ M8, M8 = uIw M7 0 0 0 3 (M7.1 0 0 0 3 + 1) := ⟨_, rfl⟩
    have k8 : ∀ κ, κ ≠ 0 → M8.1 κ = M6.1 κ := fun κ p => by rw [hM8, uI_k p, hM7, uI_k p]
    have k6 : ∀ κ, κ ≠ 12 → M6.1 κ = Mc5.1 κ := fun κ p => t4.k1 (fun b => by omega)
    have hlen : (L ++ [row4 (nI kd) g0 g1 g2 g3]).length = L.length + 1 := by
      rw [List.length_append]
      rfl
    have wo : ∀ i, i ≠ 5 → i ≠ 7 → (i < x ∨ x + 4 < i) → Mr5.1 56 0 0 i = Mr.1 56 0 0 i := fun i i5 i7 h => by
      rw [yo i i7, uI1, if_neg (fun q => i5 q.2.2.2), hkeep i h]
    have wr : ∀ p, p < 5 → Mr5.1 56 0 0 (x + p) = Mr4.1 56 0 0 (x + p) := fun p hp => by
      rw [yo _ (by omega), uI1, if_neg (fun q => by omega)]
    obtain ⟨⟨v0, v1, v2, v3, v4, v5, v6, v7⟩, vt, vn, vw, vi⟩ := hR.1
    have nb : ∀ κ i j, κ ≠ 0 → inB β κ i j = β κ i j := fun κ i j h => inB_n (Or.inl h)
    refine (fun (h : Lk S f M8 Mr5 (inB β) (L ++ [row4 (nI kd) g0 g1 g2 g3]) _) => ⟨M7, inB β, L ++ [row4 (nI kd) g0 g1 g2 g3], _, ?_, ?_, by rw [← hM8]; exact h, by rw [inB_3]; exact ⟨Nat.succ_pos _, by have q2 := en_le hf c4.1; omega⟩, ?_⟩) ⟨c5.fr (by rw [k8 15 (by decide), k6 15 (by decide)]) (by rw [k8 16 (by decide), k6 16 (by decide)]), ?_, ?_, ⟨fun j hj => ?_, fun t ht j hj => ?_, fun t ht => ?_, fun t ht n hn => ?_, fun t ht n hn => ?_, fun w hw => ?_, fun i hi => ?_⟩, s5, ⟨⟨⟨?_, ?_, ?_, ?_, ?_, ?_, ?_, ?_⟩, fun t ht j hj => ?_, fun t ht n hn => ?_, fun w hw => ?_, fun i hi => ?_⟩, fun t ht => ?_⟩, hg.inj hl c8 hrow⟩
    · rw [k8 13 (by decide), k6 13 (by decide), hFG 13 (by decide) (by decide)]; exact h132
    · rw [k8 13 (by decide), k6 13 (by decide), hFG 13 (by decide) (by decide)]; exact h133
    · rw [hM8, uI1]
      by_cases j3 : j = 3
      · rw [if_pos ⟨rfl, rfl, rfl, j3⟩, j3, inB_3, hM7, uI1, if_neg (fun q => absurd q.2.2.2 (by decide)), k6 0 (by decide), hFG 0 (by decide) (by decide), hC.1 3 (by decide), nI_1]
      · rw [if_neg (fun q => j3 q.2.2.2), hM7, uI1]
        by_cases j6 : j = 6
        · rw [if_pos ⟨rfl, rfl, rfl, j6⟩, j6, inB_6, hL6]
        · rw [if_neg (fun q => j6 q.2.2.2), k6 0 (by decide), hFG 0 (by decide) (by decide), hC.1 j hj, inB_n (Or.inr ⟨j6, j3⟩)]
    · rw [inB_n (by omega)] at ht
      rw [k8 4 (by decide), k6 4 (by decide), hFG 4 (by decide) (by decide), nb 4 _ _ (by decide)]
      exact hC.2.1 t ht j hj
    · rw [k8 4 (by decide), k6 4 (by decide), hFG 4 (by decide) (by decide), nb 4 _ _ (by decide)]
      exact hC.2.2.1 t ht
    · rw [k8 8 (by decide), k6 8 (by decide), hFG 8 (by decide) (by decide), nb 8 _ _ (by decide)]
      exact hC.2.2.2.1 t ht n hn
    · rw [inB_n (by omega)] at ht
      rw [nb 4 _ _ (by decide)] at hn
      rw [k8 6 (by decide), k6 6 (by decide), hFG 6 (by decide) (by decide), nb 6 _ _ (by decide)]
      exact hC.2.2.2.2.1 t ht n hn
    · rw [inB_n (by omega)] at hw
      rw [k8 1 (by decide), k8 2 (by decide), k6 1 (by decide), k6 2 (by decide), hFG 1 (by decide) (by decide), hFG 2 (by decide) (by decide), nb 1 _ _ (by decide), nb 2 _ _ (by decide)]
      exact hC.2.2.2.2.2.1 w hw
    · rw [hlen] at hi
      rw [k8 12 (by decide)]
      by_cases z : i < L.length
      · rw [List.getElem?_append_left z, t3 i (by omega), hFG 12 (by decide) (by decide)]
        exact hC.2.2.2.2.2.2 i z
      · obtain rfl : i = L.length := by omega
        rw [t2, List.getElem?_append_right (Nat.le_refl _), Nat.sub_self]
        rfl
    · rw [wo 0 (by decide) (by decide) (by omega), inB_n (by omega)]; exact v0
    · rw [wo 1 (by decide) (by decide) (by omega), inB_n (by omega)]; exact v1
    · rw [wo 2 (by decide) (by decide) (by omega), inB_n (by omega)]; exact v2
    · rw [wo 3 (by decide) (by decide) (by omega), inB_n (by omega)]; exact v3
    · rw [wo 4 (by decide) (by decide) (by omega), inB_n (by omega)]; exact v4
    · rw [yo 5 (by decide), uI1, if_pos ⟨rfl, rfl, rfl, rfl⟩, hkeep 5 (by omega), w5, inB_6, hL6, nI_1]
    · rw [wo 6 (by decide) (by decide) (by omega), inB_n (by omega)]; exact v6
    · rw [y7, uI1, if_neg (fun q => absurd q.2.2.2 (by decide)), hkeep 7 (by omega), v7, inB_3, nI_1]
    · rw [inB_n (by omega)] at ht
      rw [wo _ (by omega) (by omega) (by omega), nb 4 _ _ (by decide)]
      exact vt t ht j hj
    · rw [inB_n (by omega)] at ht
      rw [nb 4 _ _ (by decide)] at hn
      have h6 := (hg.2.2.2.2.1 t ht).2.2.2.2.2.2.2.2
      rw [wo _ (by omega) (by omega) (by omega), wo _ (by omega) (by omega) (by omega), nb 6 _ _ (by decide)]
      obtain ⟨z1, s, z2, z3, z4⟩ := vn t ht n hn
      exact ⟨z1, s, z2, z3, fun k => by rw [nb 8 _ _ (by decide)]; exact z4 k⟩
    · rw [inB_n (by omega)] at hw
      rw [wo _ (by omega) (by omega) (by omega), nb 1 _ _ (by decide)]
      exact vw w hw
    · rw [hlen] at hi
      show (L ++ [row4 (nI kd) g0 g1 g2 g3])[i]? = some (Mr5.1 56 0 0 (106 + 5 * i + 0), Mr5.1 56 0 0 (106 + 5 * i + 1), Mr5.1 56 0 0 (106 + 5 * i + 2), Mr5.1 56 0 0 (106 + 5 * i + 3), Mr5.1 56 0 0 (106 + 5 * i + 4))
      by_cases z : i < L.length
      · rw [List.getElem?_append_left z, wo (106 + 5 * i + 0) (by omega) (by omega) (by omega), wo (106 + 5 * i + 1) (by omega) (by omega) (by omega), wo (106 + 5 * i + 2) (by omega) (by omega) (by omega), wo (106 + 5 * i + 3) (by omega) (by omega) (by omega), wo (106 + 5 * i + 4) (by omega) (by omega) (by omega)]
        exact vi i z
      · obtain rfl : i = L.length := by omega
        rw [← hxd, wr 0 (by omega), wr 1 (by omega), wr 2 (by omega), wr 3 (by omega), wr 4 (by omega), List.getElem?_append_right (Nat.le_refl _), Nat.sub_self]
        exact congrArg some erow.symm
    · rw [wo _ (by omega) (by omega) (by omega), nb 4 _ _ (by decide)]
      exact hR.2 t ht
    · show ((F_X0_setInjection 0 (Mc5.1 0 0 0 6) (nI kd) (Mc5.1 14 0 0 0) (Mc5.1 14 0 0 1) (Mc5.1 14 0 0 2) (Mc5.1 14 0 0 3) Mc5).bind (fun M19 => (bd (uIw M19 0 0 0 6 ((M19.1 0 0 0 6) + 1)) (fun M21 => some ((1 : Int32), M21))))) = _
      rw [e65, h14, y0, y1, y2, y3, t1, Option.bind_some, e66, bd_eq, nI_1, ← hM7]
    · have b1 := en_le hf c4.1
      omega
    · rw [hM7]
      exact (Fc5.trans (t4.mono (fun κ b q => by omega))).trans (Fr.uI (S := SC) (Or.inr (Or.inr (Or.inr ⟨by decide, rfl⟩))))
  have en1 := en_le hf q2.1
  by_cases c5 : kd = 5
  · -- a sleep
    rw [if_pos (n5.mpr c5), if_pos (n5.mpr c5)]
    have e4 : Mc1.1 0 0 0 4 = nI (β 0 0 4) := hC1.1 4 (by decide)
    rw [e4]
    rcases c_num q2 (lo := 0) (n := β 0 0 4) (slot := 0) (hi := nI (β 0 0 4) - 1) (by omega) (by omega) (by omega) (nI_m _) with ⟨c, Mc2, p1, p2, p3, p4, p5⟩ | ⟨c, Mc2, p1, p2, p3⟩
    case inr =>
      rcases r_takes s9 (lo := 0) (n := β 0 0 4) (hi := nI (β 0 0 4) - 1) (by omega) (by omega) (nI_m _) with ⟨c2, -⟩ | ⟨-, Mr2, m1, m2, m3⟩
      · exact absurd c2 c
      have p1' : F_X1_readNumber 0 (nI (β 0 0 4) - 1) 0 Mc1 = some (0, Mc2) := p1
      have m1' : F_X10_takes 0 (nI (β 0 0 4) - 1) (J3 x (nI kd) Mr1) = some (0, Mr2) := m1
      rw [p1', m1', Option.bind_some, Option.bind_some, if_pos rfl]
      obtain ⟨M', b1, b2, b3⟩ := bk_tS (t := 18) (x := 0) (y := 199) (i := x + 2) (by decide) bk_KE _ _ _ (m2.fr (M' := uIw Mr2 56 0 0 (x + 1) 0) (uI_k (by decide)))
      exact Or.inr ⟨_, _, Mc2, M', rfl, p2, b1, b2, hF1.trans (p3.mono (fun κ b q => by omega)), ((O9.trans m3.b).trans OB.u).trans b3⟩
    rcases r_takes s9 (lo := 0) (n := β 0 0 4) (hi := nI (β 0 0 4) - 1) (by omega) (by omega) (nI_m _) with ⟨-, Mr2, m1, m2, m3⟩ | ⟨c2, -⟩
    case inr => exact absurd c c2
    have p1' : F_X1_readNumber 0 (nI (β 0 0 4) - 1) 0 Mc1 = some (1, Mc2) := p1
    have m1' : F_X10_takes 0 (nI (β 0 0 4) - 1) (J3 x (nI kd) Mr1) = some (nI (vlP S f (enP S f a)), Mr2) := m1
    obtain ⟨-, hw⟩ := nE_0 c
    rw [p1', m1', Option.bind_some, Option.bind_some, if_neg (show ¬ (1 : Int32) = 0 by decide)]
    have em2 : Mr2.1 56 = (J3 x (nI kd) Mr1).1 56 := m3.1.k1 (fun b => by omega)
    refine lk_pair (t := 18) (lo := 0) (n := 200) (slot := 1) (i := x + 2) (by decide) (by omega) (by omega) (by omega) (by decide) p2 m2.u (hF1.trans (p5.mono (fun κ b q => by omega))) ((O9.trans m3.b).trans OB.u) bk_KE ?_
    intro Mc3 Mr3 u1 u2 c3 s3 g3 go3 x3 xo3 F3 Fc3 Fr3
    have en2 := en_le hf en1.2
    have en3 := en_le hf en2.2
    have en4 := en_le hf en3.2
    refine kend Mc3 Mr3 _ _ _ _ _ c3 s3 (by rw [go3 0 (by decide), p3]) g3 rfl rfl (by omega) (fun κ y z => by rw [F3.k1 (fun b => by omega), p5.k1 (fun b => by omega), q3.k1 (fun b => z)]) Fc3 Fr3 ?_ ?_ (fun i hi => ?_)
    · left
      refine ⟨_, vlP S f (enP S f (enP S f (enP S f a))), hw, by omega, ?_⟩
      unfold row4
      rw [if_pos (Or.inr (n5.mpr c5)), if_pos (n5.mpr c5), n5.mpr c5]
    · show (Mr3.1 56 0 0 (x + 0), Mr3.1 56 0 0 (x + 1), Mr3.1 56 0 0 (x + 2), Mr3.1 56 0 0 (x + 3), Mr3.1 56 0 0 (x + 4)) = _
      unfold row4
      have z0 : Mr3.1 56 0 0 (x + 0) = nI kd := by rw [xo3 _ (by omega), uI1, if_neg (fun q => by omega), em2, J3_at, if_neg (by omega), if_neg (by omega), if_pos (by omega)]
      have z1 : Mr3.1 56 0 0 (x + 1) = nI (vlP S f (enP S f a)) := by rw [xo3 _ (by omega), uI1, if_pos ⟨rfl, rfl, rfl, rfl⟩]
      have z3 : Mr3.1 56 0 0 (x + 3) = -1 := by rw [xo3 _ (by omega), uI1, if_neg (fun q => by omega), em2, J3_at, if_neg (by omega), if_pos rfl]
      have z4 : Mr3.1 56 0 0 (x + 4) = -1 := by rw [xo3 _ (by omega), uI1, if_neg (fun q => by omega), em2, J3_at, if_pos rfl]
      rw [z0, z1, x3, z3, z4, if_pos (Or.inr (n5.mpr c5)), if_pos (n5.mpr c5)]
    · rw [xo3 _ (by omega), uI1, if_neg (fun q => by omega), em2, old9 i (by omega) (by omega) (by omega)]
  -- a change of a task
  rw [if_neg (mt n5.mp c5), if_neg (mt n5.mp c5)]
  have bkT : BK (T171 x) := bk_tS (by decide) bk_KE
  -- behind the job: bad
  have bk18 : ∀ e pl M, RF M e pl → (∃ y, y ≤ 20 ∧ M.1 56 0 0 (x + 1) = nI y) → ∃ M', (if nI kd = 4 then T171 x M else (if inb ((11 + (7 * (M.1 56 0 0 (x + 1)))) + 6) 201 then tS 9 0 ((M.1 56 0 0 ((11 + (7 * (M.1 56 0 0 (x + 1)))) + 6).toNatClampNeg) - 1) (x + 3) (T171 x) M else none)) = some M' ∧ RF M' e pl ∧ OB M M' := by
    intro e pl M h ⟨y, hy, ey⟩
    by_cases c4 : kd = 4
    · rw [if_pos (n4.mpr c4)]
      exact bkT e pl M h
    · have e2 : ((11 : Int32) + (7 * nI y)) + 6 = nI (11 + 7 * y + 6) := by
        rw [show (11 : Int32) = nI 11 from rfl, show (7 : Int32) = nI 7 from rfl, show (6 : Int32) = nI 6 from rfl, pk_mul, nI_add, nI_add]
      rw [if_neg (mt n4.mp c4), ey, e2, if_pos (inb_nI (by omega) (by omega))]
      exact bk_tS (by decide) bkT e pl M h
  have hbad5 : ∀ e pl M, RF M e pl → (∃ y, y ≤ 20 ∧ M.1 56 0 0 (x + 1) = nI y) → ∃ M', tS 5 0 50 (x + 2) (fun M18 => if nI kd = 4 then T171 x M18 else (if inb ((11 + (7 * (M18.1 56 0 0 (x + 1)))) + 6) 201 then tS 9 0 ((M18.1 56 0 0 ((11 + (7 * (M18.1 56 0 0 (x + 1)))) + 6).toNatClampNeg) - 1) (x + 3) (T171 x) M18 else none)) M = some M' ∧ RF M' e pl ∧ OB M M' := by
    intro e pl M h ⟨y, hy, ey⟩
    have e5 : tS 5 0 50 (x + 2) (fun M18 => if nI kd = 4 then T171 x M18 else (if inb ((11 + (7 * (M18.1 56 0 0 (x + 1)))) + 6) 201 then tS 9 0 ((M18.1 56 0 0 ((11 + (7 * (M18.1 56 0 0 (x + 1)))) + 6).toNatClampNeg) - 1) (x + 3) (T171 x) M18 else none)) M = (if nI kd = 4 then T171 x (uIw M 56 0 0 (x + 2) 0) else (if inb ((11 + (7 * ((uIw M 56 0 0 (x + 2) 0).1 56 0 0 (x + 1)))) + 6) 201 then tS 9 0 (((uIw M 56 0 0 (x + 2) 0).1 56 0 0 ((11 + (7 * ((uIw M 56 0 0 (x + 2) 0).1 56 0 0 (x + 1)))) + 6).toNatClampNeg) - 1) (x + 3) (T171 x) (uIw M 56 0 0 (x + 2) 0) else none)) := by
      unfold tS
      rw [r_toldBad (by decide) h, Option.bind_some, bd_eq]
    rw [e5]
    obtain ⟨M', b1, b2, b3⟩ := bk18 e pl (uIw M 56 0 0 (x + 2) 0) (h.fr (uI_k (by decide))) ⟨y, hy, by rw [uI1, if_neg (fun q => by omega), ey]⟩
    exact ⟨M', b1, b2, OB.u.trans b3⟩
  rcases c_chTask q2 hC1 hg with ⟨c, Mc2, p1, p2, p3, p5⟩ | ⟨c, Mc2, p1, p2, p3⟩
  case inr =>
    rcases r_taskRead s9 hT5 (by rw [old9 4 (by omega) (by omega) (by omega), w4]) (fun t ht => by rw [old9 _ (by omega) (by omega) (by omega)]; exact hR.2 t ht) (fun t ht => (hg.2.2.2.2.1 t ht).2.2.2.2.2.2.2.2) with ⟨c2, -⟩ | ⟨-, Mr2, m1, m2, m3⟩
    · exact absurd c2 c
    rw [p1, m1, Option.bind_some, Option.bind_some, if_pos rfl]
    obtain ⟨M', b1, b2, b3⟩ := hbad5 _ _ (uIw Mr2 56 0 0 (x + 1) 0) (m2.fr (uI_k (by decide))) ⟨0, by omega, by rw [uI1, if_pos ⟨rfl, rfl, rfl, rfl⟩]; rfl⟩
    exact Or.inr ⟨_, _, Mc2, M', rfl, p2, b1, b2, hF1.trans (p3.mono (fun κ b q => by omega)), ((O9.trans m3.b).trans OB.u).trans b3⟩
  rcases r_taskRead s9 hT5 (by rw [old9 4 (by omega) (by omega) (by omega), w4]) (fun t ht => by rw [old9 _ (by omega) (by omega) (by omega)]; exact hR.2 t ht) (fun t ht => (hg.2.2.2.2.1 t ht).2.2.2.2.2.2.2.2) with ⟨-, Mr2, m1, m2, m3⟩ | ⟨c2, -⟩
  case inr => exact absurd c c2
  have hkE : vlP S f (enP S f a) < β 0 0 5 ∧ 0 < β 4 (vlP S f (enP S f a)) 6 := by
    unfold kE at c
    by_cases d : kdP S f (enP S f a) = 1
    · rw [if_pos d] at c
      by_cases d2 : vlP S f (enP S f a) < β 0 0 5 ∧ 0 < β 4 (vlP S f (enP S f a)) 6
      · exact d2
      · rw [if_neg d2] at c; omega
    · rw [if_neg d] at c; omega
  rw [p1, m1, Option.bind_some, Option.bind_some, if_neg (show ¬ (1 : Int32) = 0 by decide)]
  have em2 : Mr2.1 56 = (J3 x (nI kd) Mr1).1 56 := m3.1.k1 (fun b => by omega)
  have Fc2 : Fr SC Mc Mc2 := hF1.trans (p5.mono (fun κ b q => by omega))
  have Fr2 : OB Mr (uIw Mr2 56 0 0 (x + 1) (nI (vlP S f (enP S f a)))) := (O9.trans m3.b).trans OB.u
  have en2 := en_le hf en1.2
  have en3 := en_le hf en2.2
  have en4 := en_le hf en3.2
  have h6t := (hg.2.2.2.2.1 _ hkE.1).2.2.2.2.2.2.2.2
  generalize htv : vlP S f (enP S f a) = t at hkE p3 h6t Fr2
  -- the job
  show LnO S f Mc Mr a ((F_X1_readPair 5 (nI 0) 50 (nI 1) Mc2).bind (fun q => if q.1 = 0 then some (0, q.2) else _)) (tS 5 (nI 0) 50 (x + 2) _ (uIw Mr2 56 0 0 (x + 1) (nI t)))
  rcases c_pair p2 (t := 5) (lo := 0) (n := 51) (slot := 1) (hi := 50) (by decide) (by omega) (by omega) (by omega) (by decide) with ⟨cj, Mc3, u1, u2, u3, u4, u5⟩ | ⟨cj, Mc3, u1, u2, u3⟩
  case inr =>
    rcases r_toldBy (m2.u (j := x + 1) (v := nI t)) (t := 5) (lo := 0) (n := 51) (hi := 50) (by decide) (by omega) (by omega) (by decide) with ⟨c2, -⟩ | ⟨-, Mr3, v1, v2, v3⟩
    · exact absurd c2 cj
    right
    have eb : ∃ M', tS 5 (nI 0) 50 (x + 2) (fun M18 => if nI kd = 4 then T171 x M18 else (if inb ((11 + (7 * (M18.1 56 0 0 (x + 1)))) + 6) 201 then tS 9 0 ((M18.1 56 0 0 ((11 + (7 * (M18.1 56 0 0 (x + 1)))) + 6).toNatClampNeg) - 1) (x + 3) (T171 x) M18 else none)) (uIw Mr2 56 0 0 (x + 1) (nI t)) = some M' ∧ RF M' (pR S f 5 0 51 (enP S f (enP S f a))).1 (pR S f 5 0 51 (enP S f (enP S f a))).2 ∧ OB (uIw Mr3 56 0 0 (x + 2) 0) M' := by
      have e5 : tS 5 (nI 0) 50 (x + 2) (fun M18 => if nI kd = 4 then T171 x M18 else (if inb ((11 + (7 * (M18.1 56 0 0 (x + 1)))) + 6) 201 then tS 9 0 ((M18.1 56 0 0 ((11 + (7 * (M18.1 56 0 0 (x + 1)))) + 6).toNatClampNeg) - 1) (x + 3) (T171 x) M18 else none)) (uIw Mr2 56 0 0 (x + 1) (nI t)) = (if nI kd = 4 then T171 x (uIw Mr3 56 0 0 (x + 2) 0) else (if inb ((11 + (7 * ((uIw Mr3 56 0 0 (x + 2) 0).1 56 0 0 (x + 1)))) + 6) 201 then tS 9 0 (((uIw Mr3 56 0 0 (x + 2) 0).1 56 0 0 ((11 + (7 * ((uIw Mr3 56 0 0 (x + 2) 0).1 56 0 0 (x + 1)))) + 6).toNatClampNeg) - 1) (x + 3) (T171 x) (uIw Mr3 56 0 0 (x + 2) 0) else none)) := by
        unfold tS
        rw [v1, Option.bind_some, bd_eq]
      rw [e5]
      exact bk18 _ _ (uIw Mr3 56 0 0 (x + 2) 0) (v2.fr (uI_k (by decide))) ⟨t, by omega, by rw [uI1, if_neg (fun q => by omega), v3.1.k1 (fun b => by omega), uI1, if_pos ⟨rfl, rfl, rfl, rfl⟩]⟩
    obtain ⟨M', b1, b2, b3⟩ := eb
    have u1' : F_X1_readPair 5 (nI 0) 50 (nI 1) Mc2 = some (0, Mc3) := u1
    rw [u1', b1, Option.bind_some, if_pos rfl]
    exact ⟨_, _, Mc3, M', rfl, u2, rfl, b2, Fc2.trans (u3.mono (fun κ b q => by omega)), ((Fr2.trans v3.b).trans OB.u).trans b3⟩
  rcases r_toldBy (m2.u (j := x + 1) (v := nI t)) (t := 5) (lo := 0) (n := 51) (hi := 50) (by decide) (by omega) (by omega) (by decide) with ⟨-, Mr3, v1, v2, v3⟩ | ⟨c2, -⟩
  case inr => exact absurd cj c2
  obtain ⟨-, hj51⟩ := pR_0 cj
  have u1' : F_X1_readPair 5 (nI 0) 50 (nI 1) Mc2 = some (1, Mc3) := u1
  have e5 : tS 5 (nI 0) 50 (x + 2) (fun M18 => if nI kd = 4 then T171 x M18 else (if inb ((11 + (7 * (M18.1 56 0 0 (x + 1)))) + 6) 201 then tS 9 0 ((M18.1 56 0 0 ((11 + (7 * (M18.1 56 0 0 (x + 1)))) + 6).toNatClampNeg) - 1) (x + 3) (T171 x) M18 else none)) (uIw Mr2 56 0 0 (x + 1) (nI t)) = (if nI kd = 4 then T171 x (uIw Mr3 56 0 0 (x + 2) (nI (vlP S f (enP S f (enP S f (enP S f a)))))) else (if inb ((11 + (7 * ((uIw Mr3 56 0 0 (x + 2) (nI (vlP S f (enP S f (enP S f (enP S f a)))))).1 56 0 0 (x + 1)))) + 6) 201 then tS 9 0 (((uIw Mr3 56 0 0 (x + 2) (nI (vlP S f (enP S f (enP S f (enP S f a)))))).1 56 0 0 ((11 + (7 * ((uIw Mr3 56 0 0 (x + 2) (nI (vlP S f (enP S f (enP S f (enP S f a)))))).1 56 0 0 (x + 1)))) + 6).toNatClampNeg) - 1) (x + 3) (T171 x) (uIw Mr3 56 0 0 (x + 2) (nI (vlP S f (enP S f (enP S f (enP S f a)))))) else none)) := by
    unfold tS
    rw [v1, Option.bind_some, bd_eq]
  rw [u1', e5, Option.bind_some, if_neg (show ¬ (1 : Int32) = 0 by decide)]
  generalize hjv : vlP S f (enP S f (enP S f (enP S f a))) = j at hj51 u3 e5
  obtain ⟨M18, hM18⟩ : ∃ M18, M18 = uIw Mr3 56 0 0 (x + 2) (nI j) := ⟨_, rfl⟩
  rw [← hM18]
  have s18 : RS M18 S f (enP S f (enP S f (enP S f (enP S f a)))) := by rw [hM18]; exact v2.u
  have Fr18 : OB Mr M18 := by rw [hM18]; exact (Fr2.trans v3.b).trans OB.u
  have ev3 : Mr3.1 56 = (uIw Mr2 56 0 0 (x + 1) (nI t)).1 56 := v3.1.k1 (fun b => by omega)
  have x18 : ∀ i, i ≠ x + 2 → i ≠ x + 1 → M18.1 56 0 0 i = (J3 x (nI kd) Mr1).1 56 0 0 i := fun i h2 h1 => by
    rw [hM18, uI1, if_neg (fun q => h2 q.2.2.2), ev3, uI1, if_neg (fun q => h1 q.2.2.2), em2]
  have x181 : M18.1 56 0 0 (x + 1) = nI t := by
    rw [hM18, uI1, if_neg (fun q => by omega), ev3, uI1, if_pos ⟨rfl, rfl, rfl, rfl⟩]
  have x182 : M18.1 56 0 0 (x + 2) = nI j := by rw [hM18, uI1, if_pos ⟨rfl, rfl, rfl, rfl⟩]
  have Fc3 : Fr SC Mc Mc3 := Fc2.trans (u5.mono (fun κ b q => by omega))
  have g30 : Mc3.1 14 0 0 0 = nI t := by rw [u4 0 (by decide), p3]
  have old3 : ∀ κ, κ ≠ 14 → κ ≠ 15 → Mc3.1 κ = Mc.1 κ := fun κ y z => by rw [u5.k1 (fun b => by omega), p5.k1 (fun b => by omega), q3.k1 (fun b => z)]
  -- the times
  have ktimes : ∀ (Mc4 Mr4 : Mw) (a4 : Nat) (g2 w3' : Int32), CS Mc4 S f a4 → RS Mr4 S f a4 → Mc4.1 14 0 0 0 = nI t → Mc4.1 14 0 0 1 = nI j → Mc4.1 14 0 0 2 = g2 → enP S f a ≤ a4 → a4 ≤ S → (∀ κ, κ ≠ 14 → κ ≠ 15 → Mc4.1 κ = Mc.1 κ) → Fr SC Mc Mc4 → OB Mr Mr4 → (∀ m, 1 ≤ m → m ≤ 9 → GRow β (row4 (nI kd) (nI t) (nI j) g2 (nI m))) → w3' = (if nI kd = 4 ∨ nI kd = 5 then -1 else g2) → Mr4.1 56 0 0 x = nI kd → Mr4.1 56 0 0 (x + 1) = nI t → Mr4.1 56 0 0 (x + 2) = nI j → Mr4.1 56 0 0 (x + 3) = w3' → (∀ i, i < x ∨ x + 4 < i → Mr4.1 56 0 0 i = Mr.1 56 0 0 i) →
      LnO S f Mc Mr a (B_X1_readInjection_130 (nI kd) Mc4) (T171 x Mr4) := by
    intro Mc4 Mr4 a4 g2 w3' c4 s4 y0 y1 y2 hle hle2 hold Fc4 Fr4 hrow ew z0 z1 z2 z3 hkeep
    unfold B_X1_readInjection_130 T171
    refine lk_pair (t := 20) (lo := 1) (n := 10) (slot := 3) (i := x + 4) (by decide) (by omega) (by omega) (by omega) (by decide) c4 s4 Fc4 Fr4 bk_KE ?_
    intro Mc5 Mr5 m1 m2 c5' s5 g5 go5 x5 xo5 F5 Fc5 Fr5
    have b1 := en_le hf hle2
    have b2 := en_le hf b1.2
    refine kend Mc5 Mr5 _ _ _ _ _ c5' s5 (by rw [go5 0 (by decide), y0]) (by rw [go5 1 (by decide), y1]) (by rw [go5 2 (by decide), y2]) g5 (by omega) (fun κ p q => by rw [F5.k1 (fun b => by omega), hold κ p q]) Fc5 Fr5 (hrow _ m1 (by omega)) ?_ (fun i hi => by rw [xo5 i (by omega), hkeep i hi])
    show (Mr5.1 56 0 0 (x + 0), Mr5.1 56 0 0 (x + 1), Mr5.1 56 0 0 (x + 2), Mr5.1 56 0 0 (x + 3), Mr5.1 56 0 0 (x + 4)) = _
    rw [Nat.add_zero, xo5 x (by omega), xo5 (x + 1) (by omega), xo5 (x + 2) (by omega), xo5 (x + 3) (by omega), x5, z0, z1, z2, z3, ew]
    unfold row4
    rw [if_neg (mt n5.mp c5)]
  have x18o : ∀ i, i < x ∨ x + 4 < i → M18.1 56 0 0 i = Mr.1 56 0 0 i := fun i hi => by
    rw [x18 i (by omega) (by omega), old9 i (by omega) (by omega) (by omega)]
  have x180 : M18.1 56 0 0 x = nI kd := by rw [x18 x (by omega) (by omega), J3_at, if_neg (by omega), if_neg (by omega), if_pos rfl]
  by_cases c4 : kd = 4
  · show LnO S f Mc Mr a (if nI kd = 4 then B_X1_readInjection_130 (nI kd) Mc3 else _) _
    rw [if_pos (n4.mpr c4), if_pos (n4.mpr c4)]
    refine ktimes Mc3 M18 _ _ (-1) u2 s18 g30 u3 rfl (by omega) u2.1 old3 Fc3 Fr18 (fun m hm1 hm2 => ?_) (if_pos (Or.inl (n4.mpr c4))).symm x180 x181 x182 (by rw [x18 _ (by omega) (by omega), J3_at, if_neg (by omega), if_pos rfl]) x18o
    right
    left
    refine ⟨t, j, m, hkE.1, by omega, hm1, hm2, ?_⟩
    unfold row4
    rw [if_pos (Or.inl (n4.mpr c4)), if_neg (mt n5.mp c5), n4.mpr c4]
  · show LnO S f Mc Mr a (if nI kd = 4 then B_X1_readInjection_130 (nI kd) Mc3 else (if inb (Mc3.1 14 0 0 0) 5 then ((F_X1_readPair 9 0 ((Mc3.1 4 0 ((Mc3.1 14 0 0 0).toNatClampNeg) 6) - 1) 2 Mc3).bind (fun q23 => (if q23.1 = 0 then some (0, q23.2) else (B_X1_readInjection_130 (nI kd) q23.2)))) else none)) _
    have e2 : ((11 : Int32) + (7 * nI t)) + 6 = nI (11 + 7 * t + 6) := by
      rw [show (11 : Int32) = nI 11 from rfl, show (7 : Int32) = nI 7 from rfl, show (6 : Int32) = nI 6 from rfl, pk_mul, nI_add, nI_add]
    have e46 : Mc3.1 4 0 t 6 = nI (β 4 t 6) := by rw [old3 4 (by decide) (by decide)]; exact hC.2.2.1 t (by omega)
    have w46 : M18.1 56 0 0 (11 + 7 * t + 6) = nI (β 4 t 6) := by rw [x18o _ (by omega)]; exact hR.2 t (by omega)
    rw [if_neg (mt n4.mp c4), if_neg (mt n4.mp c4), g30, if_pos (inb_nI (by omega) (by omega)), clampI (by omega), e46, x181, e2, if_pos (inb_nI (by omega) (by omega)), clampI (by omega), w46]
    refine lk_pair (t := 9) (lo := 0) (n := β 4 t 6) (slot := 2) (i := x + 3) (by decide) (by omega) (by omega) (by omega) (nI_m _) u2 s18 Fc3 Fr18 bkT ?_
    intro Mc4 Mr4 m1 m2 c4' s4 g4 go4 x4 xo4 F4 Fc4 Fr4
    have en5 := en_le hf en4.2
    refine ktimes Mc4 Mr4 _ _ _ c4' s4 (by rw [go4 0 (by decide), g30]) (by rw [go4 1 (by decide), u3]) g4 (by omega) c4'.1 (fun κ p q => by rw [F4.k1 (fun b => by omega), old3 κ p q]) Fc4 Fr4 (fun m hm1 hm2 => ?_) rfl (by rw [xo4 _ (by omega), x180]) (by rw [xo4 _ (by omega), x181]) (by rw [xo4 _ (by omega), x182]) (by rw [x4, if_neg (fun q => q.elim (mt n4.mp c4) (mt n5.mp c5))]) (fun i hi => by rw [xo4 i (by omega), x18o i hi])
    right
    right
    refine ⟨kd, t, j, _, m, by omega, hkE.1, by omega, m2, hm1, hm2, ?_⟩
    unfold row4
    rw [if_neg (fun q => q.elim (mt n4.mp c4) (mt n5.mp c5)), if_neg (mt n5.mp c5)]
