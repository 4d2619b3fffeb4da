/-! THE LINE OF A TASK -/
def taB (β : Bw) (v : Nat → Nat) : Bw := fun κ i j => if κ = 4 ∧ i = β 0 0 5 ∧ j < 6 then v j else if κ = 0 ∧ i = 0 ∧ j = 5 then β 0 0 5 + 1 else if κ = 0 ∧ i = 0 ∧ j = 3 then β 0 0 3 + 1 else β κ i j
theorem taB_n {β : Bw} {v : Nat → Nat} {κ i j : Nat} (h : (κ ≠ 4 ∧ κ ≠ 0) ∨ (κ = 4 ∧ (i ≠ β 0 0 5 ∨ 6 ≤ j)) ∨ (κ = 0 ∧ j ≠ 5 ∧ j ≠ 3)) : taB β v κ i j = β κ i j := by
  unfold taB
  rw [if_neg (by omega), if_neg (by omega), if_neg (by omega)]
theorem taB_5 {β : Bw} {v : Nat → Nat} : taB β v 0 0 5 = β 0 0 5 + 1 := by
  unfold taB
  rw [if_neg (by omega), if_pos ⟨rfl, rfl, rfl⟩]
theorem taB_3 {β : Bw} {v : Nat → Nat} : taB β v 0 0 3 = β 0 0 3 + 1 := by
  unfold taB
  rw [if_neg (by omega), if_neg (by omega), if_pos ⟨rfl, rfl, rfl⟩]
theorem taB_4 {β : Bw} {v : Nat → Nat} {j : Nat} (h : j < 6) : taB β v 4 (β 0 0 5) j = v j := if_pos ⟨rfl, rfl, h⟩
theorem GBp.task {β : Bw} {L : Lw} (h : GBp β L) (hl : 0 < β 0 0 3) (hT : β 0 0 5 < 5) {v : Nat → Nat} (v0 : v 0 < β 0 0 4) (v1 : 4 ≤ v 1 ∧ v 1 < 61) (v2 : v 2 < 100) (v3 : v 2 + 1 ≤ v 3 ∧ v 3 < 121) (v4 : v 4 < 21) (v5 : v 5 < 41) : GBp (taB β v) L := by
  obtain ⟨⟨a0, a1, a2, a3, a4, a5, a6, a7⟩, b, c, d, e, e2, g, i, j, k, l⟩ := h
  have x0 : taB β v 0 0 0 = β 0 0 0 := taB_n (by omega)
  have x1 : taB β v 0 0 1 = β 0 0 1 := taB_n (by omega)
  have x2 : taB β v 0 0 2 = β 0 0 2 := taB_n (by omega)
  have x4 : taB β v 0 0 4 = β 0 0 4 := taB_n (by omega)
  have x6 : taB β v 0 0 6 = β 0 0 6 := taB_n (by omega)
  have x7 : taB β v 0 0 7 = β 0 0 7 := taB_n (by omega)
  have n1 : ∀ κ i j, κ ≠ 4 → κ ≠ 0 → taB β v κ i j = β κ i j := fun κ i j p q => taB_n (Or.inl ⟨p, q⟩)
  have n46 : ∀ t, taB β v 4 t 6 = β 4 t 6 := fun t => taB_n (by omega)
  have hund : ∀ q w, und (taB β v) q w = und β q w := fun q w => by
    unfold und
    rw [n1 1 _ _ (by decide) (by decide), n1 1 _ _ (by decide) (by decide)]
  unfold GBp
  rw [x0, x1, x2, x4, x6, x7, taB_3, taB_5]
  refine ⟨⟨a0, a1, a2, a3, by omega, a5, a6, a7⟩, fun _ => b hl, fun q => by omega, fun _ => by omega, fun t ht => ?_, fun t ht => ?_, fun t n ht hn => ?_, fun t n q hq => ?_, ⟨?_, fun w hw hw2 => ?_⟩, fun w hw => ?_, fun r hr => ?_⟩
  · by_cases z : t = β 0 0 5
    · subst z
      rw [taB_4 (by decide), taB_4 (by decide), taB_4 (by decide), taB_4 (by decide), taB_4 (by decide), taB_4 (by decide), n46]
      have := e2 (β 0 0 5) (Nat.le_refl _)
      omega
    · rw [taB_n (by omega), taB_n (by omega), taB_n (by omega), taB_n (by omega), taB_n (by omega), taB_n (by omega), n46]
      exact e t (by omega)
  · rw [n46]; exact e2 t (by omega)
  · rw [n46] at hn
    rw [n1 6 _ _ (by decide) (by decide)]
    by_cases z : t = β 0 0 5
    · have := e2 t (by omega)
      omega
    · exact g t n (by omega) hn
  · rw [n1 8 _ _ (by decide) (by decide)] at hq
    rw [n46]
    exact i t n q hq
  · rw [n1 1 _ _ (by decide) (by decide)]; exact j.1
  · rw [n1 1 _ _ (by decide) (by decide)]; exact j.2 w hw hw2
  · rw [n1 2 _ _ (by decide) (by decide)]
    obtain ⟨k1, k2⟩ := k w hw
    exact ⟨k1, fun q => by rw [hund]; exact k2 q⟩
  · rcases l r hr with ⟨w, x, hw, hx, e'⟩ | ⟨t, j', m, ht, hj, hm1, hm2, e'⟩ | ⟨kd, t, j', n, m, hkd, ht, hj, hn, hm1, hm2, e'⟩
    · exact Or.inl ⟨w, x, by rw [x4]; exact hw, hx, e'⟩
    · exact Or.inr (Or.inl ⟨t, j', m, by rw [taB_5]; omega, hj, hm1, hm2, e'⟩)
    · exact Or.inr (Or.inr ⟨kd, t, j', n, m, hkd, by rw [taB_5]; omega, hj, by rw [n46]; exact hn, hm1, hm2, e'⟩)
theorem r_taskEq {M0 M : Mw} {T W : Nat} (hc : F_X10_canTake 4 5 M0 = some (1, M)) (h4 : M.1 56 0 0 4 = nI T) (h3 : M.1 56 0 0 3 = nI W) (hT : T < 5) :
    (F_X10_readTask M0).bind B_X10_readText_91 = tS 21 0 (nI W - 1) (11 + 7 * T) (tS 11 4 60 (11 + 7 * T + 1) (tS 10 0 99 (11 + 7 * T + 2) (fun M15 => tS 2 (M15.1 56 0 0 (11 + 7 * T + 2) + 1) 120 (11 + 7 * T + 3) (tS 6 0 20 (11 + 7 * T + 4) (fun M24 => tS 8 (M24.1 56 0 0 (11 + 7 * T + 4)) 40 (11 + 7 * T + 5) (fun M29 => B_X10_readText_91 (uIw M29 56 0 0 4 (M29.1 56 0 0 4 + 1))) M24)) M15))) M := by
  have e : (11 : Int32) + 7 * nI T = nI (11 + 7 * T) := by
    rw [show (11 : Int32) = nI 11 from rfl, show (7 : Int32) = nI 7 from rfl, pk_mul, nI_add]
  unfold F_X10_readTask tS
  rw [hc, Option.bind_some, if_neg (show ¬ (1 : Int32) = 0 by decide)]
  simp only [h4, h3, e]
  have hx : 11 + 7 * T ≤ 100 := by omega
  generalize 11 + 7 * T = x at hx
  have e1 : nI x + 1 = nI (x + 1) := nI_add x 1
  have e2 : nI x + 2 = nI (x + 2) := nI_add x 2
  have e3 : nI x + 3 = nI (x + 3) := nI_add x 3
  have e4 : nI x + 4 = nI (x + 4) := nI_add x 4
  have e5 : nI x + 5 = nI (x + 5) := nI_add x 5
  have i0 : inb (nI x) 201 = true := inb_nI (by omega) (by omega)
  have i1 : inb (nI (x + 1)) 201 = true := inb_nI (by omega) (by omega)
  have i2 : inb (nI (x + 2)) 201 = true := inb_nI (by omega) (by omega)
  have i3 : inb (nI (x + 3)) 201 = true := inb_nI (by omega) (by omega)
  have i4 : inb (nI (x + 4)) 201 = true := inb_nI (by omega) (by omega)
  have i5 : inb (nI (x + 5)) 201 = true := inb_nI (by omega) (by omega)
  have c0 : (nI x).toNatClampNeg = x := clampI (by omega)
  have c1 : (nI (x + 1)).toNatClampNeg = x + 1 := clampI (by omega)
  have c2 : (nI (x + 2)).toNatClampNeg = x + 2 := clampI (by omega)
  have c3 : (nI (x + 3)).toNatClampNeg = x + 3 := clampI (by omega)
  have c4 : (nI (x + 4)).toNatClampNeg = x + 4 := clampI (by omega)
  have c5 : (nI (x + 5)).toNatClampNeg = x + 5 := clampI (by omega)
  simp only [bd_eq, e1, e2, e3, e4, e5, i0, i1, i2, i3, i4, i5, c0, c1, c2, c3, c4, c5, if_true, Option.bind_assoc, Option.bind_some]
theorem c_copyGot {M : Mw} {T : Nat} (hT : T < 5) (h5 : M.1 0 0 0 5 = nI T) : ∃ M', it (fun _ _ => none) (B_X1_readTask_148 T) FU 0 M = some (1, M') ∧ M'.1 0 0 0 5 = nI (T + 1) ∧ (∀ j, j ≠ 5 → M'.1 0 0 0 j = M.1 0 0 0 j) ∧ (∀ j, j < 6 → M'.1 4 0 T j = M.1 14 0 0 j) ∧ M'.1 4 0 T 6 = M.1 4 0 T 6 ∧ (∀ t, t ≠ T → M'.1 4 0 t = M.1 4 0 t) ∧ Fr (fun κ b => (κ = 0 ∨ κ = 4) ∧ b = 0) M M' := by
  have key := it_for (z := fun _ _ => none) (B := B_X1_readTask_148 T) (n := 6)
    (P := fun n M1 => (∀ j, M1.1 4 0 T j = if j < n then M.1 14 0 0 j else M.1 4 0 T j) ∧ (∀ t, t ≠ T → M1.1 4 0 t = M.1 4 0 t) ∧ Fr (fun κ b => κ = 4 ∧ b = 0) M M1)
    (Q := fun o => ∃ M', o = some (1, M') ∧ M'.1 0 0 0 5 = nI (T + 1) ∧ (∀ j, j ≠ 5 → M'.1 0 0 0 j = M.1 0 0 0 j) ∧ (∀ j, j < 6 → M'.1 4 0 T j = M.1 14 0 0 j) ∧ M'.1 4 0 T 6 = M.1 4 0 T 6 ∧ (∀ t, t ≠ T → M'.1 4 0 t = M.1 4 0 t) ∧ Fr (fun κ b => (κ = 0 ∨ κ = 4) ∧ b = 0) M M')
    (fun kk n M1 hn hP => by
      obtain ⟨p1, p2, p3⟩ := hP
      left
      unfold B_X1_readTask_148
      rw [if_neg (show ¬ (5 : Int32) < nI n from nI_nlt (a := 5) (by omega) (by omega)), if_pos (inb_nI (by omega) (by omega)), if_pos (inb_nI (by omega) (by omega)), clampI (by omega), (p3 14 0 (by omega)).1, bd_eq, bd_eq, nI_1]
      refine ⟨_, rfl, fun j => ?_, fun t ht => ?_, p3.trans (Fr.uI ⟨rfl, rfl⟩)⟩
      · rw [uI1]
        by_cases c : j = n
        · rw [if_pos ⟨rfl, rfl, rfl, c⟩, if_pos (by omega), c]
        · rw [if_neg (fun q => c q.2.2.2), p1 j]
          by_cases d : j < n
          · rw [if_pos d, if_pos (by omega)]
          · rw [if_neg d, if_neg (by omega)]
      · funext j
        rw [uI1, if_neg (fun q => ht q.2.2.1), p2 t ht])
    (fun kk M1 hP => by
      obtain ⟨p1, p2, p3⟩ := hP
      unfold B_X1_readTask_148
      rw [if_pos (show (5 : Int32) < nI 6 by decide), (p3 0 0 (by omega)).1, h5, bd_eq, nI_1]
      refine ⟨_, rfl, by rw [uI1, if_pos ⟨rfl, rfl, rfl, rfl⟩], fun j hj => ?_, fun j hj => ?_, ?_, fun t ht => ?_, (p3.mono (fun κ b q => ⟨Or.inr q.1, q.2⟩)).trans (Fr.uI ⟨Or.inl rfl, rfl⟩)⟩
      · rw [uI1, if_neg (fun q => hj q.2.2.2), (p3 0 0 (by omega)).1]
      · rw [uI_k (by decide), p1 j, if_pos hj]
      · rw [uI_k (by decide), p1 6, if_neg (by omega)]
      · rw [uI_k (by decide), p2 t ht])
    FU 0 M (by omega) (by unfold FU; omega) ⟨fun j => by rw [if_neg (Nat.not_lt_zero _)], fun _ _ => rfl, Fr.rfl⟩
  rw [nI_0] at key
  exact key
theorem ln_task {S a : Nat} {f : Nat → Nat} {Mc Mr : Mw} {β : Bw} {L : Lw} (hk : Lk S f Mc Mr β L a) (hl : 0 < β 0 0 3) (hla : β 0 0 3 ≤ a) (hm : kdP S f a ≠ 4) : LnO S f Mc Mr a (F_X1_readTask Mc) ((F_X10_readTask Mr).bind B_X10_readText_91) := by
  obtain ⟨hc, h132, h133, hC, hr, hR, hg⟩ := hk
  have hf := hc.2.1.2.1
  have e5 : Mc.1 0 0 0 5 = nI (β 0 0 5) := hC.1 5 (by decide)
  have w4 : Mr.1 56 0 0 4 = nI (β 0 0 5) := hR.1.1.2.2.2.2.1
  have w3 : Mr.1 56 0 0 3 = nI (β 0 0 4) := hR.1.1.2.2.2.1
  have hW3 := hg.1.2.2.2.1
  have hT5 := hg.1.2.2.2.2.1
  have hcan := r_can (idx := 4) (most := nI 5) hr (by decide)
  by_cases cT : β 0 0 5 < 5
  case neg =>
    have e5' : β 0 0 5 = 5 := by omega
    rcases hcan with ⟨c, M', r1, r2, r3⟩ | ⟨c, -⟩
    · have r1' : F_X10_canTake 4 5 Mr = some (0, M') := r1
      obtain ⟨Mc', q1, q2, q3⟩ := c_flaw (e := 3) hc
      have q1' : (F_X1_fail 3 Mc).bind (fun q => if bz q.1 then some (q.1, q.2) else none) = some (0, Mc') := q1
      obtain ⟨M2, b1, b2, b3⟩ := bk_91 _ _ _ r2
      unfold F_X1_readTask F_X10_readTask
      rw [e5, if_neg (show ¬ nI (β 0 0 5) < 5 from nI_nlt (b := 5) (by omega) (by omega)), q1', r1', Option.bind_some, if_pos rfl]
      exact Or.inr ⟨3, _, Mc', M2, rfl, q2, b1, b2, q3.mono (fun κ b q => by omega), r3.b.trans b3⟩
    · exact absurd (by rw [w4, e5']) c
  rcases hcan with ⟨c, -⟩ | ⟨-, Mr1, r1, r2, r3⟩
  · rw [w4] at c
    have := (nI_eq (by omega) (by omega)).mp c
    omega
  have r1' : F_X10_canTake 4 5 Mr = some (1, Mr1) := r1
  have eR1 : Mr1.1 56 = Mr.1 56 := r3.1.k1 (fun b => by omega)
  obtain ⟨Mc1, q1, q2, q3⟩ := hc.adv
  have e41 : Mc1.1 0 0 0 4 = nI (β 0 0 4) := by rw [q3.k1 (fun b => by omega)]; exact hC.1 4 (by decide)
  rw [r_taskEq (T := β 0 0 5) (W := β 0 0 4) r1' (by rw [eR1, w4]) (by rw [eR1, w3]) cT]
  unfold F_X1_readTask
  rw [e5, if_pos (show nI (β 0 0 5) < 5 from nI_lt (b := 5) cT (by omega)), q1, Option.bind_some, e41]
  have hF1 : Fr SC Mc Mc1 := q3.mono (fun κ b q => by omega)
  have kfin : BK (fun M29 => B_X10_readText_91 (uIw M29 56 0 0 4 (M29.1 56 0 0 4 + 1))) := fun e pl M h => by
    obtain ⟨M', b1, b2, b3⟩ := bk_91 e pl _ (h.fr (M' := uIw M 56 0 0 4 (M.1 56 0 0 4 + 1)) (uI_k (by decide)))
    exact ⟨M', b1, b2, OB.u.trans b3⟩
  have k8 : BK (fun M24 => tS 8 (M24.1 56 0 0 (11 + 7 * β 0 0 5 + 4)) 40 (11 + 7 * β 0 0 5 + 5) (fun M29 => B_X10_readText_91 (uIw M29 56 0 0 4 (M29.1 56 0 0 4 + 1))) M24) := fun e pl M h => bk_tS (by decide) kfin e pl M h
  have k6 := bk_tS (t := 6) (i := 11 + 7 * β 0 0 5 + 4) (x := 0) (y := 20) (by decide) k8
  have k2 : BK (fun M15 => tS 2 (M15.1 56 0 0 (11 + 7 * β 0 0 5 + 2) + 1) 120 (11 + 7 * β 0 0 5 + 3) (tS 6 0 20 (11 + 7 * β 0 0 5 + 4) (fun M24 => tS 8 (M24.1 56 0 0 (11 + 7 * β 0 0 5 + 4)) 40 (11 + 7 * β 0 0 5 + 5) (fun M29 => B_X10_readText_91 (uIw M29 56 0 0 4 (M29.1 56 0 0 4 + 1))) M24)) M15) := fun e pl M h => bk_tS (by decide) k6 e pl M h
  have k10 := bk_tS (t := 10) (i := 11 + 7 * β 0 0 5 + 2) (x := 0) (y := 99) (by decide) k2
  have k11 := bk_tS (t := 11) (i := 11 + 7 * β 0 0 5 + 1) (x := 4) (y := 60) (by decide) k10
  refine lk_pair (t := 21) (lo := 0) (n := β 0 0 4) (slot := 0) (i := 11 + 7 * β 0 0 5) (by decide) (by omega) (by omega) (by omega) (nI_m _) q2 r2 hF1 r3.b k11 ?_
  intro Mc2 Mr2 p1 p2 c2 s2 g2 go2 x2 xo2 F2 Fc2 Fr2
  refine lk_pair (t := 11) (lo := 4) (n := 61) (slot := 1) (i := 11 + 7 * β 0 0 5 + 1) (by decide) (by omega) (by omega) (by omega) (by decide) c2 s2 Fc2 Fr2 k10 ?_
  intro Mc3 Mr3 p3 p4 c3 s3 g3 go3 x3 xo3 F3 Fc3 Fr3
  refine lk_pair (t := 10) (lo := 0) (n := 100) (slot := 2) (i := 11 + 7 * β 0 0 5 + 2) (by decide) (by omega) (by omega) (by omega) (by decide) c3 s3 Fc3 Fr3 k2 ?_
  intro Mc4 Mr4 p5 p6 c4 s4 g4 go4 x4 xo4 F4 Fc4 Fr4
  have l2 : Mc4.1 14 0 0 2 + 1 = nI (vlP S f (enP S f (enP S f (enP S f (enP S f (enP S f (enP S f a)))))) + 1) := by rw [g4, nI_1]
  have l2' : Mr4.1 56 0 0 (11 + 7 * β 0 0 5 + 2) + 1 = nI (vlP S f (enP S f (enP S f (enP S f (enP S f (enP S f (enP S f a)))))) + 1) := by rw [x4, nI_1]
  show LnO S f Mc Mr a ((F_X1_readPair 2 (Mc4.1 14 0 0 2 + 1) 120 3 Mc4).bind _) (tS 2 (Mr4.1 56 0 0 (11 + 7 * β 0 0 5 + 2) + 1) 120 _ _ Mr4)
  rw [l2, l2']
  refine lk_pair (t := 2) (n := 121) (slot := 3) (i := 11 + 7 * β 0 0 5 + 3) (by decide) (by omega) (by omega) (by omega) (by decide) c4 s4 Fc4 Fr4 k6 ?_
  intro Mc5 Mr5 p7 p8 c5 s5 g5 go5 x5 xo5 F5 Fc5 Fr5
  refine lk_pair (t := 6) (lo := 0) (n := 21) (slot := 4) (i := 11 + 7 * β 0 0 5 + 4) (by decide) (by omega) (by omega) (by omega) (by decide) c5 s5 Fc5 Fr5 k8 ?_
  intro Mc6 Mr6 p9 p10 c6 s6 g6 go6 x6 xo6 F6 Fc6 Fr6
  have l4 := g6
  have l4' := x6
  show LnO S f Mc Mr a ((F_X1_readPair 8 (Mc6.1 14 0 0 4) 40 5 Mc6).bind _) (tS 8 (Mr6.1 56 0 0 (11 + 7 * β 0 0 5 + 4)) 40 _ _ Mr6)
  rw [l4, l4']
  refine lk_pair (t := 8) (n := 41) (slot := 5) (i := 11 + 7 * β 0 0 5 + 5) (by decide) (by omega) (by omega) (by omega) (by decide) c6 s6 Fc6 Fr6 kfin ?_
  intro Mc7 Mr7 p11 p12 c7 s7 g7 go7 x7 xo7 F7 Fc7 Fr7
  refine lk_end c7 s7.u Fc7 (Fr7.trans OB.u) ?_
  intro Mc8 Mr8 c8 s8 F8 y7 yo Fc8 Fr8
  have hFG : ∀ κ, κ ≠ 14 → κ ≠ 15 → Mc8.1 κ = Mc.1 κ := fun κ h4 h5 => by
    rw [F8.k1 (fun b => h5), F7.k1 (fun b => by omega), F6.k1 (fun b => by omega), F5.k1 (fun b => by omega), F4.k1 (fun b => by omega), F3.k1 (fun b => by omega), F2.k1 (fun b => by omega), q3.k1 (fun b => h5)]
  have e14 : Mc8.1 14 = Mc7.1 14 := F8.k1 (fun b => by omega)
  have wo : ∀ j, j ≠ 4 → j ≠ 7 → (j < 11 + 7 * β 0 0 5 ∨ 11 + 7 * β 0 0 5 + 5 < j) → Mr8.1 56 0 0 j = Mr.1 56 0 0 j := fun j j4 j7 h => by
    rw [yo j j7, uI1, if_neg (fun q => j4 q.2.2.2), xo7 j (by omega), xo6 j (by omega), xo5 j (by omega), xo4 j (by omega), xo3 j (by omega), xo2 j (by omega), eR1]
  obtain ⟨v, hv⟩ : ∃ v : Nat → Nat, v = fun j => if j = 0 then vlP S f (enP S f (enP S f a)) else if j = 1 then vlP S f (enP S f (enP S f (enP S f (enP S f a)))) else if j = 2 then vlP S f (enP S f (enP S f (enP S f (enP S f (enP S f (enP S f a)))))) else if j = 3 then vlP S f (enP S f (enP S f (enP S f (enP S f (enP S f (enP S f (enP S f (enP S f a)))))))) else if j = 4 then vlP S f (enP S f (enP S f (enP S f (enP S f (enP S f (enP S f (enP S f (enP S f (enP S f (enP S f a)))))))))) else vlP S f (enP S f (enP S f (enP S f (enP S f (enP S f (enP S f (enP S f (enP S f (enP S f (enP S f (enP S f (enP S f a)))))))))))) := ⟨_, rfl⟩
  have v0 : v 0 = vlP S f (enP S f (enP S f a)) := by rw [hv]; rfl
  have v1 : v 1 = vlP S f (enP S f (enP S f (enP S f (enP S f a)))) := by rw [hv]; rfl
  have v2 : v 2 = vlP S f (enP S f (enP S f (enP S f (enP S f (enP S f (enP S f a)))))) := by rw [hv]; rfl
  have v3 : v 3 = vlP S f (enP S f (enP S f (enP S f (enP S f (enP S f (enP S f (enP S f (enP S f a)))))))) := by rw [hv]; rfl
  have v4 : v 4 = vlP S f (enP S f (enP S f (enP S f (enP S f (enP S f (enP S f (enP S f (enP S f (enP S f (enP S f a)))))))))) := by rw [hv]; rfl
  have v5 : v 5 = vlP S f (enP S f (enP S f (enP S f (enP S f (enP S f (enP S f (enP S f (enP S f (enP S f (enP S f (enP S f (enP S f a)))))))))))) := by rw [hv]; rfl
  rw [← v0] at p2 g2 x2
  rw [← v1] at p3 p4 g3 x3
  rw [← v2] at p6 g4 x4 p7
  rw [← v3] at p7 p8 g5 x5
  rw [← v4] at p10 g6 x6
  rw [← v5] at p12 g7 x7
  have hgot : ∀ j, j < 6 → Mc8.1 14 0 0 j = nI (v j) := fun j hj => by
    rw [e14]
    rcases (by omega : j = 0 ∨ j = 1 ∨ j = 2 ∨ j = 3 ∨ j = 4 ∨ j = 5) with rfl | rfl | rfl | rfl | rfl | rfl
    · rw [go7 0 (by decide), go6 0 (by decide), go5 0 (by decide), go4 0 (by decide), go3 0 (by decide), g2]
    · rw [go7 1 (by decide), go6 1 (by decide), go5 1 (by decide), go4 1 (by decide), g3]
    · rw [go7 2 (by decide), go6 2 (by decide), go5 2 (by decide), g4]
    · rw [go7 3 (by decide), go6 3 (by decide), g5]
    · rw [go7 4 (by decide), g6]
    · rw [g7]
  have hfresh : ∀ j, j < 6 → Mr8.1 56 0 0 (11 + 7 * β 0 0 5 + j) = nI (v j) := fun j hj => by
    rw [yo _ (by omega), uI1, if_neg (fun q => by omega)]
    rcases (by omega : j = 0 ∨ j = 1 ∨ j = 2 ∨ j = 3 ∨ j = 4 ∨ j = 5) with rfl | rfl | rfl | rfl | rfl | rfl
    · rw [Nat.add_zero, xo7 _ (by omega), xo6 _ (by omega), xo5 _ (by omega), xo4 _ (by omega), xo3 _ (by omega), x2]
    · rw [xo7 _ (by omega), xo6 _ (by omega), xo5 _ (by omega), xo4 _ (by omega), x3]
    · rw [xo7 _ (by omega), xo6 _ (by omega), xo5 _ (by omega), x4]
    · rw [xo7 _ (by omega), xo6 _ (by omega), x5]
    · rw [xo7 _ (by omega), x6]
    · rw [x7]
  have wT : Mr8.1 56 0 0 4 = nI (β 0 0 5 + 1) := by
    rw [yo 4 (by decide), uI1, if_pos ⟨rfl, rfl, rfl, rfl⟩, xo7 4 (by omega), xo6 4 (by omega), xo5 4 (by omega), xo4 4 (by omega), xo3 4 (by omega), xo2 4 (by omega), eR1, w4, nI_1]
  have wL : Mr8.1 56 0 0 7 = nI (β 0 0 3 + 1) := by
    rw [y7, uI1, if_neg (fun q => absurd q.2.2.2 (by decide)), xo7 7 (by omega), xo6 7 (by omega), xo5 7 (by omega), xo4 7 (by omega), xo3 7 (by omega), xo2 7 (by omega), eR1, hR.1.1.2.2.2.2.2.2.2, nI_1]
  have hC8 : KC Mc8 β L := hC.fr (fun κ hκ => by rw [hFG κ (by omega) (by omega)])
  obtain ⟨M9, t1, t2, t3, t4, t5, t6, t7⟩ := c_copyGot cT (hC8.1 5 (by decide))
  obtain ⟨M10, hM10⟩ : ∃ M10, M10 = uIw M9 0 0 0 3 (M9.1 0 0 0 3 + 1) := ⟨_, rfl⟩
  have k10' : ∀ κ, κ ≠ 0 → M10.1 κ = M9.1 κ := fun κ x => by rw [hM10, uI_k x]
  have k9 : ∀ κ, κ ≠ 0 → κ ≠ 4 → M9.1 κ = Mc8.1 κ := fun κ x y => t7.k1 (fun b => by omega)
  have b0 := hc.a_lt hm
  have b1 := en_le hf q2.1
  have b2 := en_le hf b1.2
  have b3 := en_le hf b2.2
  have b4 := en_le hf b3.2
  have b5 := en_le hf b4.2
  have b6 := en_le hf b5.2
  have b7 := en_le hf b6.2
  have b8 := en_le hf b7.2
  have b9 := en_le hf b8.2
  have b10 := en_le hf b9.2
  have b11 := en_le hf b10.2
  have b12 := en_le hf b11.2
  have b13 := en_le hf b12.2
  refine (fun (h : Lk S f M10 Mr8 (taB β v) L _) => ⟨M9, taB β v, L, _, ?_, ?_, by rw [← hM10]; exact h, by rw [taB_3]; exact ⟨Nat.succ_pos _, by omega⟩, Fc8.trans (t7.mono (fun κ b q => by omega))⟩) ⟨c8.fr (M' := M10) (by rw [k10' 15 (by decide), k9 15 (by decide) (by decide)]) (by rw [k10' 16 (by decide), k9 16 (by decide) (by decide)]), ?_, ?_, ⟨fun j hj => ?_, fun t ht j hj => ?_, fun t ht => ?_, fun t ht n hn => ?_, fun t ht n hn => ?_, fun w hw => ?_, fun i hi => ?_⟩, s8, ⟨⟨⟨?_, ?_, ?_, ?_, ?_, ?_, ?_, ?_⟩, fun t ht j hj => ?_, fun t ht n hn => ?_, fun w hw => ?_, fun i hi => ?_⟩, fun t ht => ?_⟩, hg.task hl cT (by omega) (by omega) (by omega) (by omega) (by omega) (by omega)⟩
  · rw [k10' 13 (by decide), k9 13 (by decide) (by decide), hFG 13 (by decide) (by decide)]; exact h132
  · rw [k10' 13 (by decide), k9 13 (by decide) (by decide), hFG 13 (by decide) (by decide)]; exact h133
  · rw [hM10, uI1]
    by_cases j3 : j = 3
    · rw [if_pos ⟨rfl, rfl, rfl, j3⟩, j3, taB_3, t3 3 (by decide), hC8.1 3 (by decide), nI_1]
    · rw [if_neg (fun q => j3 q.2.2.2)]
      by_cases j5 : j = 5
      · rw [j5, taB_5, t2]
      · rw [t3 j j5, hC8.1 j hj, taB_n (by omega)]
  · rw [taB_5] at ht
    rw [k10' 4 (by decide)]
    by_cases z : t = β 0 0 5
    · rw [z, t4 j hj, hgot j hj, taB_4 hj]
    · rw [t6 t z, taB_n (by omega)]
      exact hC8.2.1 t (by omega) j hj
  · rw [k10' 4 (by decide), taB_n (by omega)]
    by_cases z : t = β 0 0 5
    · rw [z, t5]; exact hC8.2.2.1 _ cT
    · rw [t6 t z]; exact hC8.2.2.1 t ht
  · rw [k10' 8 (by decide), k9 8 (by decide) (by decide), taB_n (by omega)]
    exact hC8.2.2.2.1 t ht n hn
  · rw [taB_5] at ht
    rw [taB_n (by omega)] at hn
    rw [k10' 6 (by decide), k9 6 (by decide) (by decide), taB_n (by omega)]
    by_cases z : t = β 0 0 5
    · have := hg.2.2.2.2.2.1 t (by omega)
      omega
    · exact hC8.2.2.2.2.1 t (by omega) n hn
  · rw [taB_n (by omega)] at hw
    rw [k10' 1 (by decide), k10' 2 (by decide), k9 1 (by decide) (by decide), k9 2 (by decide) (by decide), taB_n (by omega), taB_n (by omega)]
    exact hC8.2.2.2.2.2.1 w hw
  · rw [k10' 12 (by decide), k9 12 (by decide) (by decide)]
    exact hC8.2.2.2.2.2.2 i hi
  · rw [wo 0 (by decide) (by decide) (by omega), taB_n (by omega)]; exact hR.1.1.1
  · rw [wo 1 (by decide) (by decide) (by omega), taB_n (by omega)]; exact hR.1.1.2.1
  · rw [wo 2 (by decide) (by decide) (by omega), taB_n (by omega)]; exact hR.1.1.2.2.1
  · rw [wo 3 (by decide) (by decide) (by omega), taB_n (by omega)]; exact w3
  · rw [wT, taB_5]
  · rw [wo 5 (by decide) (by decide) (by omega), taB_n (by omega)]; exact hR.1.1.2.2.2.2.2.1
  · rw [wo 6 (by decide) (by decide) (by omega), taB_n (by omega)]; exact hR.1.1.2.2.2.2.2.2.1
  · rw [wL, taB_3]
  · rw [taB_5] at ht
    by_cases z : t = β 0 0 5
    · rw [z]
      by_cases z6 : j = 6
      · rw [z6, wo _ (by omega) (by omega) (by omega), taB_n (by omega)]
        exact hR.2 _ cT
      · rw [hfresh j (by omega), taB_4 (by omega)]
    · rw [wo _ (by omega) (by omega) (by omega), taB_n (by omega)]
      exact hR.1.2.1 t (by omega) j hj
  · rw [taB_5] at ht
    rw [taB_n (by omega)] at hn
    by_cases z : t = β 0 0 5
    · have := hg.2.2.2.2.2.1 t (by omega)
      omega
    · have h6 := (hg.2.2.2.2.1 t (by omega)).2.2.2.2.2.2.2.2
      rw [wo _ (by omega) (by omega) (by omega), wo _ (by omega) (by omega) (by omega), taB_n (by omega)]
      obtain ⟨x1, s, x2, x3, x4⟩ := hR.1.2.2.1 t (by omega) n hn
      exact ⟨x1, s, x2, x3, fun k => by rw [taB_n (by omega)]; exact x4 k⟩
  · rw [taB_n (by omega)] at hw
    rw [wo _ (by omega) (by omega) (by omega), taB_n (by omega)]
    exact hR.1.2.2.2.1 w hw
  · show L[i]? = some (Mr8.1 56 0 0 (106 + 5 * i + 0), Mr8.1 56 0 0 (106 + 5 * i + 1), Mr8.1 56 0 0 (106 + 5 * i + 2), Mr8.1 56 0 0 (106 + 5 * i + 3), Mr8.1 56 0 0 (106 + 5 * i + 4))
    rw [wo (106 + 5 * i + 0) (by omega) (by omega) (by omega), wo (106 + 5 * i + 1) (by omega) (by omega) (by omega), wo (106 + 5 * i + 2) (by omega) (by omega) (by omega), wo (106 + 5 * i + 3) (by omega) (by omega) (by omega), wo (106 + 5 * i + 4) (by omega) (by omega) (by omega)]
    exact hR.1.2.2.2.2 i hi
  · by_cases z : t = β 0 0 5
    · rw [wo _ (by omega) (by omega) (by omega), taB_n (by omega)]; exact hR.2 t ht
    · rw [wo _ (by omega) (by omega) (by omega), taB_n (by omega)]; exact hR.2 t ht
  · show (if inb (Mc8.1 0 0 0 5) 5 then (it (fun _ _ => none) (B_X1_readTask_148 ((Mc8.1 0 0 0 5).toNatClampNeg)) FU 0 Mc8) else none) = _
    rw [hC8.1 5 (by decide), if_pos (inb_nI cT (by omega)), clampI (by omega), t1]
  · omega
