/-! a node, both sides -/
def noB (β : Bw) (t n un set : Nat) : Bw := fun κ i j => if κ = 6 ∧ i = t ∧ j = n then un else if κ = 8 ∧ i = t then flB β t n set j else if κ = 4 ∧ i = t ∧ j = 6 then n + 1 else if κ = 0 ∧ i = 0 ∧ j = 3 then β 0 0 3 + 1 else β κ i j
theorem noB_n {β : Bw} {t n un set κ i j : Nat} (h : (κ ≠ 6 ∧ κ ≠ 8 ∧ κ ≠ 4 ∧ κ ≠ 0) ∨ ((κ = 6 ∨ κ = 8 ∨ κ = 4) ∧ i ≠ t) ∨ (κ = 6 ∧ j ≠ n) ∨ (κ = 4 ∧ j ≠ 6) ∨ (κ = 0 ∧ j ≠ 3)) : noB β t n un set κ i j = β κ i j := by
  unfold noB
  rw [if_neg (by omega), if_neg (by omega), if_neg (by omega), if_neg (by omega)]
theorem noB_3 {β : Bw} {t n un set : Nat} : noB β t n un set 0 0 3 = β 0 0 3 + 1 := by
  unfold noB
  rw [if_neg (by omega), if_neg (by omega), if_neg (by omega), if_pos ⟨rfl, rfl, rfl⟩]
theorem noB_6 {β : Bw} {t n un set : Nat} : noB β t n un set 6 t n = un := if_pos ⟨rfl, rfl, rfl⟩
theorem noB_8 {β : Bw} {t n un set j : Nat} : noB β t n un set 8 t j = flB β t n set j := by
  unfold noB
  rw [if_neg (by omega), if_pos ⟨rfl, rfl⟩]
theorem noB_46 {β : Bw} {t n un set : Nat} : noB β t n un set 4 t 6 = n + 1 := by
  unfold noB
  rw [if_neg (by omega), if_neg (by omega), if_pos ⟨rfl, rfl, rfl⟩]
theorem GBp.node {β : Bw} {L : Lw} (h : GBp β L) (hl : 0 < β 0 0 3) {t n un set : Nat} (ht : t < β 0 0 5) (hn : n = β 4 t 6) (hn6 : n < 6) (hu : 1 ≤ un ∧ un < 10) (hs : ∀ k, set.testBit k = true → k < n) : GBp (noB β t n un set) L := by
  obtain ⟨⟨a0, a1, a2, a3, a4, a5, a6, a7⟩, b, c, d, e, e2, g, i, j, k, l⟩ := h
  have x : ∀ j, j ≠ 3 → noB β t n un set 0 0 j = β 0 0 j := fun j hj => noB_n (by omega)
  have n1 : ∀ κ i j, κ ≠ 6 ∧ κ ≠ 8 ∧ κ ≠ 4 ∧ κ ≠ 0 → noB β t n un set κ i j = β κ i j := fun κ i j q => noB_n (Or.inl q)
  have n4 : ∀ t' j, j ≠ 6 → noB β t n un set 4 t' j = β 4 t' j := fun t' j q => noB_n (by omega)
  have hund : ∀ q w, und (noB β t n un set) q w = und β q w := fun q w => by
    unfold und
    rw [n1 1 _ _ (by decide), n1 1 _ _ (by decide)]
  have n46 : ∀ t', noB β t n un set 4 t' 6 = if t' = t then n + 1 else β 4 t' 6 := fun t' => by
    by_cases z : t' = t
    · rw [if_pos z, z, noB_46]
    · rw [if_neg z, noB_n (by omega)]
  unfold GBp
  rw [x 0 (by decide), x 1 (by decide), x 2 (by decide), x 4 (by decide), x 5 (by decide), x 6 (by decide), x 7 (by decide), noB_3]
  refine ⟨⟨a0, a1, a2, a3, a4, a5, a6, a7⟩, fun _ => b hl, fun q => by omega, d, fun t' ht' => ?_, fun t' ht' => ?_, fun t' n' ht' hn' => ?_, fun t' n' q hq => ?_, ⟨?_, fun w hw hw2 => ?_⟩, fun w hw => ?_, fun r hr => ?_⟩
  · rw [n4 t' 0 (by decide), n4 t' 1 (by decide), n4 t' 2 (by decide), n4 t' 3 (by decide), n4 t' 4 (by decide), n4 t' 5 (by decide), n46]
    have := e t' ht'
    by_cases z : t' = t
    · rw [if_pos z]; omega
    · rw [if_neg z]; exact this
  · rw [n46, if_neg (by omega)]; exact e2 t' ht'
  · rw [n46] at hn'
    by_cases z : t' = t
    · rw [if_pos z] at hn'
      rw [z]
      by_cases y : n' = n
      · rw [y, noB_6]; omega
      · rw [noB_n (by omega)]
        exact g t n' ht (by omega)
    · rw [if_neg z] at hn'
      rw [noB_n (by omega)]
      exact g t' n' ht' hn'
  · rw [n46]
    by_cases z : t' = t
    · rw [if_pos z]
      rw [z, noB_8] at hq
      unfold flB at hq
      by_cases y : set.testBit n' = true
      · rw [if_pos y, Nat.testBit_or, Nat.testBit_two_pow, Bool.or_eq_true] at hq
        rcases hq with q1 | q1
        · have := i t n' q q1
          omega
        · have := of_decide_eq_true q1
          have := hs n' y
          omega
      · rw [if_neg y] at hq
        have := i t n' q hq
        omega
    · rw [if_neg z]
      rw [noB_n (by omega)] at hq
      exact i t' n' q hq
  · rw [n1 1 _ _ (by decide)]; exact j.1
  · rw [n1 1 _ _ (by decide)]; exact j.2 w hw hw2
  · rw [n1 2 _ _ (by decide)]
    obtain ⟨k1, k2⟩ := k w hw
    exact ⟨k1, fun q => by rw [hund]; exact k2 q⟩
  · rcases l r hr with ⟨w, y, hw, hy, e'⟩ | ⟨t', j', m, ht', hj, hm1, hm2, e'⟩ | ⟨kd, t', j', n', m, hkd, ht', hj, hn', hm1, hm2, e'⟩
    · exact Or.inl ⟨w, y, by rw [x 4 (by decide)]; exact hw, hy, e'⟩
    · exact Or.inr (Or.inl ⟨t', j', m, by rw [x 5 (by decide)]; exact ht', hj, hm1, hm2, e'⟩)
    · refine Or.inr (Or.inr ⟨kd, t', j', n', m, hkd, by rw [x 5 (by decide)]; exact ht', hj, ?_, hm1, hm2, e'⟩)
      rw [n46]
      by_cases z : t' = t
      · rw [if_pos z]
        rw [z] at hn'
        omega
      · rw [if_neg z]; exact hn'
theorem r_131 {M : Mw} {t n : Nat} (ht : t < 5) (hn : n < 6) (un x : Int32) : B_X10_readNode_131 (nI t) (nI n) un x M = some (uIw (uIw (uIw M 56 0 0 (46 + 2 * (6 * t + n)) un) 56 0 0 (46 + 2 * (6 * t + n) + 1) x) 56 0 0 (11 + 7 * t + 6) (M.1 56 0 0 (11 + 7 * t + 6) + 1)) := by
  have e1 : (46 : Int32) + (2 * ((6 * nI t) + nI n)) = nI (46 + 2 * (6 * t + n)) := by
    rw [show (46 : Int32) = nI 46 from rfl, show (2 : Int32) = nI 2 from rfl, show (6 : Int32) = nI 6 from rfl, pk_mul, nI_add, pk_mul, nI_add]
  have e2 : ((11 : Int32) + (7 * nI t)) + 6 = nI (11 + 7 * t + 6) := by
    rw [show (11 : Int32) = nI 11 from rfl, show (7 : Int32) = nI 7 from rfl, show (6 : Int32) = nI 6 from rfl, pk_mul, nI_add, nI_add]
  unfold B_X10_readNode_131
  rw [e1, e2, nI_1, if_pos (inb_nI (by omega) (by omega)), bd_eq, if_pos (inb_nI (by omega) (by omega)), bd_eq, if_pos (inb_nI (by omega) (by omega)), if_pos (inb_nI (by omega) (by omega)), bd_eq, clampI (by omega), clampI (by omega), clampI (by omega)]
  rw [uI1 _ _ _ _ _ _ 56 0 0 (11 + 7 * t + 6), if_neg (fun q => by omega), uI1 _ _ _ _ _ _ 56 0 0 (11 + 7 * t + 6), if_neg (fun q => by omega)]
theorem ln_node {S a : Nat} {f : Nat → Nat} {Mc Mr : Mw} {β : Bw} {L : Lw} (hk : Lk S f Mc Mr β L a) (hl : 0 < β 0 0 3) (hla : β 0 0 3 ≤ a) (hm : kdP S f a ≠ 4) : LnO S f Mc Mr a (F_X1_readNode Mc) ((F_X10_readNode Mr).bind B_X10_readText_91) := by
  obtain ⟨hc, h132, h133, hC, hr, hR, hg⟩ := hk
  have hf := hc.2.1.2.1
  have hT5 := hg.1.2.2.2.2.1
  have e5 : Mc.1 0 0 0 5 = nI (β 0 0 5) := hC.1 5 (by decide)
  have w4 : Mr.1 56 0 0 4 = nI (β 0 0 5) := hR.1.1.2.2.2.2.1
  unfold F_X1_readNode F_X10_readNode
  rw [e5, w4, bd_eq, r_good1 hr.2.2.2.1, Option.bind_some, if_neg (show ¬ (1 : Int32) = 0 by decide)]
  by_cases cT : β 0 0 5 = 0
  · -- no task yet
    obtain ⟨Mc', q1, q2, q3⟩ := c_flaw (e := 1) hc
    have q1' : (F_X1_fail 1 Mc).bind (fun q => if bz q.1 then some (q.1, q.2) else none) = some (0, Mc') := q1
    obtain ⟨M', r1, r2, r3⟩ := r_errs (e := 1) hr (by omega) (by omega)
    have r1' : F_X10_errs 1 Mr = some M' := r1
    obtain ⟨M2, b1, b2, b3⟩ := bk_91 _ _ _ r2
    rw [if_neg (show ¬ (0 : Int32) ≤ nI (β 0 0 5) - 1 by rw [cT]; decide), q1', if_pos (show nI (β 0 0 5) = 0 by rw [cT]; rfl), r1', Option.bind_some]
    unfold B_X10_readNode_21
    rw [r_good0 r2.ne, Option.bind_some, if_pos rfl, Option.bind_some]
    exact Or.inr ⟨1, _, Mc', M2, rfl, q2, b1, b2, q3.mono (fun κ b q => by omega), r3.b.trans b3⟩
  obtain ⟨t, eT⟩ : ∃ t, β 0 0 5 = t + 1 := ⟨β 0 0 5 - 1, by omega⟩
  have ht : t < β 0 0 5 := by omega
  have hn6' := (hg.2.2.2.2.1 t ht).2.2.2.2.2.2.2.2
  have e46 : Mc.1 4 0 t 6 = nI (β 4 t 6) := hC.2.2.1 t (by omega)
  have w46 : Mr.1 56 0 0 (11 + 7 * t + 6) = nI (β 4 t 6) := hR.2 t (by omega)
  have et : nI (β 0 0 5) - 1 = nI t := by rw [eT, nI_pred]
  rw [et, if_pos (nI_pos' (by omega)), if_pos (inb_nI (by omega) (by omega)), clampI (by omega), e46, bd_eq, if_neg (nI_ne0 (by omega) (by omega))]
  unfold B_X10_readNode_21
  have e2 : ((11 : Int32) + (7 * nI t)) + 6 = nI (11 + 7 * t + 6) := by
    rw [show (11 : Int32) = nI 11 from rfl, show (7 : Int32) = nI 7 from rfl, show (6 : Int32) = nI 6 from rfl, pk_mul, nI_add, nI_add]
  rw [r_good1 hr.2.2.2.1, Option.bind_some, if_neg (show ¬ (1 : Int32) = 0 by decide), w4, et, bd_eq, e2]
  have hcan := r_can (idx := 11 + 7 * t + 6) (most := nI 6) hr (by omega)
  generalize hnd : β 4 t 6 = n at hn6' e46 w46 hcan
  by_cases c6 : n < 6
  case neg =>
    have e6 : n = 6 := by omega
    rcases hcan with ⟨c, M', r1, r2, r3⟩ | ⟨c, -⟩
    · have r1' : F_X10_canTake (nI (11 + 7 * t + 6)) 6 Mr = some (0, M') := r1
      obtain ⟨Mc', q1, q2, q3⟩ := c_flaw (e := 3) hc
      have q1' : (F_X1_fail 3 Mc).bind (fun q => if bz q.1 then some (q.1, q.2) else none) = some (0, Mc') := q1
      obtain ⟨M2, b1, b2, b3⟩ := bk_91 _ _ _ r2
      rw [if_neg (show ¬ nI n < 6 from nI_nlt (b := 6) (by omega) (by omega)), q1', r1', Option.bind_some, if_pos rfl, Option.bind_some]
      exact Or.inr ⟨3, _, Mc', M2, rfl, q2, b1, b2, q3.mono (fun κ b q => by omega), r3.b.trans b3⟩
    · exact absurd (by rw [w46, e6]) c
  rcases hcan with ⟨c, -⟩ | ⟨-, Mr1, r1, r2, r3⟩
  · rw [w46] at c
    have := (nI_eq (by omega) (by omega)).mp c
    omega
  have r1' : F_X10_canTake (nI (11 + 7 * t + 6)) 6 Mr = some (1, Mr1) := r1
  have eR1 : Mr1.1 56 = Mr.1 56 := r3.1.k1 (fun b => by omega)
  obtain ⟨Mc1, q1, q2, q3⟩ := hc.adv
  rw [if_pos (show nI n < 6 from nI_lt (b := 6) c6 (by omega)), q1, Option.bind_some, r1', Option.bind_some, if_neg (show ¬ (1 : Int32) = 0 by decide), if_pos (inb_nI (by omega) (by omega)), clampI (by omega)]
  show LnO S f Mc Mr a _ (Option.bind (bd (Mr1.1 56 0 0 (11 + 7 * t + 6)) (fun v12 => ((F_X10_takes 1 9 Mr1).bind (fun q13 => (bd q13.1 (fun v15 => (if v12 ≤ 0 then (B_X10_readNode_131 (nI t) v12 v15 0 q13.2) else ((F_X10_expects 0 q13.2).bind (fun M24 => (it (fun _ _ => none) (B_X10_readNode_96 (nI t) v12 v15) FU 0 M24)))))))))) B_X10_readText_91)
  rw [eR1, w46, bd_eq, Option.bind_assoc]
  have hF1 : Fr SC Mc Mc1 := q3.mono (fun κ b q => by omega)
  have ha := hc.a_lt hm
  -- behind the line's end, bad
  have kbad : ∀ (x y : Int32) (e pl : Nat) (M : Mw), RF M e pl → ∃ M', (B_X10_readNode_131 (nI t) (nI n) x y M).bind B_X10_readText_91 = some M' ∧ RF M' e pl ∧ OB M M' := by
    intro x y e pl M h
    rw [r_131 (by omega) c6, Option.bind_some]
    obtain ⟨M', b1, b2, b3⟩ := bk_91 e pl _ (((h.fr (M' := uIw M 56 0 0 (46 + 2 * (6 * t + n)) x) (uI_k (by decide))).fr (M' := uIw (uIw M 56 0 0 (46 + 2 * (6 * t + n)) x) 56 0 0 (46 + 2 * (6 * t + n) + 1) y) (uI_k (by decide))).fr (M' := uIw (uIw (uIw M 56 0 0 (46 + 2 * (6 * t + n)) x) 56 0 0 (46 + 2 * (6 * t + n) + 1) y) 56 0 0 (11 + 7 * t + 6) (M.1 56 0 0 (11 + 7 * t + 6) + 1)) (uI_k (by decide)))
    exact ⟨M', b1, b2, ((OB.u.trans OB.u).trans OB.u).trans b3⟩
  have kbad2 : ∀ (un : Int32) (e pl : Nat) (M : Mw), RF M e pl → ∃ M', (it (fun _ _ => none) (B_X10_readNode_96 (nI t) (nI n) un) FU 0 M).bind B_X10_readText_91 = some M' ∧ RF M' e pl ∧ OB M M' := by
    intro un e pl M h
    rw [it_FU]
    generalize it (fun _ _ => none) (B_X10_readNode_96 (nI t) (nI n) un) 999999 = kr
    have htn : F_X10_takesNew 0 (nI n - 1) M = some (0, M) := by
      unfold F_X10_takesNew
      rw [r_good0 h.ne, Option.bind_some, if_pos rfl, r_takesBad h, Option.bind_some]
    unfold B_X10_readNode_96
    rw [htn, Option.bind_some, bd_eq, bd_eq, r_good0 h.ne, Option.bind_some, if_pos rfl]
    exact kbad _ _ e pl M h
  have it5 : inb (nI t) 5 = true := inb_nI (by omega) (by omega)
  have in6 : inb (nI n) 6 = true := inb_nI c6 (by omega)
  have ct : (nI t).toNatClampNeg = t := clampI (by omega)
  have cn : (nI n).toNatClampNeg = n := clampI (by omega)
  -- the line's end, good
  have kend : ∀ (X Mc4 Mr4 : Mw) (a4 un set : Nat), (∀ κ, κ ≠ 14 → κ ≠ 15 → X.1 κ = Mc.1 κ) → Fr SC Mc X → CS Mc4 S f a4 → RS Mr4 S f a4 → Mc4.1 14 0 0 0 = nI un → 1 ≤ un → un < 10 → (∀ k, set.testBit k = true → k < n) → enP S f a ≤ a4 → KF X Mc4 β t n set → Mr4.1 56 = Mr.1 56 → OB Mr Mr4 →
      LnO S f Mc Mr a (B_X1_readNode_76 (nI t) (nI n) Mc4) ((B_X10_readNode_131 (nI t) (nI n) (nI un) (nI set) Mr4).bind B_X10_readText_91) := by
    intro X Mc4 Mr4 a4 un set hX FX c4 s4 g0 hu1 hu2 hs hle hKF e56 Fr4
    obtain ⟨kf1, kf2, kf3, kf4⟩ := hKF
    have Fc4 : Fr SC Mc Mc4 := FX.trans (kf3.mono (fun κ b q => by omega))
    rw [r_131 (by omega) c6, Option.bind_some]
    unfold B_X1_readNode_76
    refine lk_end c4 (s4.u.u.u) Fc4 (((Fr4.trans OB.u).trans OB.u).trans OB.u) ?_
    intro Mc5 Mr5 c5 s5 F5 y7 yo Fc5 Fr5
    have g5 : Mc5.1 14 0 0 0 = nI un := by rw [F5.k1 (fun b => by omega), g0]
    have hFG : ∀ κ, κ ≠ 14 → κ ≠ 15 → κ ≠ 8 → Mc5.1 κ = Mc.1 κ := fun κ x y z => by rw [F5.k1 (fun b => y), kf3.k1 (fun b => by omega), hX κ x y]
    have h8 : Mc5.1 8 = Mc4.1 8 := F5.k1 (fun b => by omega)
    have h81 : X.1 8 = Mc.1 8 := hX 8 (by decide) (by decide)
    obtain ⟨M6, hM6⟩ : ∃ M6, M6 = uIw (uIw Mc5 6 0 t n (nI un)) 4 0 t 6 (nI (n + 1)) := ⟨_, rfl⟩
    obtain ⟨M7, hM7⟩ : ∃ M7, M7 = uIw M6 0 0 0 3 (M6.1 0 0 0 3 + 1) := ⟨_, rfl⟩
    have k7 : ∀ κ, κ ≠ 0 → M7.1 κ = M6.1 κ := fun κ x => by rw [hM7, uI_k x]
    have k6 : ∀ κ, κ ≠ 6 → κ ≠ 4 → M6.1 κ = Mc5.1 κ := fun κ x y => by rw [hM6, uI_k y, uI_k x]
    have e46' : Mc5.1 4 0 t 6 = nI n := by rw [hFG 4 (by decide) (by decide) (by decide), e46]
    have wo : ∀ j, j ≠ 7 → j ≠ 46 + 2 * (6 * t + n) → j ≠ 46 + 2 * (6 * t + n) + 1 → j ≠ 11 + 7 * t + 6 → Mr5.1 56 0 0 j = Mr.1 56 0 0 j := fun j j7 j1 j2 j3 => by
      rw [yo j j7, uI1, if_neg (fun q => j3 q.2.2.2), uI1, if_neg (fun q => j2 q.2.2.2), uI1, if_neg (fun q => j1 q.2.2.2), e56]
    obtain ⟨⟨v0, v1, v2, v3, v4, v5, v6, v7⟩, vt, vn, vw, vi⟩ := hR.1
    have hset := bits_lt (n := n) (by omega) hs
    have n46 : ∀ t', noB β t n un set 4 t' 6 = if t' = t then n + 1 else β 4 t' 6 := fun t' => by
      by_cases z : t' = t
      · rw [if_pos z, z, noB_46]
      · rw [if_neg z, noB_n (by omega)]
    refine (fun (h : Lk S f M7 Mr5 (noB β t n un set) L _) => ⟨M6, noB β t n un set, L, _, ?_, ?_, by rw [← hM7]; exact h, by rw [noB_3]; exact ⟨Nat.succ_pos _, by have q2 := en_le hf c4.1; omega⟩, ?_⟩) ⟨c5.fr (by rw [k7 15 (by decide), k6 15 (by decide) (by decide)]) (by rw [k7 16 (by decide), k6 16 (by decide) (by decide)]), ?_, ?_, ⟨fun j hj => ?_, fun t' ht' j hj => ?_, fun t' ht' => ?_, fun t' ht' n' hn' => ?_, fun t' ht' n' hn' => ?_, fun w hw => ?_, fun i hi => ?_⟩, s5, ⟨⟨⟨?_, ?_, ?_, ?_, ?_, ?_, ?_, ?_⟩, fun t' ht' j hj => ?_, fun t' ht' n' hn' => ?_, fun w hw => ?_, fun i hi => ?_⟩, fun t' ht' => ?_⟩, hg.node hl ht hnd.symm c6 ⟨hu1, hu2⟩ hs⟩
    · rw [k7 13 (by decide), k6 13 (by decide) (by decide), hFG 13 (by decide) (by decide) (by decide)]; exact h132
    · rw [k7 13 (by decide), k6 13 (by decide) (by decide), hFG 13 (by decide) (by decide) (by decide)]; exact h133
    · rw [hM7, uI1]
      by_cases j3 : j = 3
      · rw [if_pos ⟨rfl, rfl, rfl, j3⟩, j3, noB_3, k6 0 (by decide) (by decide), hFG 0 (by decide) (by decide) (by decide), hC.1 3 (by decide), nI_1]
      · rw [if_neg (fun q => j3 q.2.2.2), k6 0 (by decide) (by decide), hFG 0 (by decide) (by decide) (by decide), hC.1 j hj, noB_n (by omega)]
    · rw [noB_n (by omega)] at ht'
      rw [k7 4 (by decide), hM6, uI1, if_neg (fun q => by omega), uI_k (by decide), hFG 4 (by decide) (by decide) (by decide), noB_n (by omega)]
      exact hC.2.1 t' ht' j hj
    · rw [k7 4 (by decide), hM6, uI1, n46]
      by_cases z : t' = t
      · rw [if_pos ⟨rfl, rfl, z, rfl⟩, if_pos z]
      · rw [if_neg (fun q => z q.2.2.1), if_neg z, uI_k (by decide), hFG 4 (by decide) (by decide) (by decide)]
        exact hC.2.2.1 t' ht'
    · rw [k7 8 (by decide), k6 8 (by decide) (by decide), h8]
      by_cases z : t' = t
      · rw [z, noB_8]
        exact kf1 n' hn'
      · rw [kf2 t' z, h81, noB_n (by omega)]
        exact hC.2.2.2.1 t' ht' n' hn'
    · rw [noB_n (by omega)] at ht'
      rw [n46] at hn'
      rw [k7 6 (by decide), hM6, uI_k (by decide), uI1]
      by_cases z : t' = t
      · by_cases y : n' = n
        · rw [if_pos ⟨rfl, rfl, z, y⟩, z, y, noB_6]
        · rw [if_pos z] at hn'
          rw [if_neg (fun q => y q.2.2.2), hFG 6 (by decide) (by decide) (by decide), noB_n (by omega)]
          exact hC.2.2.2.2.1 t' ht' n' (by rw [z]; omega)
      · rw [if_neg z] at hn'
        rw [if_neg (fun q => z q.2.2.1), hFG 6 (by decide) (by decide) (by decide), noB_n (by omega)]
        exact hC.2.2.2.2.1 t' ht' n' hn'
    · rw [noB_n (by omega)] at hw
      rw [k7 1 (by decide), k7 2 (by decide), k6 1 (by decide) (by decide), k6 2 (by decide) (by decide), hFG 1 (by decide) (by decide) (by decide), hFG 2 (by decide) (by decide) (by decide), noB_n (by omega), noB_n (by omega)]
      exact hC.2.2.2.2.2.1 w hw
    · rw [k7 12 (by decide), k6 12 (by decide) (by decide), hFG 12 (by decide) (by decide) (by decide)]
      exact hC.2.2.2.2.2.2 i hi
    · rw [wo 0 (by omega) (by omega) (by omega) (by omega), noB_n (by omega)]; exact v0
    · rw [wo 1 (by omega) (by omega) (by omega) (by omega), noB_n (by omega)]; exact v1
    · rw [wo 2 (by omega) (by omega) (by omega) (by omega), noB_n (by omega)]; exact v2
    · rw [wo 3 (by omega) (by omega) (by omega) (by omega), noB_n (by omega)]; exact v3
    · rw [wo 4 (by omega) (by omega) (by omega) (by omega), noB_n (by omega)]; exact v4
    · rw [wo 5 (by omega) (by omega) (by omega) (by omega), noB_n (by omega)]; exact v5
    · rw [wo 6 (by omega) (by omega) (by omega) (by omega), noB_n (by omega)]; exact v6
    · rw [y7, uI1, if_neg (fun q => by omega), uI1, if_neg (fun q => by omega), uI1, if_neg (fun q => by omega), e56, v7, noB_3, nI_1]
    · rw [noB_n (by omega)] at ht'
      by_cases z6 : j = 6
      · rw [z6, n46]
        by_cases z : t' = t
        · rw [if_pos z, z, yo _ (by omega), uI1, if_pos ⟨rfl, rfl, rfl, rfl⟩, e56, w46, nI_1]
        · rw [if_neg z, wo _ (by omega) (by omega) (by omega) (by omega)]
          exact vt t' ht' 6 (by omega)
      · rw [wo _ (by omega) (by omega) (by omega) (by omega), noB_n (by omega)]
        exact vt t' ht' j hj
    · rw [noB_n (by omega)] at ht'
      rw [n46] at hn'
      by_cases z : t' = t
      · rw [if_pos z] at hn'
        rw [z]
        by_cases y : n' = n
        · rw [y, noB_6]
          refine ⟨?_, set, hset, ?_, fun k => ?_⟩
          · rw [yo _ (by omega), uI1, if_neg (fun q => by omega), uI1, if_neg (fun q => by omega), uI1, if_pos ⟨rfl, rfl, rfl, rfl⟩]
          · rw [yo _ (by omega), uI1, if_neg (fun q => by omega), uI1, if_pos ⟨rfl, rfl, rfl, rfl⟩]
          · rw [noB_8, (flB_lt hg hnd.symm c6).2]
            cases hb : set.testBit k with
            | false => exact (decide_eq_false (fun q => by have := q.2; cases this)).symm
            | true => exact (decide_eq_true ⟨hs k hb, rfl⟩).symm
        · rw [wo _ (by omega) (by omega) (by omega) (by omega), wo _ (by omega) (by omega) (by omega) (by omega), noB_n (by omega)]
          obtain ⟨x1, s, x2, x3, x4⟩ := vn t ht n' (by omega)
          refine ⟨x1, s, x2, x3, fun k => ?_⟩
          rw [x4 k, noB_8]
          have hb : (flB β t n set k).testBit n' = (β 8 t k).testBit n' := by
            unfold flB
            by_cases w : set.testBit k = true
            · rw [if_pos w, Nat.testBit_or, Nat.testBit_two_pow, decide_eq_false (fun q => y q.symm), Bool.or_false]
            · rw [if_neg w]
          rw [hb]
      · rw [if_neg z] at hn'
        have h6 := (hg.2.2.2.2.1 t' ht').2.2.2.2.2.2.2.2
        rw [wo _ (by omega) (by omega) (by omega) (by omega), wo _ (by omega) (by omega) (by omega) (by omega), noB_n (by omega)]
        obtain ⟨x1, s, x2, x3, x4⟩ := vn t' ht' n' hn'
        exact ⟨x1, s, x2, x3, fun k => by rw [noB_n (by omega)]; exact x4 k⟩
    · rw [noB_n (by omega)] at hw
      have hW3 := hg.1.2.2.2.1
      rw [wo _ (by omega) (by omega) (by omega) (by omega), noB_n (by omega)]
      exact vw w hw
    · show L[i]? = some (Mr5.1 56 0 0 (106 + 5 * i + 0), Mr5.1 56 0 0 (106 + 5 * i + 1), Mr5.1 56 0 0 (106 + 5 * i + 2), Mr5.1 56 0 0 (106 + 5 * i + 3), Mr5.1 56 0 0 (106 + 5 * i + 4))
      rw [wo (106 + 5 * i + 0) (by omega) (by omega) (by omega) (by omega), wo (106 + 5 * i + 1) (by omega) (by omega) (by omega) (by omega), wo (106 + 5 * i + 2) (by omega) (by omega) (by omega) (by omega), wo (106 + 5 * i + 3) (by omega) (by omega) (by omega) (by omega), wo (106 + 5 * i + 4) (by omega) (by omega) (by omega) (by omega)]
      exact vi i hi
    · rw [n46]
      by_cases z : t' = t
      · rw [if_pos z, z, yo _ (by omega), uI1, if_pos ⟨rfl, rfl, rfl, rfl⟩, e56, w46, nI_1]
      · rw [if_neg z, wo _ (by omega) (by omega) (by omega) (by omega)]
        exact hR.2 t' ht'
    · show (if inb (nI t) 5 then (if inb (nI n) 6 then (bd (uIw Mc5 6 0 (nI t).toNatClampNeg (nI n).toNatClampNeg (Mc5.1 14 0 0 0)) (fun M16 => (if inb (nI t) 5 then (bd (uIw M16 4 0 (nI t).toNatClampNeg 6 ((M16.1 4 0 (nI t).toNatClampNeg 6) + 1)) (fun M19 => some ((1 : Int32), M19))) else none))) else none) else none) = _
      have x46 : (uIw Mc5 6 0 t n (nI un)).1 4 0 t 6 = nI n := by rw [uI_k (by decide), e46']
      rw [if_pos it5, if_pos in6, ct, cn, g5, bd_eq, if_pos it5, x46, nI_1, bd_eq, ← hM6]
    · have b1 := en_le hf c4.1
      omega
    · rw [hM6]
      exact (Fc5.trans (Fr.uI (S := SC) (Or.inr (Or.inr (Or.inr ⟨by decide, rfl⟩))))).trans (Fr.uI (S := SC) (Or.inr (Or.inr (Or.inr ⟨by decide, rfl⟩))))
  have hC1 : KC Mc1 β L := hC.fr (fun κ hκ => by rw [q3.k1 (fun b => by omega)])
  -- the units
  rcases c_num q2 (lo := 1) (n := 10) (slot := 0) (hi := 9) (by omega) (by omega) (by omega) (by decide) with ⟨c, Mc2, p1, p2, p3, p4, p5⟩ | ⟨c, Mc2, p1, p2, p3⟩
  case inr =>
    rcases r_takes r2 (lo := 1) (n := 10) (hi := 9) (by omega) (by omega) (by decide) with ⟨c2, -⟩ | ⟨-, Mr2, m1, m2, m3⟩
    · exact absurd c2 c
    have p1' : F_X1_readNumber 1 9 0 Mc1 = some (0, Mc2) := p1
    have m1' : F_X10_takes 1 9 Mr1 = some (0, Mr2) := m1
    rw [p1', m1', Option.bind_some, Option.bind_some, if_pos rfl, bd_eq]
    by_cases c0 : n = 0
    · rw [if_pos (show nI n ≤ 0 by rw [c0]; decide)]
      obtain ⟨M', b1, b2, b3⟩ := kbad 0 0 _ _ Mr2 m2
      exact Or.inr ⟨_, _, Mc2, M', rfl, p2, b1, b2, hF1.trans (p3.mono (fun κ b q => by omega)), (r3.b.trans m3.b).trans b3⟩
    · rw [if_neg (nI_nle (by omega) (by omega)), r_expectsBad (by decide) m2, Option.bind_some]
      obtain ⟨M', b1, b2, b3⟩ := kbad2 0 _ _ Mr2 m2
      exact Or.inr ⟨_, _, Mc2, M', rfl, p2, b1, b2, hF1.trans (p3.mono (fun κ b q => by omega)), (r3.b.trans m3.b).trans b3⟩
  rcases r_takes r2 (lo := 1) (n := 10) (hi := 9) (by omega) (by omega) (by decide) with ⟨-, Mr2, m1, m2, m3⟩ | ⟨c2, -⟩
  case inr => exact absurd c c2
  obtain ⟨hu1, hu2⟩ := nE_0 c
  have p1' : F_X1_readNumber 1 9 0 Mc1 = some (1, Mc2) := p1
  have m1' : F_X10_takes 1 9 Mr1 = some (nI (vlP S f (enP S f a)), Mr2) := m1
  rw [p1', m1', Option.bind_some, Option.bind_some, if_neg (show ¬ (1 : Int32) = 0 by decide), bd_eq]
  generalize vlP S f (enP S f a) = un at hu1 hu2 p3
  have eR2 : Mr2.1 56 = Mr.1 56 := by rw [m3.1.k1 (fun b => by omega), eR1]
  have hX2 : ∀ κ, κ ≠ 14 → κ ≠ 15 → Mc2.1 κ = Mc.1 κ := fun κ x y => by rw [p5.k1 (fun b => by omega), q3.k1 (fun b => y)]
  have hF2 : Fr SC Mc Mc2 := hF1.trans (p5.mono (fun κ b q => by omega))
  have hKF0 : ∀ M : Mw, (∀ κ, κ ≠ 14 → κ ≠ 15 → M.1 κ = Mc.1 κ) → KF M M β t n 0 := by
    intro M hM
    refine ⟨fun k hk => ?_, fun t' _ => rfl, Fr.rfl, rfl⟩
    have e0 : flB β t n 0 k = β 8 t k := by
      unfold flB
      rw [if_neg (by rw [Nat.zero_testBit]; decide)]
    rw [e0, hM 8 (by decide) (by decide)]
    exact hC.2.2.2.1 t (by omega) k hk
  by_cases c0 : n = 0
  · rw [if_pos (show nI n ≤ 0 by rw [c0]; decide), if_pos (show nI n ≤ 0 by rw [c0]; decide)]
    have en := (en_le hf q2.1).1
    exact kend Mc2 Mc2 Mr2 _ un 0 hX2 hF2 p2 m2 p3 hu1 hu2 (fun k hk => by rw [Nat.zero_testBit] at hk; cases hk) en (hKF0 Mc2 hX2) eR2 (r3.b.trans m3.b)
  rw [if_neg (nI_nle (by omega) (by omega)), if_neg (nI_nle (by omega) (by omega)), Option.bind_assoc]
  show LnO S f Mc Mr a ((F_X1_readFlow (nI t) (nI n) Mc2).bind _) _
  unfold F_X1_readFlow
  rcases c_word p2 (t := 0) (by decide) with ⟨c3, Mc3, y1, y2, y3⟩ | ⟨c3, Mc3, y1, y2, y3⟩
  case inr =>
    rcases r_expects m2 (t := 0) (by decide) with ⟨c4, -⟩ | ⟨-, Mr3, z1, z2, z3⟩
    · exact absurd c4 c3
    rw [y1, z1, Option.bind_some, Option.bind_some, if_pos rfl, Option.bind_some, if_pos rfl]
    obtain ⟨M', b1, b2, b3⟩ := kbad2 (nI un) _ _ Mr3 z2
    exact Or.inr ⟨_, _, Mc3, M', rfl, y2, b1, b2, hF2.trans (y3.mono (fun κ b q => by omega)), ((r3.b.trans m3.b).trans z3.b).trans b3⟩
  rcases r_expects m2 (t := 0) (by decide) with ⟨-, Mr3, z1, z2, z3⟩ | ⟨c4, -⟩
  case inr => exact absurd c3 c4
  rw [y1, z1, Option.bind_some, Option.bind_some, if_neg (show ¬ (1 : Int32) = 0 by decide)]
  have hX3 : ∀ κ, κ ≠ 14 → κ ≠ 15 → Mc3.1 κ = Mc.1 κ := fun κ x y => by rw [y3.k1 (fun b => y), hX2 κ x y]
  have hF3 : Fr SC Mc Mc3 := hF2.trans (y3.mono (fun κ b q => by omega))
  have hC3 : KC Mc3 β L := hC.fr (fun κ hκ => by rw [hX3 κ (by omega) (by omega)])
  have eR3 : Mr3.1 56 = Mr.1 56 := by rw [z3.1.k1 (fun b => by omega), eR2]
  have hb0 : bcn 0 n = 0 := by
    have := sm_le (f := fun k => if (0 : Nat).testBit k = true then 1 else 0) (c := 0) (n := n) (fun j _ => by
      show (if (0 : Nat).testBit j = true then 1 else 0) ≤ 0
      rw [if_neg (by rw [Nat.zero_testBit]; decide)]
      exact Nat.le_refl 0)
    unfold bcn
    omega
  have hS := hc.2.1.1
  have hflow := lk_flow (un := nI un) hC3 hg ht hnd.symm c6 Mr S FU FU _ 0 Mc3 Mr3 (by omega) (by unfold FU; omega) (by unfold FU; omega) y2 z2 ((r3.b.trans m3.b).trans z3.b) (hKF0 Mc3 hX3) (fun k hk => by rw [Nat.zero_testBit] at hk; cases hk) (Or.inl hb0)
  rw [hb0, nI_0] at hflow
  have g03 : Mc3.1 14 0 0 0 = nI un := by rw [y3.k1 (fun b => by omega), p3]
  show LnO S f Mc Mr a (Option.bind (it (fun _ _ => none) (B_X1_readFlow_13 (nI t) (nI n)) FU 0 Mc3) _) (Option.bind (it (fun _ _ => none) (B_X10_readNode_96 (nI t) (nI n) (nI un)) FU 0 Mr3) _)
  have en1 := (en_le hf q2.1).1
  have en2 := (en_le hf p2.1).1
  rcases hflow with ⟨set', a', Mc4, Mr4, x1, x2, x3, x4, x5, x6, x7, x8, x9⟩ | ⟨e, pl, x, Mc4, Mr4, x1, x2, x3, x4, x5, x6⟩
  · rw [x1, x2, Option.bind_some, if_neg (show ¬ (1 : Int32) = 0 by decide)]
    exact kend Mc3 Mc4 Mr4 a' un set' hX3 hF3 x3 x4 (by rw [x8.2.2.2, g03]) hu1 hu2 x9 (by omega) x8 (by rw [x7, eR3]) x6
  · rw [x1, x2, Option.bind_some, if_pos rfl]
    obtain ⟨M', b1, b2, b3⟩ := kbad _ _ _ _ Mr4 x4
    exact Or.inr ⟨_, _, Mc4, M', rfl, x3, b1, b2, hF3.trans x6, x5.trans b3⟩
