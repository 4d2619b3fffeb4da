/-! THE LINE OF A WATCHER -/
theorem lk_pairQ {S a0 a t lo n slot : Nat} {f : Nat → Nat} {hi hi' lo' : Int32} {Mc0 Mr0 Mc Mr : Mw} {kc : Int32 × Mw → Option (Int32 × Mw)} {kr : Int32 × Mw → Option Mw} (ht : t < 24) (hlo : lo ≤ 1000) (hn : n ≤ 1000) (hs : slot < 6) (hh : hi = nI n + (-1)) (hh' : hi' = nI n + (-1)) (hl' : lo' = nI lo) (hc : CS Mc S f a) (hr : RS Mr S f a) (hFc : Fr SC Mc0 Mc) (hFr : OB Mr0 Mr) (bad : BK (fun M => kr (0, M)))
    (good : ∀ Mc' Mr', lo ≤ vlP S f (enP S f a) → vlP S f (enP S f a) < n → CS Mc' S f (enP S f (enP S f a)) → RS Mr' S f (enP S f (enP S f a)) → Mc'.1 14 0 0 slot = nI (vlP S f (enP S f a)) → (∀ j, j ≠ slot → Mc'.1 14 0 0 j = Mc.1 14 0 0 j) → O5 Mr Mr' → Fr FG Mc Mc' → Fr SC Mc0 Mc' → OB Mr0 Mr' → LnO S f Mc0 Mr0 a0 (kc (1, Mc')) (kr (nI (vlP S f (enP S f a)), Mr'))) :
    LnO S f Mc0 Mr0 a0 ((F_X1_readPair t (nI lo) hi (nI slot) Mc).bind (fun q => if q.1 = 0 then some (0, q.2) else kc q)) ((F_X10_toldBy t lo' hi' Mr).bind kr) := by
  rw [hl']
  rcases c_pair hc ht hlo hn hs hh with ⟨c, Mc', q1, q2, q3, q4, q5⟩ | ⟨c, Mc', q1, q2, q3⟩
  · rcases r_toldBy hr ht hlo hn hh' with ⟨-, Mr', r1, r2, r3⟩ | ⟨c2, -⟩
    · obtain ⟨p1, p2⟩ := pR_0 c
      rw [q1, r1, Option.bind_some, Option.bind_some, if_neg (show ¬ (1 : Int32) = 0 by decide)]
      exact good Mc' Mr' p1 p2 q2 r2 q3 q4 r3 q5 (hFc.trans (q5.mono (fun κ b q => by omega))) (hFr.trans r3.b)
    · exact absurd c c2
  · rcases r_toldBy hr ht hlo hn hh' with ⟨c2, -⟩ | ⟨-, Mr', r1, r2, r3⟩
    · exact absurd c2 c
    · right
      obtain ⟨M', b1, b2, b3⟩ := bad _ _ _ r2
      rw [q1, r1, Option.bind_some, Option.bind_some, if_pos rfl]
      exact ⟨_, _, Mc', M', rfl, q2, b1, b2, hFc.trans (q3.mono (fun κ b q => by omega)), (hFr.trans r3.b).trans b3⟩
theorem r_can {M : Mw} {S a idx : Nat} {f : Nat → Nat} {most : Int32} (h : RS M S f a) (hi : idx < 201) :
    (M.1 56 0 0 idx = most ∧ ∃ M', F_X10_canTake (nI idx) most M = some (0, M') ∧ RF M' 3 (frP S f a) ∧ O5 M M') ∨
    (M.1 56 0 0 idx ≠ most ∧ ∃ M', F_X10_canTake (nI idx) most M = some (1, M') ∧ RS M' S f (enP S f a) ∧ O5 M M') := by
  unfold F_X10_canTake
  rw [r_good1 h.2.2.2.1, Option.bind_some, if_neg (show ¬ (1 : Int32) = 0 by decide), if_pos (inb_nI hi (by omega)), clampI (by omega)]
  by_cases c : M.1 56 0 0 idx = most
  · left
    obtain ⟨M', q1, q2, q3⟩ := r_errs (e := 3) h (by omega) (by omega)
    have q1' : F_X10_errs 3 M = some M' := q1
    rw [if_pos c, q1', Option.bind_some]
    unfold B_X10_canTake_22
    rw [r_good0 q2.ne, Option.bind_some, if_pos rfl, Option.bind_some, if_pos (show bz 0 = true by decide)]
    exact ⟨c, M', rfl, q2, q3⟩
  · right
    obtain ⟨M', q1, q2, q3⟩ := h.adv
    rw [if_neg c]
    unfold B_X10_canTake_22
    rw [r_good1 h.2.2.2.1, Option.bind_some, if_neg (show ¬ (1 : Int32) = 0 by decide), q1, Option.bind_some, r_good1 q2.2.2.2.1, Option.bind_some, if_pos (show bz 1 = true by decide)]
    exact ⟨c, M', rfl, q2, q3⟩
theorem nI_m (n : Nat) : nI n - 1 = nI n + (-1) := Int32.sub_eq_add_neg ..
def bwN (β : Bw) (u W w : Nat) : Nat := if w = W then 2 ^ W else if u ≠ 0 ∧ (β 2 0 w).testBit (u - 1) = true then β 2 0 w ||| 2 ^ W else β 2 0 w
def waB (β : Bw) (u : Nat) : Bw := fun κ i j => if κ = 1 ∧ i = 0 ∧ j = β 0 0 4 then u else if κ = 2 ∧ i = 0 ∧ j ≤ β 0 0 4 then bwN β u (β 0 0 4) j else if κ = 0 ∧ i = 0 ∧ j = 4 then β 0 0 4 + 1 else if κ = 0 ∧ i = 0 ∧ j = 3 then β 0 0 3 + 1 else β κ i j
theorem waB_n {β : Bw} {u κ i j : Nat} (h : 2 < κ ∨ (κ = 0 ∧ j ≠ 3 ∧ j ≠ 4)) : waB β u κ i j = β κ i j := by
  unfold waB
  rw [if_neg (by omega), if_neg (by omega), if_neg (by omega), if_neg (by omega)]
theorem waB_4 {β : Bw} {u : Nat} : waB β u 0 0 4 = β 0 0 4 + 1 := by
  unfold waB
  rw [if_neg (by omega), if_neg (by omega), if_pos ⟨rfl, rfl, rfl⟩]
theorem waB_3 {β : Bw} {u : Nat} : waB β u 0 0 3 = β 0 0 3 + 1 := by
  unfold waB
  rw [if_neg (by omega), if_neg (by omega), if_neg (by omega), if_pos ⟨rfl, rfl, rfl⟩]
theorem waB_1 {β : Bw} {u w : Nat} : waB β u 1 0 w = if w = β 0 0 4 then u else β 1 0 w := by
  unfold waB
  by_cases c : w = β 0 0 4
  · rw [if_pos ⟨rfl, rfl, c⟩, if_pos c]
  · rw [if_neg (fun q => c q.2.2), if_neg (by omega), if_neg (by omega), if_neg (by omega), if_neg c]
theorem waB_2 {β : Bw} {u w : Nat} (h : w ≤ β 0 0 4) : waB β u 2 0 w = bwN β u (β 0 0 4) w := by
  unfold waB
  rw [if_neg (by omega), if_pos ⟨rfl, rfl, h⟩]
theorem orW_bit : ∀ x, x < 8 → ∀ W, W < 3 → (nI x ||| ((1 : Int32) <<< (nI W &&& 31))) = nI (x ||| 2 ^ W) ∧ x ||| 2 ^ W < 8 := by decide +kernel
theorem shW_bit : ∀ W, W < 3 → ((1 : Int32) <<< (nI W &&& 31)) = nI (2 ^ W) := by decide +kernel
theorem andW_bit : ∀ x, x < 8 → ∀ k, k < 3 → ((nI x &&& ((1 : Int32) <<< (nI k &&& 31))) = 0 ↔ ¬ x.testBit k = true) := by decide +kernel
theorem GBp.watch {β : Bw} {L : Lw} (h : GBp β L) (hl : 0 < β 0 0 3) (hW : β 0 0 4 < 3) {u : Nat} (hu0 : β 0 0 4 = 0 → u = 0) (hu1 : 0 < β 0 0 4 → 1 ≤ u ∧ u ≤ β 0 0 4) : GBp (waB β u) L := by
  obtain ⟨⟨a0, a1, a2, a3, a4, a5, a6, a7⟩, b, c, d, e, e2, g, i, j, k, l⟩ := h
  have x0 : waB β u 0 0 0 = β 0 0 0 := waB_n (by omega)
  have x1 : waB β u 0 0 1 = β 0 0 1 := waB_n (by omega)
  have x2 : waB β u 0 0 2 = β 0 0 2 := waB_n (by omega)
  have x5 : waB β u 0 0 5 = β 0 0 5 := waB_n (by omega)
  have x6 : waB β u 0 0 6 = β 0 0 6 := waB_n (by omega)
  have x7 : waB β u 0 0 7 = β 0 0 7 := waB_n (by omega)
  have n4 : ∀ κ i j, 2 < κ → waB β u κ i j = β κ i j := fun κ i j h => waB_n (Or.inl h)
  have y1 : ∀ w, w < β 0 0 4 → waB β u 1 0 w = β 1 0 w := fun w hw => by rw [waB_1, if_neg (by omega)]
  have hund : ∀ q w, q < β 0 0 4 → und (waB β u) q w = und β q w := by
    intro q w hq
    unfold und
    by_cases z : q = 0
    · subst z
      simp
    · have hb := j.2 q (by omega) hq
      rw [y1 q hq, y1 (β 1 0 q - 1) (by omega)]
  unfold GBp
  rw [x0, x1, x2, x5, x6, x7, waB_3, waB_4]
  refine ⟨⟨a0, a1, a2, by omega, a4, a5, a6, a7⟩, fun _ => b hl, fun q => by omega, fun q => by omega, fun t ht => ?_, fun t ht => ?_, fun t n ht hn => ?_, fun t n q hq => ?_, ⟨?_, fun w hw hw2 => ?_⟩, fun w hw => ?_, fun r hr => ?_⟩
  · rw [n4 4 _ _ (by omega), n4 4 _ _ (by omega), n4 4 _ _ (by omega), n4 4 _ _ (by omega), n4 4 _ _ (by omega), n4 4 _ _ (by omega), n4 4 _ _ (by omega)]
    have := e t ht
    exact ⟨by omega, this.2⟩
  · rw [n4 4 _ _ (by omega)]; exact e2 t ht
  · rw [n4 4 _ _ (by omega)] at hn
    rw [n4 6 _ _ (by omega)]
    exact g t n ht hn
  · rw [n4 8 _ _ (by omega)] at hq
    rw [n4 4 _ _ (by omega)]
    exact i t n q hq
  · rw [waB_1]
    by_cases z : 0 = β 0 0 4
    · rw [if_pos z]; exact hu0 z.symm
    · rw [if_neg z]; exact j.1
  · rw [waB_1]
    by_cases z : w = β 0 0 4
    · rw [if_pos z]
      have := hu1 (by omega)
      omega
    · rw [if_neg z]
      exact j.2 w hw (by omega)
  · rw [waB_2 (by omega)]
    unfold bwN
    have hbit : ∀ q, (2 ^ β 0 0 4).testBit q = decide (β 0 0 4 = q) := fun q => Nat.testBit_two_pow
    by_cases z : w = β 0 0 4
    · rw [if_pos z]
      refine ⟨?_, fun q => ?_⟩
      · have : 2 ^ β 0 0 4 ≤ 2 ^ 2 := Nat.pow_le_pow_right (by decide) (by omega)
        omega
      · rw [hbit]
        by_cases y : q = β 0 0 4
        · rw [decide_eq_true y.symm, decide_eq_true (show q < β 0 0 4 + 1 by omega)]
          unfold und
          rw [decide_eq_true (Or.inl (by omega))]
          rfl
        · rw [decide_eq_false (fun h => y h.symm)]
          by_cases y2 : q < β 0 0 4
          · rw [hund q w y2]
            have hno : ¬ (q = w ∨ (0 < q ∧ (β 1 0 q = w + 1 ∨ (1 < β 1 0 q ∧ β 1 0 (β 1 0 q - 1) = w + 1)))) := by
              intro h
              rcases h with h | ⟨h, h2 | ⟨h2, h3⟩⟩
              · omega
              · have := j.2 q h y2
                omega
              · have h4 := j.2 q h y2
                have h5 := j.2 (β 1 0 q - 1) (by omega) (by omega)
                omega
            unfold und
            rw [decide_eq_false hno, Bool.and_false]
          · rw [decide_eq_false (show ¬ q < β 0 0 4 + 1 by omega), Bool.false_and]
    · obtain ⟨k8, kb⟩ := k w (by omega)
      rw [if_neg z]
      have hnew : ∀ x : Nat, (∀ q, q ≠ β 0 0 4 → x.testBit q = (β 2 0 w).testBit q) → (x.testBit (β 0 0 4) = und (waB β u) (β 0 0 4) w) → ∀ q, x.testBit q = (decide (q < β 0 0 4 + 1) && und (waB β u) q w) := by
        intro x h1 h2 q
        by_cases y : q = β 0 0 4
        · rw [y, h2, decide_eq_true (Nat.lt_succ_self _), Bool.true_and]
        · rw [h1 q y, kb]
          by_cases y2 : q < β 0 0 4
          · rw [hund q w y2, decide_eq_true y2, decide_eq_true (show q < β 0 0 4 + 1 by omega)]
          · rw [decide_eq_false y2, decide_eq_false (show ¬ q < β 0 0 4 + 1 by omega), Bool.false_and, Bool.false_and]
      have hu := hu1 (by omega)
      have eu : und (waB β u) (β 0 0 4) w = (β 2 0 w).testBit (u - 1) := by
        rw [kb, decide_eq_true (show u - 1 < β 0 0 4 by omega), Bool.true_and]
        unfold und
        rw [waB_1, if_pos rfl, waB_1, if_neg (by omega)]
        rw [decide_eq_decide]
        by_cases y : u = 1
        · subst y
          have j1 := j.1
          show _ ↔ (0 = w ∨ 0 < 0 ∧ _)
          constructor
          · intro q
            left
            rcases q with q | ⟨q, q2 | ⟨q2, q3⟩⟩ <;> omega
          · intro q
            rcases q with q | ⟨q, q2⟩
            · right
              exact ⟨by omega, Or.inl (by omega)⟩
            · omega
        · have hu2 : u = 2 := by omega
          subst hu2
          have h5 := j.2 1 (by omega) (by omega)
          have h6 : β 1 0 1 = 1 := by omega
          show (_ ∨ _ ∧ (_ ∨ _ ∧ β 1 0 1 = w + 1)) ↔ (1 = w ∨ 0 < 1 ∧ (β 1 0 1 = w + 1 ∨ 1 < β 1 0 1 ∧ _))
          rw [h6]
          constructor
          · intro q
            rcases q with q | ⟨q, q2 | ⟨q2, q3⟩⟩
            · omega
            · left; omega
            · right
              exact ⟨by omega, Or.inl (by omega)⟩
          · intro q
            right
            rcases q with q | ⟨q, q2 | ⟨q2, q3⟩⟩
            · exact ⟨by omega, Or.inl (by omega)⟩
            · exact ⟨by omega, Or.inr ⟨by omega, by omega⟩⟩
            · omega
      by_cases y : u ≠ 0 ∧ (β 2 0 w).testBit (u - 1) = true
      · rw [if_pos y]
        refine ⟨(orW_bit _ k8 _ hW).2, hnew _ (fun q hq => ?_) ?_⟩
        · rw [Nat.testBit_or, hbit, decide_eq_false (fun h => hq h.symm), Bool.or_false]
        · rw [Nat.testBit_or, hbit, decide_eq_true rfl, Bool.or_true, eu, y.2]
      · rw [if_neg y]
        refine ⟨k8, hnew _ (fun _ _ => rfl) ?_⟩
        rw [kb, decide_eq_false (Nat.lt_irrefl _), Bool.false_and, eu]
        cases hb : (β 2 0 w).testBit (u - 1) with
        | false => rfl
        | true => exact absurd ⟨by omega, hb⟩ y
  · rcases l r hr with ⟨w, x, hw, hx, e'⟩ | ⟨t, j', m, ht, hj, hm1, hm2, e'⟩ | ⟨kd, t, j', n, m, hkd, ht, hj, hn, hm1, hm2, e'⟩
    · exact Or.inl ⟨w, x, by rw [waB_4]; omega, hx, e'⟩
    · exact Or.inr (Or.inl ⟨t, j', m, by rw [x5]; exact ht, hj, hm1, hm2, e'⟩)
    · exact Or.inr (Or.inr ⟨kd, t, j', n, m, hkd, by rw [x5]; exact ht, hj, by rw [n4 4 _ _ (by omega)]; exact hn, hm1, hm2, e'⟩)
