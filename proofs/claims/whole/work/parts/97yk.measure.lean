/-! THE COSTS, the class -/
theorem c_mnode {b : Nat} {M : Mw} {β : Bw} {L : Lw} (hg : GB β L) (e5 : M.1 0 b 0 5 = nI (β 0 0 5)) {t n d : Nat} (ht : t < β 0 0 5) (e46 : M.1 4 b t 6 = nI (β 4 t 6)) (hd : β 4 t 6 = n + 1 + d) (e6 : M.1 6 b t n = nI (β 6 t n)) (e8 : M.1 8 b t n = nI (β 8 t n))
    (h98 : ∀ n', n < n' → n' < β 4 t 6 → M.1 98 0 0 n' = nI (bst β t 0 d n') ∧ M.1 99 0 0 n' = nI (bst β t 1 d n') ∧ 1 ≤ bst β t 0 d n') :
    F_X0_measureNode b (nI t) (nI n) M = some (uIw (uIw M 98 0 0 n (nI (vN β t 0 n (bst β t 0 d)))) 99 0 0 n (nI (vN β t 1 n (bst β t 1 d)))) := by
  have hT5 := hg.1.2.2.2.2
  obtain ⟨-, -, -, -, -, -, -, -, n1, n6⟩ := hg.2.2.2.1 t ht
  obtain ⟨-, -, hv, hbits⟩ := hg.2.2.2.2.1 t n ht (by omega)
  obtain ⟨b1, b2⟩ := bst_le (β := β) (t := t) (fun n hn => (hg.2.2.2.2.1 t n ht hn).2.1) n1 d
  have it5 : inb (nI t) 5 = true := inb_nI (by omega) (by omega)
  have in6 : inb (nI n) 6 = true := inb_nI (by omega) (by omega)
  have ct : (nI t).toNatClampNeg = t := clampI (by omega)
  have cn : (nI n).toNatClampNeg = n := clampI (by omega)
  have hlow : scp (β 8 t n) (n + 1) = [] := by
    unfold scp
    apply List.filter_eq_nil_iff.mpr
    intro j hj hb
    have := (hbits j hb).1
    have := List.mem_range.mp hj
    omega
  have hnode : F_X0_hasNode b (nI t) (nI n) M = some 1 := by
    unfold F_X0_hasNode
    rw [c_hasTask e5 hT5, if_pos (rng_in ht (by omega)), Option.bind_some, if_neg (show ¬ (1 : Int32) = 0 by decide), if_neg (nI_pos (by omega)), if_pos it5, ct, e46, if_neg (nI_ge (by omega) (by omega))]
  unfold F_X0_measureNode
  rw [nI_1, bd_eq]
  have key := it_for3N (z := fun _ _ _ => none) (B := B_X0_measureNode_11 b (nI t) (nI n) M) (n := β 4 t 6)
    (P := fun k a c => n < k ∧ a = nI (agg 0 (bst β t 0 d) 0 (scp (β 8 t n) k)) ∧ c = nI (agg 1 (bst β t 1 d) 0 (scp (β 8 t n) k)) ∧ agg 0 (bst β t 0 d) 0 (scp (β 8 t n) k) ≤ 54 ∧ agg 1 (bst β t 1 d) 0 (scp (β 8 t n) k) ≤ 54 ∧ (scp (β 8 t n) k ≠ [] → 1 ≤ agg 0 (bst β t 0 d) 0 (scp (β 8 t n) k)))
    (Q := fun o => o = some (uIw (uIw M 98 0 0 n (nI (vN β t 0 n (bst β t 0 d)))) 99 0 0 n (nI (vN β t 1 n (bst β t 1 d)))))
    (fun k2 k a c hk hP => by
      obtain ⟨r1, rfl, rfl, r4, r5, r6⟩ := hP
      left
      have ik6 : inb (nI k) 6 = true := inb_nI (by omega) (by omega)
      have ck : (nI k).toNatClampNeg = k := clampI (by omega)
      unfold B_X0_measureNode_11
      unfold F_X0_isFollower
      rw [if_pos it5, ct, e46, if_neg (nI_ge hk (by omega)), hnode, Option.bind_some, if_neg (show ¬ (1 : Int32) = 0 by decide), if_pos it5, if_pos in6, cn, e8, scp_succ]
      by_cases cb : (β 8 t n).testBit k = true
      case neg =>
        rw [if_pos ((and_bit6 _ hv k (by omega)).mpr cb), Option.bind_some, if_pos rfl, bd_eq, nI_1, if_neg cb]
        exact ⟨_, _, rfl, by omega, rfl, rfl, r4, r5, r6⟩
      obtain ⟨x1, x2, x3⟩ := h98 k r1 hk
      have y1 := b1 k
      have y2 := b2 k
      rw [if_neg (fun q => ((and_bit6 _ hv k (by omega)).mp q) cb), Option.bind_some, if_neg (show ¬ (1 : Int32) = 0 by decide), if_pos cb]
      by_cases ce : scp (β 8 t n) k = []
      · rw [ce]
        have z0 : agg 0 (bst β t 0 d) 0 [] = 0 := rfl
        have z1 : agg 1 (bst β t 1 d) 0 [] = 0 := rfl
        rw [z0, z1, if_pos (show nI 0 = 0 from rfl), if_pos ik6, ck, x1]
        unfold B_X0_measureNode_57
        rw [if_pos ik6, ck, x2, if_pos (nI_lt (by omega) (by omega)), bd_eq, bd_eq, nI_1, agg_app0, agg_app1, if_pos rfl, if_pos rfl]
        exact ⟨_, _, rfl, by omega, rfl, rfl, by omega, by omega, fun _ => x3⟩
      · have hA := r6 ce
        rw [if_neg (nI_ne0 hA (by omega)), if_pos ik6, ck, x1]
        unfold B_X0_measureNode_57
        rw [if_pos ik6, ck, x2, bd_eq, bd_eq, nI_1, agg_app0, agg_app1, if_neg ce, if_neg ce]
        refine ⟨_, _, rfl, by omega, ?_, ?_, by omega, by omega, fun _ => by omega⟩
        · by_cases y : bst β t 0 d k < agg 0 (bst β t 0 d) 0 (scp (β 8 t n) k)
          · rw [if_pos (nI_lt y (by omega)), Nat.min_eq_right (by omega)]
          · rw [if_neg (nI_nlt (by omega) (by omega)), Nat.min_eq_left (by omega)]
        · by_cases y : agg 1 (bst β t 1 d) 0 (scp (β 8 t n) k) < bst β t 1 d k
          · rw [if_pos (nI_lt y (by omega)), Nat.max_eq_right (by omega)]
          · rw [if_neg (nI_nlt (by omega) (by omega)), Nat.max_eq_left (by omega)])
    (fun k2 a c hP => by
      obtain ⟨r1, rfl, rfl, r4, r5, r6⟩ := hP
      have v0 : vN β t 0 n (bst β t 0 d) = β 6 t n + agg 0 (bst β t 0 d) 0 (scl (β 8 t n)) := by
        rw [vN_agg (by omega), if_neg (by decide), if_neg (fun q => absurd q.2 (by decide))]
      have v1 : vN β t 1 n (bst β t 1 d) = β 6 t n + agg 1 (bst β t 1 d) 0 (scl (β 8 t n)) := by
        rw [vN_agg (by omega), if_neg (by decide), if_neg (fun q => absurd q.2 (by decide))]
      unfold B_X0_measureNode_11
      rw [if_pos it5, ct, e46, if_pos (Int32.le_refl _), if_pos it5, if_pos in6, if_pos in6, cn, e6, nI_add, bd_eq, if_pos it5, if_pos in6, if_pos in6, uI_k (show 6 ≠ 98 by decide), e6, nI_add, bd_eq, scp_top _ hv _ (by omega) (fun k _ hb => (hbits k hb).2), v0, v1])
    FU (n + 1) 0 0 (by omega) (by unfold FU; omega) ⟨by omega, by rw [hlow]; rfl, by rw [hlow]; rfl, by rw [hlow]; exact Nat.zero_le _, by rw [hlow]; exact Nat.zero_le _, fun q => absurd hlow q⟩
  exact key
theorem c_measure {b : Nat} {M : Mw} {β : Bw} {L : Lw} (hg : GB β L) (e5 : M.1 0 b 0 5 = nI (β 0 0 5)) (e4 : ∀ t, t < β 0 0 5 → M.1 4 b t 6 = nI (β 4 t 6)) (e68 : ∀ t, t < β 0 0 5 → ∀ n, n < β 4 t 6 → M.1 6 b t n = nI (β 6 t n) ∧ M.1 8 b t n = nI (β 8 t n)) :
    ∃ M', F_X0_measureTasks b M = some M' ∧ (∀ t, t < β 0 0 5 → M'.1 10 b t 0 = nI (goN β t 0) ∧ M'.1 10 b t 1 = nI (goN β t 1)) ∧ Fr (fun κ b' => κ = 98 ∨ κ = 99 ∨ (κ = 10 ∧ b' = b)) M M' := by
  have hT5 := hg.1.2.2.2.2
  have hF0 : Fr (fun κ b' => κ = 98 ∨ κ = 99 ∨ (κ = 10 ∧ b' = b)) M (tmpM M) := by
    unfold tmpM
    exact (Fr.rI (Or.inl rfl)).trans (Fr.rI (Or.inr (Or.inl rfl)))
  unfold F_X0_measureTasks
  rw [bd_eq]
  have key := it_for (z := fun _ _ => none) (B := B_X0_measureTasks_12 b) (n := β 0 0 5)
    (P := fun k M1 => (∀ t, t < k → M1.1 10 b t 0 = nI (goN β t 0) ∧ M1.1 10 b t 1 = nI (goN β t 1)) ∧ Fr (fun κ b' => κ = 98 ∨ κ = 99 ∨ (κ = 10 ∧ b' = b)) M M1)
    (Q := fun o => ∃ M', o = some M' ∧ (∀ t, t < β 0 0 5 → M'.1 10 b t 0 = nI (goN β t 0) ∧ M'.1 10 b t 1 = nI (goN β t 1)) ∧ Fr (fun κ b' => κ = 98 ∨ κ = 99 ∨ (κ = 10 ∧ b' = b)) M M')
    (fun kk t M1 ht hP => by
      obtain ⟨p1, p2⟩ := hP
      left
      obtain ⟨-, -, -, -, -, -, -, -, n1, n6⟩ := hg.2.2.2.1 t ht
      have it5 : inb (nI t) 5 = true := inb_nI (by omega) (by omega)
      have ct : (nI t).toNatClampNeg = t := clampI (by omega)
      have k1 : ∀ κ, κ ≤ 8 → M1.1 κ b = M.1 κ b := fun κ hκ => (p2 κ b (by omega)).1
      unfold B_X0_measureTasks_12
      rw [k1 0 (by decide), e5, if_neg (nI_ge ht (by omega)), if_pos it5, ct, k1 4 (by decide), e4 t ht, nI_m, bd_eq]
      have key2 := it_down (z := fun _ _ => none) (B := B_X0_measureTasks_33 b kk (nI t))
        (P := fun k M2 => k ≤ β 4 t 6 ∧ Fr (fun κ _ => κ = 98 ∨ κ = 99) M1 M2 ∧ ∀ n, k ≤ n → n < β 4 t 6 → M2.1 98 0 0 n = nI (bst β t 0 (β 4 t 6 - k) n) ∧ M2.1 99 0 0 n = nI (bst β t 1 (β 4 t 6 - k) n) ∧ 1 ≤ bst β t 0 (β 4 t 6 - k) n)
        (Q := fun o => ∃ M', o = kk (nI (t + 1)) M' ∧ (∀ t', t' < t + 1 → M'.1 10 b t' 0 = nI (goN β t' 0) ∧ M'.1 10 b t' 1 = nI (goN β t' 1)) ∧ Fr (fun κ b' => κ = 98 ∨ κ = 99 ∨ (κ = 10 ∧ b' = b)) M M')
        (fun k2 n M2 hP2 => by
          obtain ⟨r1, r2, r3⟩ := hP2
          left
          obtain ⟨d, hd⟩ : ∃ d, d = β 4 t 6 - (n + 1) := ⟨_, rfl⟩
          rw [← hd] at r3
          have k2' : ∀ κ, κ ≤ 8 → M2.1 κ b = M.1 κ b := fun κ hκ => by rw [r2.k1 (fun b => by omega), k1 κ hκ]
          obtain ⟨z1, z2⟩ := e68 t ht n (by omega)
          have hm := c_mnode (b := b) (M := M2) hg (by rw [k2' 0 (by decide), e5]) ht (by rw [k2' 4 (by decide), e4 t ht]) (n := n) (d := d) (by omega) (by rw [k2' 6 (by decide), z1]) (by rw [k2' 8 (by decide), z2]) (fun n' h1 h2 => r3 n' (by omega) h2)
          unfold B_X0_measureTasks_33
          rw [if_neg (nI_pos (by omega)), hm, Option.bind_some, bd_eq]
          refine ⟨_, rfl, by omega, (r2.trans (Fr.uI (Or.inl rfl))).trans (Fr.uI (Or.inr rfl)), fun n' h1 h2 => ?_⟩
          rw [show β 4 t 6 - n = d + 1 by omega]
          show _ = nI (if n' = β 4 t 6 - 1 - d then vN β t 0 n' (bst β t 0 d) else bst β t 0 d n') ∧ _ = nI (if n' = β 4 t 6 - 1 - d then vN β t 1 n' (bst β t 1 d) else bst β t 1 d n') ∧ 1 ≤ (if n' = β 4 t 6 - 1 - d then vN β t 0 n' (bst β t 0 d) else bst β t 0 d n')
          have en : n = β 4 t 6 - 1 - d := by omega
          rw [← en]
          by_cases z : n' = n
          · subst z
            rw [if_pos rfl, if_pos rfl, uI_k (by decide), uI1, if_pos ⟨rfl, rfl, rfl, rfl⟩, uI1, if_pos ⟨rfl, rfl, rfl, rfl⟩]
            refine ⟨rfl, rfl, ?_⟩
            have := (hg.2.2.2.2.1 t n' ht (by omega)).1
            show 1 ≤ β 6 t n' + _
            omega
          · rw [if_neg z, if_neg z, uI_k (by decide), uI1, if_neg (fun q => z q.2.2.2), uI1, if_neg (fun q => z q.2.2.2), uI_k (by decide)]
            exact r3 n' (by omega) h2)
        (fun k2 M2 hP2 => by
          obtain ⟨r1, r2, r3⟩ := hP2
          obtain ⟨z1, z2, -⟩ := r3 0 (Nat.le_refl _) (by omega)
          rw [Nat.sub_zero] at z1 z2
          unfold B_X0_measureTasks_33
          rw [if_pos (by decide), if_pos it5, ct, z1, bd_eq, if_pos it5, uI_k (show 99 ≠ 10 by decide), z2, bd_eq, bd_eq, nI_1]
          refine ⟨_, rfl, fun t' ht' => ?_, ((p2.trans (r2.mono (fun κ b q => by omega))).trans (Fr.uI (Or.inr (Or.inr ⟨rfl, rfl⟩)))).trans (Fr.uI (Or.inr (Or.inr ⟨rfl, rfl⟩)))⟩
          by_cases z : t' = t
          · subst z
            refine ⟨?_, ?_⟩
            · rw [uI1, if_neg (fun q => absurd q.2.2.2 (by decide)), uI1, if_pos ⟨rfl, rfl, rfl, rfl⟩]
              rfl
            · rw [uI1, if_pos ⟨rfl, rfl, rfl, rfl⟩]
              rfl
          · rw [uI1, if_neg (fun q => z q.2.2.1), uI1, if_neg (fun q => z q.2.2.1), uI1, if_neg (fun q => z q.2.2.1), uI1, if_neg (fun q => z q.2.2.1), r2.k1 (fun b => by omega)]
            exact p1 t' (by omega))
        FU (β 4 t 6) M1 (by unfold FU; omega) ⟨Nat.le_refl _, Fr.rfl, fun n h1 h2 => by omega⟩
      exact key2)
    (fun kk M1 hP => by
      obtain ⟨p1, p2⟩ := hP
      unfold B_X0_measureTasks_12
      rw [(p2 0 b (by omega)).1, e5, if_pos (Int32.le_refl _)]
      exact ⟨M1, rfl, p1, p2⟩)
    FU 0 (tmpM M) (by omega) (by unfold FU; omega) ⟨fun t ht => by omega, hF0⟩
  rw [nI_0] at key
  exact key
