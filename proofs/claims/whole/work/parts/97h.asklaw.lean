/-! THE LAW, asked -/
def goC (β : Bw) (j t : Nat) : Nat := goN β t j
theorem gc_go {β : Bw} {L : Lw} (hg : GB β L) : GC β (goC β) := fun t ht => by
  obtain ⟨a, b, c⟩ := goN_b hg ht
  exact ⟨a, b, by unfold goC; omega⟩
theorem msk0 : ∀ t, t < 5 → (1 <<< (nI t &&& 31)) - 1 = nI (2 ^ t - 1) ∧ 2 ^ t - 1 < 32 ∧ ∀ i, i < 5 → ((2 ^ t - 1).testBit i = true ↔ i < t) := by decide +kernel
theorem r_lays {M : Mw} {β : Bw} {L : Lw} (hx : Gx β L) (hw : RWd (M.1 51 0 0) β L) : ∃ M', F_X10_laysCosts M = some M' ∧ Fr (fun κ _ => 57 ≤ κ ∧ κ ≤ 60) M M' ∧ LwR M' β L (goC β) (fun t => 2 ^ t - 1) := by
  have hg := hx.1
  have hT5 := hg.1.2.2.2.2
  have key := it_for (z := fun _ _ => none) (B := B_X10_laysCosts_2) (n := β 0 0 5)
    (P := fun n M1 => Fr (fun κ _ => 57 ≤ κ ∧ κ ≤ 60) M M1 ∧ ∀ t, t < n → M1.1 59 0 0 t = nI (goN β t 0) ∧ M1.1 58 0 0 t = nI (goN β t 1) ∧ M1.1 60 0 0 t = nI (2 ^ t - 1))
    (Q := fun o => ∃ M', o = some M' ∧ Fr (fun κ _ => 57 ≤ κ ∧ κ ≤ 60) M M' ∧ LwR M' β L (goC β) (fun t => 2 ^ t - 1))
    (fun kk n M1 hn hP => by
      obtain ⟨p1, p2⟩ := hP
      left
      have e51 : M1.1 51 = M.1 51 := p1.k1 (fun b => by omega)
      have hw1 : RWd (M1.1 51 0 0) β L := by rw [e51]; exact hw
      have hin : inb (nI n) 5 = true := inb_nI (by omega) (by omega)
      obtain ⟨M2, q1, q2⟩ := r_goes hg hw1.n hn (w := 0) (by omega)
      have q1' : F_X10_goes (nI n) 0 M1 = some (nI (goN β n 0), M2) := q1
      have hw3 : RNd (uIw M2 59 0 0 n (nI (goN β n 0))) β := hw1.n.e (by rw [uI_k (by decide), q2.k1 (fun b => by omega)])
      obtain ⟨M4, r1, r2⟩ := r_goes hg hw3 hn (w := 1) (by omega)
      have r1' : F_X10_goes (nI n) 1 (uIw M2 59 0 0 n (nI (goN β n 0))) = some (nI (goN β n 1), M4) := r1
      unfold B_X10_laysCosts_2
      rw [hw1.1.2.2.2.2.1, if_neg (nI_ge hn (by omega)), q1', Option.bind_some, if_pos hin, clampI (by omega), bd_eq]
      show ∃ M', (F_X10_goes (nI n) 1 (uIw M2 59 0 0 n (nI (goN β n 0)))).bind _ = _ ∧ _
      rw [r1', Option.bind_some, if_pos hin, bd_eq, if_pos hin, bd_eq, nI_1, bd_eq, (msk0 n (by omega)).1]
      have hF : Fr (fun κ _ => 57 ≤ κ ∧ κ ≤ 60) M1 (uIw (uIw M4 58 0 0 n (nI (goN β n 1))) 60 0 0 n (nI (2 ^ n - 1))) :=
        ((((q2.mono (fun κ _ (z : κ = 57) => by omega)).trans (Fr.uI (by omega))).trans (r2.mono (fun κ _ (z : κ = 57) => by omega))).trans (Fr.uI (by omega))).trans (Fr.uI (by omega))
      refine ⟨_, rfl, p1.trans hF, fun t ht => ?_⟩
      have e4 : ∀ κ, κ ≠ 57 → M4.1 κ = (uIw M2 59 0 0 n (nI (goN β n 0))).1 κ := fun κ hκ => r2.k1 (fun b => hκ)
      have e2 : ∀ κ, κ ≠ 57 → M2.1 κ = M1.1 κ := fun κ hκ => q2.k1 (fun b => hκ)
      rw [uI_k (show 59 ≠ 60 by decide), uI_k (show 59 ≠ 58 by decide), e4 59 (by decide), uI_k (show 58 ≠ 60 by decide), uI1, uI1, uI1, e4 58 (by decide), uI_k (show 58 ≠ 59 by decide), e2 59 (by decide), e2 58 (by decide), uI_k (show 60 ≠ 58 by decide), e4 60 (by decide), uI_k (show 60 ≠ 59 by decide), e2 60 (by decide)]
      by_cases z : t = n
      · subst z
        rw [if_pos ⟨rfl, rfl, rfl, rfl⟩, if_pos ⟨rfl, rfl, rfl, rfl⟩, if_pos ⟨rfl, rfl, rfl, rfl⟩]
        exact ⟨rfl, rfl, rfl⟩
      · rw [if_neg (fun y => z y.2.2.2), if_neg (fun y => z y.2.2.2), if_neg (fun y => z y.2.2.2)]
        exact p2 t (by omega))
    (fun kk M1 hP => by
      obtain ⟨p1, p2⟩ := hP
      have e51 : M1.1 51 = M.1 51 := p1.k1 (fun b => by omega)
      have hw1 : RWd (M1.1 51 0 0) β L := by rw [e51]; exact hw
      unfold B_X10_laysCosts_2
      rw [hw1.1.2.2.2.2.1, if_pos (Int32.le_refl _)]
      exact ⟨M1, rfl, p1, hw1, fun t ht => ⟨(p2 t ht).1, (p2 t ht).2.1, (p2 t ht).2.2, (msk0 t (by omega)).2.1⟩⟩)
    FU 0 M (Nat.zero_le _) (by unfold FU; omega) ⟨Fr.rfl, fun t ht => by omega⟩
  rw [nI_0] at key
  exact key
theorem rs_id {β : Bw} {C : Nat → Nat → Nat} (hT5 : β 0 0 5 ≤ 5) {t : Nat} (ht : t < β 0 0 5) : rsR β C (fun t => 2 ^ t - 1) t = rsC β C id t :=
  rs_eq (ord := id) ht (fun _ _ _ _ h => h) (fun _ h => h) (fun i hi => by
    have hb := (msk0 t (by omega)).2.2 i (by omega)
    show (2 ^ t - 1).testBit i = true ↔ _
    rw [hb]
    exact ⟨fun h => ⟨i, h, rfl⟩, fun ⟨p', h1, h2⟩ => by have h2' : p' = i := h2; omega⟩)
theorem c_base {M : Mw} {β : Bw} {L : Lw} (hx : Gx β L) (hB : CBd 1 M β L) (h1 : M.1 21 0 0 1 = -1) : ∀ t, t < β 0 0 5 → F_X3_costOf 1 (nI t) 0 M = some (nI (goC β 0 t)) ∧ F_X3_costOf 1 (nI t) 1 M = some (nI (goC β 1 t)) := by
  have hT5 := hx.1.1.2.2.2.2
  intro t ht
  have hne : ¬ nI t = -1 := nI_nm1 (by omega)
  have hc := hx.2.2.2.2.2.2.2 t ht
  unfold F_X3_costOf
  rw [h1, if_pos (inb_nI (by omega) (by omega)), if_pos (show inb 0 2 = true by decide), if_neg hne, if_pos (inb_nI (by omega) (by omega)), if_pos (show inb 1 2 = true by decide), if_neg hne, clampI (by omega), Int32.add_zero, Int32.add_zero]
  have e0 := hB.2.2.2.2.2.1 t ht 0 (by omega)
  have e1 := hB.2.2.2.2.2.1 t ht 1 (by omega)
  refine ⟨?_, ?_⟩
  · show some (M.1 10 1 t 0) = _
    rw [e0, hc.1]
    rfl
  · show some (M.1 10 1 t 1) = _
    rw [e1, hc.2]
    rfl
theorem oni_lay {M M' : Mw} (h : Fr (fun κ _ => 57 ≤ κ ∧ κ ≤ 60) M M') : OnI M M' := by
  have e : M'.1 50 = M.1 50 := h.k1 (fun b => by omega)
  exact ⟨h.mono (fun κ b q => by omega), by rw [e], by rw [e], by rw [e]⟩
theorem c_respA {M : Mw} {β : Bw} {L : Lw} (h : InvB M β L) {t : Nat} (ht : t < β 0 0 5) : ∃ M1, F_X9_response (nI t) M = some (nI (rsC β (goC β) id t) + (-1), M1) ∧ Fr (fun κ _ => κ = 22) M M1 := by
  have hx := h.2.1.1
  have hT5 := hx.1.1.2.2.2.2
  have hB := h.2.1.2.1.d
  obtain ⟨M1, q1, q2, q3⟩ := c_lineUp (M := M) hT5
  have hB1 : CBd 1 M1 β L := hB.fr (fun κ hκ => (q2 κ 1 (fun z => by omega)).1)
  have hLw : LwC M1 β (goC β) id := ⟨fun t ht => by rw [costOf_fr q2, costOf_fr q2]; exact c_base hx hB h.1.2.2.2.2.1 t ht, fun p hp => ⟨q3 p hp, hp⟩⟩
  refine ⟨M1, ?_, q2⟩
  unfold F_X9_response
  rw [c_hasTask1 (hB.1 5 (by omega)) hT5 ht, Option.bind_some, if_neg (show ¬ (1 : Int32) = 0 by decide), hB.1 5 (by omega), q1, Option.bind_some, c_resp hx.1 (gc_go hx.1) hB1 hLw ht, Option.bind_some]
theorem ok_response : ∀ M : Mw, Inv M → ∀ a1 : Int32, ∃ (r1 : Int32 × Mw) (r2 : Int32 × Mw), F_X9_response a1 M = some r1 ∧ F_X10_response a1 r1.2 = some r2 ∧ r1.1 = r2.1 ∧ Inv r2.2 := by
  intro M hM a1
  obtain ⟨β, L, h⟩ := hM
  have hx := h.2.1.1
  have hT5 := hx.1.1.2.2.2.2
  rcases task_cases h.2.1 a1 with ⟨t1, t2⟩ | ⟨t, ht, rfl, t1, t2⟩
  · refine ⟨((-2), M), ((-2), M), ?_, ?_, rfl, β, L, h⟩
    · unfold F_X9_response
      rw [t1, Option.bind_some, if_pos rfl]
    · show F_X10_response a1 M = _
      unfold F_X10_response
      rw [t2 M h.2.1.2.2, Option.bind_some, if_pos rfl]
  obtain ⟨M1, q1, q2⟩ := c_respA h ht
  have h1 := h.i (oni_k q2 (by omega))
  obtain ⟨M2, r1, r2, r3⟩ := r_lays hx h1.2.1.2.2
  refine ⟨(nI (rsC β (goC β) id t) + (-1), M1), (nI (rsC β (goC β) id t) + (-1), M2), q1, ?_, rfl, β, L, h1.i (oni_lay r2)⟩
  show F_X10_response (nI t) M1 = _
  unfold F_X10_response
  rw [t2 M1 h1.2.1.2.2, Option.bind_some, if_neg (show ¬ (1 : Int32) = 0 by decide), r1, Option.bind_some, r_resp hx (gc_go hx.1) r3 ht, Option.bind_some, rs_id hT5 ht]
theorem ok_least : ∀ M : Mw, Inv M → ∀ a1 a2 : Int32, ∃ (r1 : Int32 × Mw) (r2 : Int32 × Mw), F_X9_least a1 a2 M = some r1 ∧ F_X10_least a1 a2 r1.2 = some r2 ∧ r1.1 = r2.1 ∧ Inv r2.2 := by
  intro M hM a1 a2
  obtain ⟨β, L, h⟩ := hM
  have hx := h.2.1.1
  have hg := hx.1
  have hT5 := hx.1.1.2.2.2.2
  rcases task_cases h.2.1 a1 with ⟨t1, t2⟩ | ⟨t, ht, rfl, t1, t2⟩
  · refine ⟨((-2), M), ((-2), M), ?_, ?_, rfl, β, L, h⟩
    · unfold F_X9_least
      rw [t1, Option.bind_some, if_pos rfl]
    · show F_X10_least a1 a2 M = _
      unfold F_X10_least
      rw [t2 M h.2.1.2.2, Option.bind_some, if_pos rfl]
  rcases rng_cases a2 (show 4 < 2 ^ 31 by omega) with ⟨k, hk, rfl⟩ | c
  case inr =>
    refine ⟨((-2), M), ((-2), M), ?_, ?_, rfl, β, L, h⟩
    · unfold F_X9_least
      rw [t1, Option.bind_some, if_neg (show ¬ (1 : Int32) = 0 by decide)]
      by_cases c1 : a2 < 0
      · rw [if_pos c1]
      · rw [if_neg c1, if_neg (show ¬ a2 ≤ 3 from fun q => c ⟨c1, (le_pred a2 (n := 3) (by omega)).mp q⟩)]
    · show F_X10_least (nI t) a2 M = _
      unfold F_X10_least
      rw [t2 M h.2.1.2.2, Option.bind_some, if_neg (show ¬ (1 : Int32) = 0 by decide), r_in0n a2 (n := 3) (by omega) (by decide), Option.bind_some, if_neg (show ¬ (¬ a2 < 0 ∧ a2 < nI (3 + 1)) from c), if_pos rfl]
  obtain ⟨M1, q1, q2⟩ := c_respA h ht
  have h1 := h.i (oni_k q2 (by omega))
  obtain ⟨M2, r1, r2, r3⟩ := r_lays hx h1.2.1.2.2
  have hR := rs_id (C := goC β) hT5 ht
  have hc := hx.2.2.2.2.2.2.2 t ht
  obtain ⟨c0, c1, c104⟩ := gc_go hg t ht
  obtain ⟨-, g4, g60, -⟩ := hg.2.2.2.1 t ht
  have hb' : rsC β (goC β) id t = 0 ∨ (goC β 1 t + 1 ≤ rsC β (goC β) id t ∧ rsC β (goC β) id t ≤ 1 + β 4 t 1) := by
    rcases rspF_b (C := goC β 1 t) (dem := dmC β (goC β) id t) (fun b => Nat.le_add_right _ _) (β 4 t 1) 1 with z | z
    · exact Or.inl z
    · exact Or.inr ⟨z.1, z.2.2⟩
  have e1 : F_X9_least (nI t) (nI k) M = if rsC β (goC β) id t = 0 then some ((-1), M1) else some (nI (lmN β k t (rsC β (goC β) id t - 1 - goC β 0 t)), M1) := by
    unfold F_X9_least
    rw [t1, Option.bind_some, if_neg (show ¬ (1 : Int32) = 0 by decide), if_neg (nI_pos (by omega)), if_pos (show nI k ≤ 3 from nI_le (b := 3) (by omega) (by omega)), q1, Option.bind_some, bd_eq]
    by_cases cR : rsC β (goC β) id t = 0
    · rw [if_pos cR, if_pos (show nI (rsC β (goC β) id t) + (-1) = -1 by rw [cR]; decide)]
    · have hb2 : goC β 1 t + 1 ≤ rsC β (goC β) id t ∧ rsC β (goC β) id t ≤ 1 + β 4 t 1 := by omega
      rw [if_neg cR, if_neg (nI_m1n cR (by omega)), if_pos (inb_nI (by omega) (by omega)), clampI (by omega)]
      show (F_X3_limit 1 (nI t) (nI (rsC β (goC β) id t) + (-1) - M1.1 10 1 t 0) (nI k) M1).bind _ = _
      have e10 : M1.1 10 1 t 0 = nI (goC β 0 t) := by
        rw [h1.2.1.2.1.d.2.2.2.2.2.1 t ht 0 (by omega), hc.1]
        rfl
      have e2 : nI (rsC β (goC β) id t) + (-1) - nI (goC β 0 t) = nI (rsC β (goC β) id t - 1 - goC β 0 t) := by
        obtain ⟨r, hr⟩ : ∃ r, rsC β (goC β) id t = r + 1 := ⟨rsC β (goC β) id t - 1, by omega⟩
        rw [hr, pk_m1, pk_sub (by omega)]
        rfl
      rw [e10, e2, c_limit hg h1.2.1.2.1.d ht (by omega) (by omega), Option.bind_some]
  have e2 : F_X10_least (nI t) (nI k) M1 = if rsC β (goC β) id t = 0 then some ((-1), M2) else some (nI (lmN β k t (rsC β (goC β) id t - 1 - goC β 0 t)), M2) := by
    unfold F_X10_least
    rw [t2 M1 h1.2.1.2.2, Option.bind_some, if_neg (show ¬ (1 : Int32) = 0 by decide), r_in0n (nI k) (n := 3) (by omega) (by decide), Option.bind_some, if_pos (show ¬ nI k < 0 ∧ nI k < nI (3 + 1) from rng_in hk (by omega)), if_neg (show ¬ (1 : Int32) = 0 by decide), r1, Option.bind_some, r_resp hx (gc_go hg) r3 ht, Option.bind_some]
    by_cases cR : rsC β (goC β) id t = 0
    · rw [if_pos cR, hR, if_pos (show nI (rsC β (goC β) id t) + (-1) = -1 by rw [cR]; decide)]
    · have hb2 : goC β 1 t + 1 ≤ rsC β (goC β) id t ∧ rsC β (goC β) id t ≤ 1 + β 4 t 1 := by omega
      rw [if_neg cR, r_bound hx (gc_go hg) r3 ht (by rw [hR]; exact cR) (by omega), hR, if_neg (nI_m1n cR (by omega)), Option.bind_some]
  by_cases cR : rsC β (goC β) id t = 0
  · rw [if_pos cR] at e1 e2
    exact ⟨((-1), M1), ((-1), M2), e1, e2, rfl, β, L, h1.i (oni_lay r2)⟩
  · rw [if_neg cR] at e1 e2
    exact ⟨(_, M1), (_, M2), e1, e2, rfl, β, L, h1.i (oni_lay r2)⟩
theorem lb_id {β : Bw} {C : Nat → Nat → Nat} (hT5 : β 0 0 5 ≤ 5) : lbI (fun t => lwB β C (rsR β C (fun t => 2 ^ t - 1) t) t) (β 0 0 5) = lbI (fun t => lwB β C (rsC β C id t) t) (β 0 0 5) := lbI_c _ (fun i hi => by rw [rs_id hT5 hi])
theorem ok_lawful : ∀ M : Mw, Inv M → ∃ (r1 : Int32 × Mw) (r2 : Int32 × Mw), F_X9_lawful M = some r1 ∧ F_X10_lawful r1.2 = some r2 ∧ r1.1 = r2.1 ∧ Inv r2.2 := by
  intro M hM
  obtain ⟨β, L, h⟩ := hM
  have hx := h.2.1.1
  have hg := hx.1
  have hT5 := hx.1.1.2.2.2.2
  have h3 := hx.2.2.2.2.2.2.1
  by_cases hl : 0 < β 0 0 3
  case neg =>
    refine ⟨((-2), M), ((-2), M), ?_, ?_, rfl, β, L, h⟩
    · unfold F_X9_lawful
      rw [h.2.1.2.1.c 3 (by omega), if_pos (show nI (β 0 0 3) = 0 by rw [show β 0 0 3 = 0 by omega]; decide)]
    · show F_X10_lawful M = _
      unfold F_X10_lawful
      rw [r_isBoard hx h.2.1.2.2, Option.bind_some, if_neg hl, if_pos rfl]
  obtain ⟨M1, q1, q2⟩ := c_lawBits hg (gc_go hg) h.2.1.2.1.d (c_base hx h.2.1.2.1.d h.1.2.2.2.2.1)
  have h1 := h.i (oni_k q2 (by omega))
  obtain ⟨M2, r1, r2, r3⟩ := r_lays hx h1.2.1.2.2
  refine ⟨(lbI (fun t => lwB β (goC β) (rsC β (goC β) id t) t) (β 0 0 5), M1), (lbI (fun t => lwB β (goC β) (rsC β (goC β) id t) t) (β 0 0 5), M2), ?_, ?_, rfl, β, L, h1.i (oni_lay r2)⟩
  · unfold F_X9_lawful
    rw [h.2.1.2.1.c 3 (by omega), if_neg (nI_ne0 hl (by omega)), q1, Option.bind_some]
  · show F_X10_lawful M1 = _
    unfold F_X10_lawful
    rw [r_isBoard hx h1.2.1.2.2, Option.bind_some, if_pos hl, if_neg (show ¬ (1 : Int32) = 0 by decide), r1, Option.bind_some, r_lawBits hx (gc_go hg) r3, Option.bind_some, lb_id hT5]
