/-! THE EASY QUESTIONS -/
theorem ok_fault : ∀ M : Mw, Inv M → ∀ a1 : Int32, ∃ (r1 : Int32) (r2 : Int32), F_X9_fault a1 M = some r1 ∧ F_X10_fault a1 M = some r2 ∧ r1 = r2 ∧ Inv M := by
  intro M hM a1
  obtain ⟨β, L, h⟩ := hM
  unfold F_X9_fault F_X10_fault
  by_cases c : a1 = 0
  · rw [if_pos c, if_pos c]
    exact ⟨_, _, rfl, rfl, h.1.2.1, β, L, h⟩
  rw [if_neg c, if_neg c]
  by_cases c1 : a1 = 1
  · rw [if_pos c1, if_pos c1]
    exact ⟨_, _, rfl, rfl, h.1.2.2.1, β, L, h⟩
  · rw [if_neg c1, if_neg c1]
    exact ⟨_, _, rfl, rfl, rfl, β, L, h⟩
theorem ok_count : ∀ M : Mw, Inv M → ∀ a1 : Int32, ∃ (r1 : Int32) (r2 : Int32), F_X9_count a1 M = some r1 ∧ F_X10_count a1 M = some r2 ∧ r1 = r2 ∧ Inv M := by
  intro M hM a1
  obtain ⟨β, L, h⟩ := hM
  obtain ⟨w0, w1, w2, w3, w4, w5, w6, w7⟩ := h.2.1.2.2.1
  have hc := h.2.1.2.1.c
  unfold F_X9_count F_X10_count
  rw [r_in0n a1 (n := 7) (by omega) (by decide), Option.bind_some]
  rcases rng_cases a1 (show 8 < 2 ^ 31 by omega) with ⟨j, hj, rfl⟩ | c
  · rw [if_pos (show ¬ nI j < 0 ∧ nI j < nI (7 + 1) from rng_in hj (by omega)), if_neg (show ¬ (1 : Int32) = 0 by decide), if_pos (inb_nI (by omega) (by omega)), clampI (by omega), hc 0 (by omega), hc 1 (by omega), hc 2 (by omega), hc 3 (by omega), hc 4 (by omega), hc 5 (by omega), hc 6 (by omega), hc 7 (by omega)]
    rcases (by omega : j = 0 ∨ j = 1 ∨ j = 2 ∨ j = 3 ∨ j = 4 ∨ j = 5 ∨ j = 6 ∨ j = 7) with rfl | rfl | rfl | rfl | rfl | rfl | rfl | rfl
    · rw [if_pos (by decide)]
      exact ⟨_, _, rfl, rfl, w0.symm, β, L, h⟩
    · rw [if_neg (by decide), if_pos (by decide)]
      exact ⟨_, _, rfl, rfl, w1.symm, β, L, h⟩
    · rw [if_neg (by decide), if_neg (by decide), if_pos (by decide)]
      exact ⟨_, _, rfl, rfl, w2.symm, β, L, h⟩
    · rw [if_neg (by decide), if_neg (by decide), if_neg (by decide), if_pos (by decide)]
      exact ⟨_, _, rfl, rfl, w3.symm, β, L, h⟩
    · rw [if_neg (by decide), if_neg (by decide), if_neg (by decide), if_neg (by decide), if_pos (by decide)]
      exact ⟨_, _, rfl, rfl, w4.symm, β, L, h⟩
    · rw [if_neg (by decide), if_neg (by decide), if_neg (by decide), if_neg (by decide), if_neg (by decide), if_pos (by decide)]
      exact ⟨_, _, rfl, rfl, w5.symm, β, L, h⟩
    · rw [if_neg (by decide), if_neg (by decide), if_neg (by decide), if_neg (by decide), if_neg (by decide), if_neg (by decide), if_pos (by decide)]
      exact ⟨_, _, rfl, rfl, w6.symm, β, L, h⟩
    · rw [if_neg (by decide), if_neg (by decide), if_neg (by decide), if_neg (by decide), if_neg (by decide), if_neg (by decide), if_neg (by decide), if_pos (by decide)]
      exact ⟨_, _, rfl, rfl, w7.symm, β, L, h⟩
  · have n8 : ∀ j : Nat, j < 8 → ¬ a1 = nI j := fun j hj q => c (by rw [q]; exact rng_in hj (by omega))
    rw [if_neg (show ¬ (¬ a1 < 0 ∧ a1 < nI (7 + 1)) from c), if_pos rfl, if_neg (show ¬ a1 = 0 from n8 0 (by omega)), if_neg (show ¬ a1 = 1 from n8 1 (by omega)), if_neg (show ¬ a1 = 2 from n8 2 (by omega)), if_neg (show ¬ a1 = 3 from n8 3 (by omega)), if_neg (show ¬ a1 = 4 from n8 4 (by omega)), if_neg (show ¬ a1 = 5 from n8 5 (by omega)), if_neg (show ¬ a1 = 6 from n8 6 (by omega)), if_neg (show ¬ a1 = 7 from n8 7 (by omega))]
    by_cases c8 : a1 = 8
    · rw [if_pos c8, if_pos c8]
      obtain ⟨S, s1, s2, s3, s4⟩ := h.1.1
      exact ⟨_, _, rfl, rfl, by rw [s2, s3], β, L, h⟩
    · rw [if_neg c8, if_neg c8]
      exact ⟨_, _, rfl, rfl, rfl, β, L, h⟩
theorem lt_pick {p : Int32} {n : Nat} (c : ¬ (¬ p < 0 ∧ p < nI n)) {γ : Type} {x y z : γ} : (if p < 0 then x else if p < nI n then y else x) = x := by
  by_cases c1 : p < 0
  · rw [if_pos c1]
  · rw [if_neg c1, if_neg (fun q => c ⟨c1, q⟩)]
theorem ok_task : ∀ M : Mw, Inv M → ∀ a1 a2 : Int32, ∃ (r1 : Int32) (r2 : Int32), F_X9_task a1 a2 M = some r1 ∧ F_X10_task a1 a2 M = some r2 ∧ r1 = r2 ∧ Inv M := by
  intro M hM a1 a2
  obtain ⟨β, L, h⟩ := hM
  have hx := h.2.1.1
  have hT5 := hx.1.1.2.2.2.2
  unfold F_X9_task F_X10_task
  rcases task_cases h.2.1 a1 with ⟨t1, t2⟩ | ⟨t, ht, rfl, t1, t2⟩
  · rw [t1, t2 M h.2.1.2.2, Option.bind_some, Option.bind_some, if_pos rfl, if_pos rfl]
    exact ⟨_, _, rfl, rfl, rfl, β, L, h⟩
  rw [t1, t2 M h.2.1.2.2, Option.bind_some, Option.bind_some, if_neg (show ¬ (1 : Int32) = 0 by decide), if_neg (show ¬ (1 : Int32) = 0 by decide), r_in0n a2 (n := 6) (by omega) (by decide), Option.bind_some]
  rcases rng_cases a2 (show 7 < 2 ^ 31 by omega) with ⟨j, hj, rfl⟩ | c
  · rw [if_neg (nI_pos (by omega)), if_pos (show nI j < 7 from nI_lt (b := 7) hj (by omega)), if_pos (inb_nI (by omega) (by omega)), if_pos (inb_nI (by omega) (by omega)), clampI (by omega), clampI (by omega), if_pos (show ¬ nI j < 0 ∧ nI j < nI (6 + 1) from rng_in hj (by omega)), if_neg (show ¬ (1 : Int32) = 0 by decide), r_told (by omega) hj, Option.bind_some]
    exact ⟨_, _, rfl, rfl, by rw [h.2.1.2.1.d.2.2.1 t ht j hj, h.2.1.2.2.2.1 t ht j hj], β, L, h⟩
  · rw [if_neg (show ¬ (¬ a2 < 0 ∧ a2 < nI (6 + 1)) from c), if_pos rfl]
    have : (if a2 < 0 then some (-2) else (if a2 < 7 then (if inb (nI t) 5 then (if inb a2 7 then some (M.1 4 1 (nI t).toNatClampNeg a2.toNatClampNeg) else none) else none) else some (-2))) = some (-2) := by
      by_cases c1 : a2 < 0
      · rw [if_pos c1]
      · rw [if_neg c1, if_neg (show ¬ a2 < 7 from fun q => c ⟨c1, q⟩)]
    rw [this]
    exact ⟨_, _, rfl, rfl, rfl, β, L, h⟩
theorem ok_watcher : ∀ M : Mw, Inv M → ∀ a1 : Int32, ∃ (r1 : Int32) (r2 : Int32), F_X9_watcher a1 M = some r1 ∧ F_X10_watcher a1 M = some r2 ∧ r1 = r2 ∧ Inv M := by
  intro M hM a1
  obtain ⟨β, L, h⟩ := hM
  have hx := h.2.1.1
  have hW3 := hx.1.1.2.2.2.1
  unfold F_X9_watcher F_X10_watcher
  rcases wat_cases h.2.1 a1 with ⟨t1, t2⟩ | ⟨w, hw, rfl, t1, t2⟩
  · rw [t1, t2 M h.2.1.2.2, Option.bind_some, Option.bind_some, if_pos rfl, if_pos rfl]
    exact ⟨_, _, rfl, rfl, rfl, β, L, h⟩
  have e8 : 8 + nI w = nI (8 + w) := nI_add 8 w
  rw [t1, t2 M h.2.1.2.2, Option.bind_some, Option.bind_some, if_neg (show ¬ (1 : Int32) = 0 by decide), if_neg (show ¬ (1 : Int32) = 0 by decide), if_pos (inb_nI (by omega) (by omega)), clampI (by omega), e8, if_pos (inb_nI (by omega) (by omega)), clampI (by omega)]
  exact ⟨_, _, rfl, rfl, by rw [(h.2.1.2.1.d.2.2.2.2.1 w hw).1, h.2.1.2.2.2.2.2.1 w hw], β, L, h⟩
theorem ok_injection : ∀ M : Mw, Inv M → ∀ a1 a2 : Int32, ∃ (r1 : Int32) (r2 : Int32), F_X9_injection a1 a2 M = some r1 ∧ F_X10_injection a1 a2 M = some r2 ∧ r1 = r2 ∧ Inv M := by
  intro M hM a1 a2
  obtain ⟨β, L, h⟩ := hM
  have hx := h.2.1.1
  have hlen := hx.len
  have hll := hx.2.2.2.1
  obtain ⟨w0, w1, w2, w3, w4, w5, w6, w7⟩ := h.2.1.2.2.1
  unfold F_X9_injection F_X10_injection F_X10_many
  rw [Option.bind_some, w5, w6, nI_add, hll, r_in0 a1 (by omega), Option.bind_some, r_in0n a2 (n := 4) (by omega) (by decide), Option.bind_some]
  rcases inj_cases h.2.1 a1 with ⟨t1, t2⟩ | ⟨i, hi, rfl, t1, t2⟩
  · have := t2 M h.2.1.2.2
    unfold F_X10_isInjection F_X10_many at this
    rw [Option.bind_some, w5, w6, nI_add, hll, r_in0 a1 (by omega), Option.bind_some] at this
    by_cases c : ¬ a1 < 0 ∧ a1 < nI L.length
    · rw [if_pos c, if_pos (by decide)] at this
      exact absurd this (by decide)
    · rw [t1, Option.bind_some, if_pos rfl, if_neg c, if_pos rfl]
      exact ⟨_, _, rfl, rfl, rfl, β, L, h⟩
  rw [t1, Option.bind_some, if_neg (show ¬ (1 : Int32) = 0 by decide), if_pos (rng_in hi (by omega)), if_neg (show ¬ (1 : Int32) = 0 by decide)]
  rcases rng_cases a2 (show 5 < 2 ^ 31 by omega) with ⟨j, hj, rfl⟩ | c
  · rw [if_neg (nI_pos (by omega)), if_pos (show nI j < 5 from nI_lt (b := 5) hj (by omega)), if_pos (inb_nI (by omega) (by omega)), if_pos (inb_nI (by omega) (by omega)), clampI (by omega), clampI (by omega), if_pos (show ¬ nI j < 0 ∧ nI j < nI (4 + 1) from rng_in hj (by omega)), if_neg (show ¬ (1 : Int32) = 0 by decide), r_of (by omega) hj, Option.bind_some]
    have e1 := h.2.1.2.1.d.2.2.2.2.2.2 i hi
    have e2 := h.2.1.2.2.2.2.2.2 i hi
    have erow : row5 (M.1 12 1 i) = row5 (fun p => M.1 51 0 0 (106 + 5 * i + p)) := Option.some.inj (e1.symm.trans e2)
    obtain ⟨x0, x1, x2, x3, x4⟩ : M.1 12 1 i 0 = M.1 51 0 0 (106 + 5 * i) ∧ M.1 12 1 i 1 = M.1 51 0 0 (106 + 5 * i + 1) ∧ M.1 12 1 i 2 = M.1 51 0 0 (106 + 5 * i + 2) ∧ M.1 12 1 i 3 = M.1 51 0 0 (106 + 5 * i + 3) ∧ M.1 12 1 i 4 = M.1 51 0 0 (106 + 5 * i + 4) := by simpa using erow
    refine ⟨_, _, rfl, rfl, ?_, β, L, h⟩
    rcases (by omega : j = 0 ∨ j = 1 ∨ j = 2 ∨ j = 3 ∨ j = 4) with rfl | rfl | rfl | rfl | rfl
    · exact x0
    · exact x1
    · exact x2
    · exact x3
    · exact x4
  · rw [if_neg (show ¬ (¬ a2 < 0 ∧ a2 < nI (4 + 1)) from c), if_pos rfl]
    have : (if a2 < 0 then some (-2) else (if a2 < 5 then (if inb (nI i) 19 then (if inb a2 5 then some (M.1 12 1 (nI i).toNatClampNeg a2.toNatClampNeg) else none) else none) else some (-2))) = some (-2) := by
      by_cases c1 : a2 < 0
      · rw [if_pos c1]
      · rw [if_neg c1, if_neg (show ¬ a2 < 5 from fun q => c ⟨c1, q⟩)]
    rw [this]
    exact ⟨_, _, rfl, rfl, rfl, β, L, h⟩
theorem ok_end : ∀ M : Mw, Inv M → ∀ a1 : Int32, ∃ (r1 : Int32 × Mw) (r2 : Int32 × Mw), F_X9_end a1 M = some r1 ∧ F_X10_end a1 r1.2 = some r2 ∧ r1.1 = r2.1 ∧ Inv r2.2 := by
  intro M hM a1
  obtain ⟨β, L, h⟩ := hM
  obtain ⟨S, s1, s2, s3, s4⟩ := h.1.1
  unfold F_X9_end F_X6_cut
  rw [s2]
  have href : ∀ M' : Mw, M'.1 50 0 0 5 = nI S → F_X10_end a1 M' = if ¬ a1 < 0 ∧ a1 < nI (S + 1) then some (a1, uIw M' 50 0 0 5 a1) else some ((-1), M') := by
    intro M' e
    unfold F_X10_end
    rw [e, r_in0n a1 (n := S) (by omega) rfl, Option.bind_some]
    by_cases c : ¬ a1 < 0 ∧ a1 < nI (S + 1)
    · rw [if_pos c, if_neg (show ¬ (1 : Int32) = 0 by decide), if_pos c, bd_eq]
    · rw [if_neg c, if_pos rfl, if_neg c]
  rcases rng_cases a1 (show S + 1 < 2 ^ 31 by omega) with ⟨j, hj, rfl⟩ | c
  · rw [if_neg (nI_pos (by omega)), if_pos (nI_le (by omega) (by omega)), bd_eq, Option.bind_some]
    have hF : Fr (fun κ _ => κ = 15) M (uIw M 15 0 0 1 (nI j)) := Fr.uI rfl
    refine ⟨_, (nI j, uIw (uIw M 15 0 0 1 (nI j)) 50 0 0 5 (nI j)), rfl, ?_, rfl, β, L, ?_⟩
    · show F_X10_end (nI j) (uIw M 15 0 0 1 (nI j)) = _
      rw [href _ (by rw [uI_k (by decide), s3]), if_pos (rng_in hj (by omega))]
    · obtain ⟨hT, hI, h3, ⟨k, hk, h4⟩, h5⟩ := h
      obtain ⟨M2, hM2⟩ : ∃ M2, M2 = uIw (uIw M 15 0 0 1 (nI j)) 50 0 0 5 (nI j) := ⟨_, rfl⟩
      have e : ∀ κ, κ ≠ 15 → κ ≠ 50 → M2.1 κ = M.1 κ := fun κ a b => by rw [hM2, uI_k b, uI_k a]
      have hF2 : Fr (fun κ _ => κ = 15 ∨ κ = 50) M M2 := by rw [hM2]; exact (Fr.uI (Or.inl rfl)).trans (Fr.uI (Or.inr rfl))
      rw [← hM2]
      obtain ⟨-, f1, f2, im, l1, l2⟩ := hT
      refine ⟨⟨⟨j, by omega, by rw [hM2, uI_k (by decide), uI1, if_pos ⟨rfl, rfl, rfl, rfl⟩], by rw [hM2, uI1, if_pos ⟨rfl, rfl, rfl, rfl⟩], fun i hi => by rw [e 16 (by decide) (by decide), e 54 (by decide) (by decide)]; exact s4 i (by omega)⟩, ?_, ?_, fun k hk => ?_, by rw [e 21 (by decide) (by decide)]; exact l1, by rw [e 21 (by decide) (by decide)]; exact l2⟩, ⟨hI.1, hI.2.1.fr (fun κ hκ => (hF2 κ 1 (by omega)).1), by rw [e 51 (by decide) (by decide)]; exact hI.2.2⟩, h3.fr (fun κ hκ => (hF2 κ 5 (by omega)).1) (fun κ a b => hF2 κ 0 (by omega)), ⟨k, hk, h4.fr (fun κ hκ => (hF2 κ 6 (by omega)).1) (fun κ a b => hF2 κ 1 (by omega))⟩, h5.1.fr (hF2 25 1 (by omega)).1, fun t ht kd hkd => by rw [e 40 (by decide) (by decide), e 38 (by decide) (by decide)]; exact h5.2 t ht kd hkd⟩
      · rw [e 13 (by decide) (by decide), hM2, uI1, if_neg (by omega), uI_k (by decide)]; exact f1
      · rw [e 13 (by decide) (by decide), hM2, uI1, if_neg (by omega), uI_k (by decide)]; exact f2
      · rw [e 43 (by decide) (by decide), e 53 (by decide) (by decide), e 52 (by decide) (by decide)]
        rcases im k hk with q | ⟨β', L', q1, q2, q3, q4, q5⟩
        · exact Or.inl q
        · exact Or.inr ⟨β', L', q1, q2, q3, q4.fr (fun κ hκ => (hF2 κ (k + 2) (by omega)).1), q5⟩
  · have : (if a1 < 0 then some ((-1), M) else (if a1 ≤ nI S then (bd (uIw M 15 0 0 1 a1) (fun M3 => some (a1, M3))) else some ((-1), M))) = some ((-1 : Int32), M) := by
      by_cases c1 : a1 < 0
      · rw [if_pos c1]
      · rw [if_neg c1, if_neg (fun q => c ⟨c1, (le_pred a1 (by omega)).mp q⟩)]
    rw [this, Option.bind_some]
    refine ⟨_, ((-1), M), rfl, ?_, rfl, β, L, h⟩
    show F_X10_end a1 M = _
    rw [href M s3, if_neg c]
