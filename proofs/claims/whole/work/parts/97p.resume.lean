/-! THE TRIAL STANDS WHERE THE VIEW STANDS -/
theorem c_copyRecs {b b1 n : Nat} {M : Mw} (hne : b1 ≠ b) (hn : n ≤ 128) (h : M.1 26 b1 0 1 = nI n) : ∃ M', F_X4_copyFrom b b1 M = some M' ∧ M'.1 26 b 0 1 = nI n ∧ (∀ i, i < n → ∀ j, j < 4 → M'.1 28 b i j = M.1 28 b1 i j) ∧ Fr (fun κ b' => (κ = 26 ∨ κ = 28) ∧ b' = b) M M' := by
  obtain ⟨M0, hM0⟩ : ∃ M0, M0 = uIw M 26 b 0 1 (M.1 26 b1 0 1) := ⟨_, rfl⟩
  have e26 : M0.1 26 b 0 1 = nI n := by rw [hM0, uI1, if_pos ⟨rfl, rfl, rfl, rfl⟩, h]
  have e28 : M0.1 28 = M.1 28 := by rw [hM0, uI_k (by decide)]
  have hF0 : Fr (fun κ b' => (κ = 26 ∨ κ = 28) ∧ b' = b) M M0 := by rw [hM0]; exact Fr.uI ⟨Or.inl rfl, rfl⟩
  have key := it_for (z := fun _ _ => none) (B := B_X4_copyFrom_10 b b1) (n := n) (P := fun k M1 => (∀ i, i < k → ∀ j, j < 4 → M1.1 28 b i j = M.1 28 b1 i j) ∧ Fr (fun κ b' => κ = 28 ∧ b' = b) M0 M1)
    (Q := fun o => ∃ M', o = some M' ∧ M'.1 26 b 0 1 = nI n ∧ (∀ i, i < n → ∀ j, j < 4 → M'.1 28 b i j = M.1 28 b1 i j) ∧ Fr (fun κ b' => (κ = 26 ∨ κ = 28) ∧ b' = b) M M')
    (fun kk k M1 hk hP => by
      obtain ⟨p1, p2⟩ := hP
      left
      unfold B_X4_copyFrom_10
      rw [(p2 26 b (by omega)).1, e26, if_neg (nI_ge hk (by omega)), if_pos (inb_nI (by omega) (by omega)), if_pos (inb_nI (by omega) (by omega)), clampI (by omega), bd_eq, bd_eq, nI_1]
      refine ⟨_, rfl, fun i hi j hj => ?_, p2.trans (Fr.rI ⟨rfl, rfl⟩)⟩
      rw [rI1]
      by_cases z : i = k
      · rw [if_pos ⟨rfl, rfl, z⟩, cpy_in hj, (p2 28 b1 (fun q => hne q.2)).1, e28, z]
      · rw [if_neg (fun q => z q.2.2)]
        exact p1 i (by omega) j hj)
    (fun kk M1 hP => by
      obtain ⟨p1, p2⟩ := hP
      unfold B_X4_copyFrom_10
      have e : M1.1 26 b 0 1 = nI n := by rw [(p2 26 b (by omega)).1, e26]
      rw [e, if_pos (Int32.le_refl _)]
      exact ⟨M1, rfl, e, p1, hF0.trans (p2.mono (fun κ b' q => ⟨Or.inr q.1, q.2⟩))⟩)
    FU 0 M0 (Nat.zero_le _) (by unfold FU; omega) ⟨fun i hi => by omega, Fr.rfl⟩
  rw [nI_0] at key
  unfold F_X4_copyFrom
  rw [bd_eq, ← hM0]
  exact key
def Pl (js : List Nat) (M M1 : Mw) : Prop := Fr (fun κ b' => κ = 23 ∧ b' = 2) M M1 ∧ ∀ j, j ∈ js → M1.1 23 2 0 j = M.1 23 1 0 j
theorem pl_s {js : List Nat} {j : Nat} {M M1 : Mw} (h : Pl js M M1) : Pl (j :: js) M (uIw M1 23 2 0 j (M1.1 23 1 0 j)) := by
  obtain ⟨h1, h2⟩ := h
  refine ⟨h1.trans (Fr.uI ⟨rfl, rfl⟩), fun i hi => ?_⟩
  rw [uI1]
  by_cases c : i = j
  · rw [if_pos ⟨rfl, rfl, rfl, c⟩, (h1 23 1 (by omega)).1, c]
  · rw [if_neg (fun q => c q.2.2.2)]
    rcases List.mem_cons.mp hi with q | q
    · exact absurd q c
    · exact h2 i q
theorem nar_le {x : Nat} (h : x ≤ 1) : vp_nar .boolean (nI x) = nI x := by
  rcases (by omega : x = 0 ∨ x = 1) with e | e
  · rw [e]; exact nar0
  · rw [e]; exact nar1
theorem c_resume {M : Mw} {β : Bw} {L L' : Lw} {k : Nat} (hW3 : β 0 0 4 ≤ 3) (hT5 : β 0 0 5 ≤ 5) (hv : CRn 1 M β L k) (hB : CBd (2 + 5) M β L') (hz : Zz 1 M) (hlen : (rcs β L k).length ≤ 128) (hsl : ∀ w, w < β 0 0 4 → (rn β L k).1.2.2.1 w ≤ 1) (hc : ∀ t, t < β 0 0 5 → 0 < (rn β L k).1.1.1 t 2 → chV L' (rn β L k).1.1 t = chV L (rn β L k).1.1 t) :
    ∃ M', F_X5_resume 2 1 M = some M' ∧ (∃ A l j, CRun 2 M' β L' k (rn β L k) [] A l j) ∧ Fr (SRun 2) M M' := by
  obtain ⟨v1, v2, ⟨x, g6, g7, g5, g8, gw, gn, gr⟩, v4, v5, v6, v7⟩ := hv
  -- the watchers
  have k86 : ∀ M8 : Mw, Fr (SRun 2) M M8 → CTs 2 M8 β L' (rn β L k).1.1 → (∀ j, j ∈ [7, 5, 4, 3, 6] → M8.1 23 2 0 j = M.1 23 1 0 j) → M8.1 23 2 0 12 = 0 → M8.1 26 2 0 1 = nI (rcs β L k).length → (∀ i, i < (rcs β L k).length → ∀ j, j < 4 → M8.1 28 2 i j = M.1 28 1 i j) →
      ∃ M', it (fun _ _ => none) (B_X5_resume_86 2 1) FU 0 M8 = some M' ∧ (∃ A l j, CRun 2 M' β L' k (rn β L k) [] A l j) ∧ Fr (SRun 2) M M' := by
    intro M8 hF8 hT8 h23 h12 h26 h28
    have key := it_for (z := fun _ _ => none) (B := B_X5_resume_86 2 1) (n := 3) (P := fun n M2 => (∀ w, w < n → w < β 0 0 4 → M2.1 33 2 0 w = nI ((rn β L k).1.2.1 w) + (-1) ∧ M2.1 34 2 0 w = nI ((rn β L k).1.2.2.1 w)) ∧ Fr (fun κ b' => (κ = 33 ∨ κ = 34) ∧ b' = 2) M8 M2)
      (Q := fun o => ∃ M', o = some M' ∧ (∃ A l j, CRun 2 M' β L' k (rn β L k) [] A l j) ∧ Fr (SRun 2) M M')
      (fun kk n M2 hn hP => by
        obtain ⟨p1, p2⟩ := hP
        left
        have hin : inb (nI n) 3 = true := inb_nI hn (by omega)
        have e33 : M2.1 33 1 = M.1 33 1 := by rw [(p2 33 1 (by omega)).1, (hF8 33 1 (by omega)).1]
        have e34 : M2.1 34 1 = M.1 34 1 := by rw [(p2 34 1 (by omega)).1, (hF8 34 1 (by omega)).1]
        unfold B_X5_resume_86
        rw [if_neg (show ¬ (3 : Int32) ≤ nI n from nI_ge (b := 3) hn (by omega)), if_pos hin, if_pos hin, clampI (by omega), bd_eq, if_pos hin, if_pos hin, bd_eq, bd_eq, nI_1]
        refine ⟨_, rfl, fun w hw hw2 => ?_, (p2.trans (Fr.uI ⟨Or.inl rfl, rfl⟩)).trans (Fr.uI ⟨Or.inr rfl, rfl⟩)⟩
        rw [uI_k (κ' := 33) (by decide), uI1, uI1, uI_k (κ' := 34) (by decide), e33, e34]
        by_cases c : w = n
        · rw [if_pos ⟨rfl, rfl, rfl, c⟩, if_pos ⟨rfl, rfl, rfl, c⟩, ← c, (gw w hw2).1, (gw w hw2).2]
          exact ⟨rfl, nar_le (hsl w hw2)⟩
        · rw [if_neg (fun q => c q.2.2.2), if_neg (fun q => c q.2.2.2)]
          exact p1 w (by omega) hw2)
      (fun kk M2 hP => by
        obtain ⟨p1, p2⟩ := hP
        unfold B_X5_resume_86
        rw [if_pos (show (3 : Int32) ≤ nI 3 by decide)]
        have e : ∀ κ, κ ≠ 33 → κ ≠ 34 → M2.1 κ 2 = M8.1 κ 2 := fun κ a b => (p2 κ 2 (fun q => by omega)).1
        have e23 : ∀ j, j ∈ [7, 5, 4, 3, 6] → M2.1 23 2 0 j = M.1 23 1 0 j := fun j hj => by rw [e 23 (by decide) (by decide)]; exact h23 j hj
        have hF2 : Fr (SRun 2) M M2 := hF8.trans (p2.mono (fun κ b' q => ⟨by omega, by omega, q.2⟩))
        refine ⟨M2, rfl, ⟨fun t j => (M2.1 30 2 t j).toBitVec.toNat, lO (rn β L k).2.2.2 k, idl (rn β L k).2.2.2 k, hB.run hF2, hT8.fr p2 (by omega), ⟨(M2.1 23 2 0 8).toBitVec.toNat, ?_, ?_, ?_, (nI_any _).symm, fun w hw => p1 w (by omega) hw, ?_, fun i r hr => ?_⟩, ⟨?_, fun i r hr => ?_⟩, fun t _ j _ _ => (nI_any _).symm, ?_, ?_⟩, hF2⟩
        · rw [e23 6 (by decide)]; exact g6
        · rw [e23 7 (by decide)]; exact g7
        · rw [e23 5 (by decide)]; exact g5
        · rw [e 26 (by decide) (by decide)]; exact h26
        · have hi : i < (rcs β L k).length := (List.getElem?_eq_some_iff.mp hr).1
          rw [e 28 (by decide) (by decide), h28 i hi 0 (by decide), h28 i hi 1 (by decide), h28 i hi 2 (by decide), h28 i hi 3 (by decide)]
          exact gr i r hr
        · rw [e 23 (by decide) (by decide)]; exact h12
        · rw [List.getElem?_nil] at hr
          cases hr
        · rw [e23 3 (by decide)]; exact v6
        · rw [e23 4 (by decide)]; exact v7)
      FU 0 M8 (by omega) (by unfold FU; omega) ⟨fun w hw => by omega, Fr.rfl⟩
    rw [nI_0] at key
    exact key
  unfold F_X5_resume
  refine ex_bd (P := Pl [6] M) (pl_s ⟨Fr.rfl, fun j hj => absurd hj List.not_mem_nil⟩) (fun M1 h1 => ?_)
  refine ex_bd (P := Pl [3, 6] M) (pl_s h1) (fun M2 h2 => ?_)
  refine ex_bd (P := Pl [4, 3, 6] M) (pl_s h2) (fun M3 h3 => ?_)
  refine ex_bd (P := Pl [5, 4, 3, 6] M) (pl_s h3) (fun M4 h4 => ?_)
  refine ex_bd (P := Pl [7, 5, 4, 3, 6] M) (pl_s h4) (fun M5 h5 => ?_)
  refine ex_bd (P := fun M6 => Pl [7, 5, 4, 3, 6] M M6 ∧ M6.1 23 2 0 12 = 0) ⟨⟨h5.1.trans (Fr.uI ⟨rfl, rfl⟩), fun j hj => ?_⟩, ?_⟩ (fun M6 h6 => ?_)
  · rw [uI1, if_neg (fun q => ?_)]
    · exact h5.2 j hj
    · rw [q.2.2.2] at hj
      exact absurd hj (by decide)
  · rw [uI1, if_pos ⟨rfl, rfl, rfl, rfl⟩]
  obtain ⟨⟨hF6, h23⟩, h12⟩ := h6
  obtain ⟨M7, q1, q2, q3, q4⟩ := c_copyRecs (b := 2) (b1 := 1) (n := (rcs β L k).length) (M := M6) (by decide) hlen (by rw [(hF6 26 1 (by omega)).1]; exact gn)
  rw [q1, Option.bind_some]
  have hF7 : Fr (SRun 2) M M7 := (hF6.mono (fun κ b' q => ⟨by omega, by omega, q.2⟩)).trans (q4.mono (fun κ b' q => ⟨by omega, by omega, q.2⟩))
  have key := it_for (z := fun _ _ => none) (B := B_X5_resume_58 2 1) (n := 5) (P := fun n M1 => (∀ t, t < n → t < β 0 0 5 → CT 2 M1 β L' (rn β L k).1.1 t) ∧ Fr (fun κ b' => κ = 25 ∧ b' = 2) M7 M1)
    (Q := fun o => ∃ M', o = some M' ∧ (∃ A l j, CRun 2 M' β L' k (rn β L k) [] A l j) ∧ Fr (SRun 2) M M')
    (fun kk n M1 hn hP => by
      obtain ⟨p1, p2⟩ := hP
      left
      have hin : inb (nI n) 5 = true := inb_nI hn (by omega)
      have hF1 : Fr (SRun 2) M M1 := hF7.trans (p2.mono (fun κ b' q => ⟨by omega, by omega, q.2⟩))
      obtain ⟨o1, o2, o3⟩ := hF1 25 1 (by omega)
      obtain ⟨M9, r1, r2⟩ := c_copyT (b := 2) (i := n) (b1 := 1) (i1 := n) (M := M1) (by decide) (by rw [o1]; exact hz n)
      unfold B_X5_resume_58
      rw [if_neg (show ¬ (5 : Int32) ≤ nI n from nI_ge (b := 5) hn (by omega)), if_pos hin, if_pos hin, clampI (by omega), r1, Option.bind_some, bd_eq, nI_1]
      refine ⟨M9, rfl, fun t ht ht2 => ?_, p2.trans r2.1.fr⟩
      by_cases c : t = n
      · subst c
        exact CT.cp ((v2 t ht2).to (by rw [o1]) (by rw [o2]) (by rw [o3]) VE.rfl) r2 (hc t ht2)
      · obtain ⟨u1, u2, u3⟩ := r2.1 25 2 t (fun q => c q.2.2)
        exact (p1 t (by omega) ht2).to u1 u2 u3 VE.rfl)
    (fun kk M1 hP => by
      obtain ⟨p1, p2⟩ := hP
      unfold B_X5_resume_58
      rw [if_pos (show (5 : Int32) ≤ nI 5 by decide)]
      refine k86 M1 (hF7.trans (p2.mono (fun κ b' q => ⟨by omega, by omega, q.2⟩))) (fun t ht => p1 t (by omega) ht) (fun j hj => ?_) ?_ ?_ (fun i hi j hj => ?_)
      · rw [(p2 23 2 (by omega)).1, (q4 23 2 (by omega)).1]
        exact h23 j hj
      · rw [(p2 23 2 (by omega)).1, (q4 23 2 (by omega)).1]
        exact h12
      · rw [(p2 26 2 (by omega)).1]
        exact q2
      · rw [(p2 28 2 (by omega)).1, q3 i hi j hj, (hF6 28 1 (by omega)).1])
    FU 0 M7 (by omega) (by unfold FU; omega) ⟨fun t ht => by omega, Fr.rfl⟩
  rw [nI_0] at key
  exact key
