/-! THE RUN'S BEGIN, and the run, on both sides -/
theorem nI_any (v : Int32) : nI v.toBitVec.toNat = v := by
  apply Int32.toBitVec_inj.mp
  apply BitVec.eq_of_toNat_eq
  show (Int32.ofNat v.toBitVec.toNat).toBitVec.toNat = _
  rw [Int32.toBitVec_ofNat', BitVec.toNat_ofNat]
  exact Nat.mod_eq_of_lt v.toBitVec.isLt
/-- what the beginning of a run leaves -/
def RBeg (M : Mw) (β : Bw) : Prop := RTs M β V0w ∧ (∀ i, i < 19 → M.1 84 0 0 i = 0) ∧ (∀ o, o < 3 → M.1 85 0 0 o = 0 ∧ M.1 86 0 0 o = 0) ∧ (∀ i, i < 200 → M.1 87 0 0 i = -1) ∧ M.1 50 0 0 56 = 0 ∧ M.1 50 0 0 57 = 0 ∧ M.1 50 0 0 59 = -1
theorem r_beg190 {M0 M : Mw} {β : Bw} (hO : OnT M0 M) (h1 : RTs M β V0w) (h2 : ∀ i, i < 19 → M.1 84 0 0 i = 0) (h3 : ∀ o, o < 3 → M.1 85 0 0 o = 0 ∧ M.1 86 0 0 o = 0) : ∃ M', it (fun _ _ => none) (B_X10_beginRun_190) FU 0 M = some M' ∧ RBeg M' β ∧ OnT M0 M' ∧ M'.1 83 = M.1 83 := by
  have key := it_for (z := fun _ _ => none) (B := B_X10_beginRun_190) (n := 200) (P := fun n M1 => (∀ i, i < n → M1.1 87 0 0 i = -1) ∧ Fr (fun κ _ => κ = 87) M M1)
    (Q := fun o => ∃ M', o = some M' ∧ RBeg M' β ∧ OnT M0 M' ∧ M'.1 83 = M.1 83)
    (fun kk n M1 hn hP => by
      obtain ⟨p1, p2⟩ := hP
      left
      unfold B_X10_beginRun_190
      rw [if_neg (show ¬ (200 : Int32) ≤ nI n from nI_ge (b := 200) hn (by omega)), if_pos (inb_nI hn (by omega)), clampI (by omega), bd_eq, bd_eq, nI_1]
      refine ⟨_, rfl, fun i hi => ?_, p2.trans (Fr.uI rfl)⟩
      rw [uI1]
      by_cases z : i = n
      · rw [if_pos ⟨rfl, rfl, rfl, z⟩]
      · rw [if_neg (fun q => z q.2.2.2)]
        exact p1 i (by omega))
    (fun kk M1 hP => by
      obtain ⟨p1, p2⟩ := hP
      unfold B_X10_beginRun_190
      rw [if_pos (show (200 : Int32) ≤ nI 200 by decide), bd_eq, bd_eq, bd_eq]
      obtain ⟨M', hM'⟩ : ∃ M', M' = uIw (uIw (uIw M1 50 0 0 56 0) 50 0 0 57 0) 50 0 0 59 (-1) := ⟨_, rfl⟩
      have hF : Fr (fun κ _ => κ = 50) M1 M' := by
        rw [hM']
        exact ((Fr.uI (S := fun κ _ => κ = 50) rfl).trans (Fr.uI (S := fun κ _ => κ = 50) rfl)).trans (Fr.uI (S := fun κ _ => κ = 50) rfl)
      have e : ∀ κ, κ ≠ 50 → κ ≠ 87 → M'.1 κ = M.1 κ := fun κ a b => by rw [hF.k1 (fun _ => a), p2.k1 (fun _ => b)]
      refine ⟨M', by rw [hM'], ⟨(h1.fr p2 (fun κ b _ _ => by omega)).fr hF (fun κ b _ _ => by omega), fun i hi => by rw [e 84 (by decide) (by decide)]; exact h2 i hi, fun o ho => by rw [e 85 (by decide) (by decide), e 86 (by decide) (by decide)]; exact h3 o ho, fun i hi => by rw [hF.k1 (fun b => by omega)]; exact p1 i hi, ?_, ?_, ?_⟩, hO.trans ⟨(p2.mono (fun κ _ q => by omega)).trans (hF.mono (fun κ _ q => by omega)), fun j j1 j2 j3 j4 => ?_⟩, e 83 (by decide) (by decide)⟩
      · simp [hM', uI1]
      · simp [hM', uI1]
      · simp [hM', uI1]
      · rw [hM', uI1, if_neg (fun q => j4 q.2.2.2), uI1, if_neg (fun q => j2 q.2.2.2), uI1, if_neg (fun q => j1 q.2.2.2), p2.k1 (fun b => by omega)])
    FU 0 M (by omega) (by unfold FU; omega) ⟨fun i hi => by omega, Fr.rfl⟩
  rw [nI_0] at key
  exact key
theorem r_beg163 {M0 M : Mw} {β : Bw} (hO : OnT M0 M) (h1 : RTs M β V0w) (h2 : ∀ i, i < 19 → M.1 84 0 0 i = 0) : ∃ M', it (fun _ _ => none) (B_X10_beginRun_163) FU 0 M = some M' ∧ RBeg M' β ∧ OnT M0 M' ∧ M'.1 83 = M.1 83 := by
  have key := it_for (z := fun _ _ => none) (B := B_X10_beginRun_163) (n := 3) (P := fun n M1 => (∀ i, i < n → M1.1 85 0 0 i = 0 ∧ M1.1 86 0 0 i = 0) ∧ Fr (fun κ _ => κ = 85 ∨ κ = 86) M M1)
    (Q := fun o => ∃ M', o = some M' ∧ RBeg M' β ∧ OnT M0 M' ∧ M'.1 83 = M.1 83)
    (fun kk n M1 hn hP => by
      obtain ⟨p1, p2⟩ := hP
      left
      have hin : inb (nI n) 3 = true := inb_nI hn (by omega)
      unfold B_X10_beginRun_163
      rw [if_neg (show ¬ (3 : Int32) ≤ nI n from nI_ge (b := 3) hn (by omega)), if_pos hin, clampI (by omega), bd_eq, if_pos hin, nar0, bd_eq, bd_eq, nI_1]
      refine ⟨_, rfl, fun i hi => ?_, (p2.trans (Fr.uI (Or.inl rfl))).trans (Fr.uI (Or.inr rfl))⟩
      by_cases z : i = n
      · subst z
        refine ⟨?_, ?_⟩
        · rw [uI_k (by decide), uI1, if_pos ⟨rfl, rfl, rfl, rfl⟩]
        · rw [uI1, if_pos ⟨rfl, rfl, rfl, rfl⟩]
      · rw [uI_k (by decide), uI1, if_neg (fun q => z q.2.2.2), uI1, if_neg (fun q => z q.2.2.2), uI_k (by decide)]
        exact p1 i (by omega))
    (fun kk M1 hP => by
      obtain ⟨p1, p2⟩ := hP
      unfold B_X10_beginRun_163
      rw [if_pos (show (3 : Int32) ≤ nI 3 by decide)]
      obtain ⟨M', t1, t2, t3, t4⟩ := r_beg190 (M0 := M0) (hO.trans ⟨p2.mono (fun κ _ q => by omega), fun j _ _ _ _ => by rw [p2.k1 (fun b => by omega)]⟩) (h1.fr p2 (fun κ b _ _ => by omega)) (fun i hi => by rw [p2.k1 (fun b => by omega)]; exact h2 i hi) p1
      exact ⟨M', t1, t2, t3, by rw [t4, p2.k1 (fun b => by omega)]⟩)
    FU 0 M (by omega) (by unfold FU; omega) ⟨fun i hi => by omega, Fr.rfl⟩
  rw [nI_0] at key
  exact key
theorem r_beg142 {M0 M : Mw} {β : Bw} (hO : OnT M0 M) (h1 : RTs M β V0w) : ∃ M', it (fun _ _ => none) (B_X10_beginRun_142) FU 0 M = some M' ∧ RBeg M' β ∧ OnT M0 M' ∧ M'.1 83 = M.1 83 := by
  have key := it_for (z := fun _ _ => none) (B := B_X10_beginRun_142) (n := 19) (P := fun n M1 => (∀ i, i < n → M1.1 84 0 0 i = 0) ∧ Fr (fun κ _ => κ = 84) M M1)
    (Q := fun o => ∃ M', o = some M' ∧ RBeg M' β ∧ OnT M0 M' ∧ M'.1 83 = M.1 83)
    (fun kk n M1 hn hP => by
      obtain ⟨p1, p2⟩ := hP
      left
      unfold B_X10_beginRun_142
      rw [if_neg (show ¬ (18 : Int32) < nI n from nI_nlt (a := 18) (by omega) (by omega)), if_pos (inb_nI hn (by omega)), clampI (by omega), nar0, bd_eq, bd_eq, nI_1]
      refine ⟨_, rfl, fun i hi => ?_, p2.trans (Fr.uI rfl)⟩
      rw [uI1]
      by_cases z : i = n
      · rw [if_pos ⟨rfl, rfl, rfl, z⟩]
      · rw [if_neg (fun q => z q.2.2.2)]
        exact p1 i (by omega))
    (fun kk M1 hP => by
      obtain ⟨p1, p2⟩ := hP
      unfold B_X10_beginRun_142
      rw [if_pos (show (18 : Int32) < nI 19 by decide)]
      obtain ⟨M', t1, t2, t3, t4⟩ := r_beg163 (M0 := M0) (hO.trans ⟨p2.mono (fun κ _ q => by omega), fun j _ _ _ _ => by rw [p2.k1 (fun b => by omega)]⟩) (h1.fr p2 (fun κ b _ _ => by omega)) p1
      exact ⟨M', t1, t2, t3, by rw [t4, p2.k1 (fun b => by omega)]⟩)
    FU 0 M (by omega) (by unfold FU; omega) ⟨fun i hi => by omega, Fr.rfl⟩
  rw [nI_0] at key
  exact key
theorem r_beg120 {M0 M : Mw} {β : Bw} (hO : OnT M0 M) (h1 : RTs M β V0w) : ∃ M', it (fun _ _ => none) (B_X10_beginRun_120) FU 0 M = some M' ∧ RBeg M' β ∧ OnT M0 M' ∧ ∀ i, i < 255 → M'.1 83 0 0 i = -1 := by
  have key := it_for (z := fun _ _ => none) (B := B_X10_beginRun_120) (n := 255) (P := fun n M1 => (∀ i, i < n → M1.1 83 0 0 i = -1) ∧ Fr (fun κ _ => κ = 83) M M1)
    (Q := fun o => ∃ M', o = some M' ∧ RBeg M' β ∧ OnT M0 M' ∧ ∀ i, i < 255 → M'.1 83 0 0 i = -1)
    (fun kk n M1 hn hP => by
      obtain ⟨p1, p2⟩ := hP
      left
      unfold B_X10_beginRun_120
      rw [if_neg (show ¬ (255 : Int32) ≤ nI n from nI_ge (b := 255) hn (by omega)), if_pos (inb_nI hn (by omega)), clampI (by omega), bd_eq, bd_eq, nI_1]
      refine ⟨_, rfl, fun i hi => ?_, p2.trans (Fr.uI rfl)⟩
      rw [uI1]
      by_cases z : i = n
      · rw [if_pos ⟨rfl, rfl, rfl, z⟩]
      · rw [if_neg (fun q => z q.2.2.2)]
        exact p1 i (by omega))
    (fun kk M1 hP => by
      obtain ⟨p1, p2⟩ := hP
      unfold B_X10_beginRun_120
      rw [if_pos (show (255 : Int32) ≤ nI 255 by decide)]
      obtain ⟨M', q1, q2, q3, q4⟩ := r_beg142 (M0 := M0) (hO.trans ⟨p2.mono (fun κ _ q => by omega), fun j _ _ _ _ => by rw [p2.k1 (fun b => by omega)]⟩) (h1.fr p2 (fun κ b _ _ => by omega))
      exact ⟨M', q1, q2, q3, fun i hi => by rw [q4]; exact p1 i hi⟩)
    FU 0 M (by omega) (by unfold FU; omega) ⟨fun i hi => by omega, Fr.rfl⟩
  rw [nI_0] at key
  exact key
theorem r_beginRun {M : Mw} {β : Bw} (hT5 : β 0 0 5 ≤ 5) : ∃ M', F_X10_beginRun M = some M' ∧ RBeg M' β ∧ OnT M M' ∧ ∀ i, i < 255 → M'.1 83 0 0 i = -1 := by
  have key := it_for (z := fun _ _ => none) (B := B_X10_beginRun_2) (n := 5) (P := fun n M1 => (∀ t, t < n → RT M1 V0w t) ∧ Fr STs M M1)
    (Q := fun o => ∃ M', o = some M' ∧ RBeg M' β ∧ OnT M M' ∧ ∀ i, i < 255 → M'.1 83 0 0 i = -1)
    (fun kk n M1 hn hP => by
      obtain ⟨p1, p2⟩ := hP
      left
      have hin : inb (nI n) 5 = true := inb_nI hn (by omega)
      unfold B_X10_beginRun_2
      rw [if_neg (show ¬ (5 : Int32) ≤ nI n from nI_ge (b := 5) hn (by omega))]
      simp only [hin, if_true, bd_eq, nar0, clampI (show n < 2 ^ 31 by omega), nI_1]
      refine ⟨_, rfl, fun t ht => ?_, ?_⟩
      · have hO : OnR n M1 (uIw (uDw (uIw (uIw (uIw (uIw (uFw (uIw (uIw (uIw (uIw (uIw (uIw (uIw (uIw M1 64 0 0 n 0) 65 0 0 n (-1)) 66 0 0 n 0) 69 0 0 n 1) 70 0 0 n (-1)) 71 0 0 n 0) 72 0 0 n 0) 73 0 0 n 0) 74 0 0 n FP.fconst1) 75 0 0 n 0) 76 0 0 n 0) 77 0 0 n 0) 78 0 0 n (-1)) 80 0 0 n FP.dconst0) 81 0 0 n 0) := by
          refine OnR.trans ?_ (OnR.uI (by decide) (by decide))
          refine OnR.trans ?_ (OnR.uD (by decide) (by decide))
          refine OnR.trans ?_ (OnR.uI (by decide) (by decide))
          refine OnR.trans ?_ (OnR.uI (by decide) (by decide))
          refine OnR.trans ?_ (OnR.uI (by decide) (by decide))
          refine OnR.trans ?_ (OnR.uI (by decide) (by decide))
          refine OnR.trans ?_ (OnR.uF (by decide) (by decide))
          refine OnR.trans ?_ (OnR.uI (by decide) (by decide))
          refine OnR.trans ?_ (OnR.uI (by decide) (by decide))
          refine OnR.trans ?_ (OnR.uI (by decide) (by decide))
          refine OnR.trans ?_ (OnR.uI (by decide) (by decide))
          refine OnR.trans ?_ (OnR.uI (by decide) (by decide))
          refine OnR.trans ?_ (OnR.uI (by decide) (by decide))
          exact (OnR.uI (by decide) (by decide)).trans (OnR.uI (by decide) (by decide))
        by_cases z : t = n
        · subst z
          have e6 : V0w.1 t 6 = 1 := rfl
          have e0 : ∀ f, f ≠ 6 → V0w.1 t f = 0 := fun f hf => if_neg hf
          have em : nI 0 + (-1) = -1 := by decide
          unfold RT
          rw [e6, e0 0 (by decide), e0 1 (by decide), e0 2 (by decide), e0 3 (by decide), e0 5 (by decide), e0 7 (by decide), e0 8 (by decide), e0 9 (by decide), e0 10 (by decide), e0 12 (by decide), e0 13 (by decide), e0 14 (by decide), em, if_pos rfl, if_pos rfl, if_pos rfl]
          refine ⟨?_, ?_, ?_, fun q => absurd q (Nat.lt_irrefl 0), ?_, ?_, ?_, ?_, ?_, ?_, ?_, ?_, ?_, ?_, ?_, fun q => absurd q (Nat.lt_irrefl 0), ?_⟩
          · simp [uI1, uF1, uD1]; decide
          · simp [uI1, uF1, uD1]; decide
          · simp [uI1, uF1, uD1]
          · simp [uI1, uF1, uD1]
          · simp [uI1, uF1, uD1]
          · simp [uI1, uF1, uD1]; decide
          · simp [uI1, uF1, uD1]; decide
          · simp [uI1, uF1, uD1]; decide
          · simp [uI1, uF1, uD1]; decide
          · simp [uI1, uF1, uD1]; decide
          · simp [uI1, uF1, uD1]; decide
          · simp [uI1, uF1, uD1]
          · simp [uI1, uF1, uD1]; decide
          · simp [uI2, uF2, uD2]; rfl
          · simp [uI2, uF3, uD3]; rfl
        · exact (p1 t (by omega)).on hO z VE.rfl
      · refine p2.trans ?_
        refine Fr.trans ?_ (Fr.uI (by decide))
        refine Fr.trans ?_ (Fr.uD (by decide))
        refine Fr.trans ?_ (Fr.uI (by decide))
        refine Fr.trans ?_ (Fr.uI (by decide))
        refine Fr.trans ?_ (Fr.uI (by decide))
        refine Fr.trans ?_ (Fr.uI (by decide))
        refine Fr.trans ?_ (Fr.uF (by decide))
        refine Fr.trans ?_ (Fr.uI (by decide))
        refine Fr.trans ?_ (Fr.uI (by decide))
        refine Fr.trans ?_ (Fr.uI (by decide))
        refine Fr.trans ?_ (Fr.uI (by decide))
        refine Fr.trans ?_ (Fr.uI (by decide))
        refine Fr.trans ?_ (Fr.uI (by decide))
        exact (Fr.uI (by decide)).trans (Fr.uI (by decide)))
    (fun kk M1 hP => by
      obtain ⟨p1, p2⟩ := hP
      unfold B_X10_beginRun_2
      rw [if_pos (show (5 : Int32) ≤ nI 5 by decide)]
      obtain ⟨M', q1, q2, q3, q4⟩ := r_beg120 (M0 := M) (M := M1) (β := β) ⟨p2.mono (fun κ _ q => by unfold STs at q; omega), fun j _ _ _ _ => by rw [p2.k1 (fun b => by omega)]⟩ (fun t ht => p1 t (by omega))
      exact ⟨M', q1, q2, q3, q4⟩)
    FU 0 M (by omega) (by unfold FU; omega) ⟨fun t ht => by omega, Fr.rfl⟩
  rw [nI_0] at key
  exact key
theorem RBeg.run {M : Mw} {β : Bw} {L : Lw} (hW3 : β 0 0 4 ≤ 3) (hT5 : β 0 0 5 ≤ 5) (h83 : ∀ i, i < 255 → M.1 83 0 0 i = -1) (h : RBeg M β) (hB : RBd M β L) : RRun M β L 0 (rn β L 0) := by
  obtain ⟨h1, h2, h3, h4, h56, h57, h59⟩ := h
  refine ⟨hB, ?_, ⟨(M.1 50 0 0 58).toBitVec.toNat, ?_⟩, fun t ht => ⟨rfl, fun j g hj => ?_⟩, fun t ht j hj => by rw [h83 _ (by omega)]; exact (if_neg (show ¬ j < (rn β L 0).1.1.1 t 1 from Nat.not_lt_zero _)).symm, fun i hi => ?_, fun _ o ho => (h3 o ho).2⟩
  · have e : rvR β 0 (rn β L 0) = rvV β 0 V0w := if_neg (fun q => q rfl)
    rw [e]
    refine h1.ve (fun t _ => ⟨?_, rfl, rfl, rfl⟩)
    show fgF (cyB β 0) (V0w.1 t) = V0w.1 t
    funext f
    unfold fgF
    by_cases c : cyB β 0 = true ∧ (f = 9 ∨ f = 10)
    · rw [if_pos c]
      rcases c.2 with rfl | rfl <;> rfl
    · rw [if_neg c]
  · refine ⟨h57, by rw [h59]; show (-1 : Int32) = nI 0 + (-1); decide, (nI_any _).symm, fun w hw => (h3 w (by omega)).1, h56, fun i r hr => ?_, fun I hI hn i hi w x hw hx hrow => ?_⟩
    · have hr' : ([] : List (Nat × Nat × Nat × Nat))[i]? = some r := hr
      rw [List.getElem?_nil] at hr'
      exact absurd hr' (by intro q; cases q)
    · rw [h2 i (by omega)]
      exact (if_neg (Nat.not_lt_zero _)).symm
  · have hj' : ([] : List Nat)[j]? = some g := hj
    rw [List.getElem?_nil] at hj'
    exact absurd hj' (by intro q; cases q)
  · rw [h4 i hi]
    show (-1 : Int32) = nI 0 + (-1)
    decide
