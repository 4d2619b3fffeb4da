/-! A CYCLE'S END, the reference -/
theorem r_ec1 {M : Mw} {V V' : Vw} {t : Nat} {k85 : Int32 → Mw → Option Mw} {β : Bw} {L : Lw} (hg : GB β L) (hb : RBd M β L) (h58 : M.1 50 0 0 58 = 0) (ht : t < β 0 0 5) (h : RT M V t) (h7 : V.1 t 7 ≤ 1000) (h8 : V.1 t 8 ≤ 2) (h9 : V.1 t 9 < 2 ^ 31) (hV : VE (vs V t (ecG (V.1 t))) V' t) : ∃ M', B_X10_endsCycle_85 k85 (nI t) M = k85 (nI (t + 1)) M' ∧ RT M' V' t ∧ OnR t M M' := by
  have h5 := hg.1.2.2.2.2
  have hin : inb (nI t) 5 = true := inb_nI (by omega) (by omega)
  have hfin : ∀ F : Nat → Nat, ecG (V.1 t) = F → (∀ f, f ≠ 7 → f ≠ 8 → F f = V.1 t f) → ∀ M' : Mw, M'.2 = M.2 → (∀ κ, κ ≠ 73 → κ ≠ 75 → M'.1 κ = M.1 κ) → M'.1 73 0 0 t = nI (F 7) → M'.1 75 0 0 t = nI (F 8) → RT M' V' t := by
    intro F hFe e M' g2 g g7 g8
    obtain ⟨v1, v2, v3, v4⟩ := hV
    rw [vs_at, hFe] at v1
    obtain ⟨h0, h1, h2, h3, h70, h71, h6, h7', h8', h9', h10, h12, h13, h14, h11, h15, h16⟩ := h
    unfold RT
    rw [v1, v2, v3, v4, g2, g7, g8, g 64 (by decide) (by decide), g 66 (by decide) (by decide), g 65 (by decide) (by decide), g 67 (by decide) (by decide), g 68 (by decide) (by decide), g 70 (by decide) (by decide), g 71 (by decide) (by decide), g 69 (by decide) (by decide), g 76 (by decide) (by decide), g 72 (by decide) (by decide), g 77 (by decide) (by decide), g 78 (by decide) (by decide), g 81 (by decide) (by decide), e 0 (by decide) (by decide), e 1 (by decide) (by decide), e 2 (by decide) (by decide), e 3 (by decide) (by decide), e 5 (by decide) (by decide), e 6 (by decide) (by decide), e 9 (by decide) (by decide), e 10 (by decide) (by decide), e 12 (by decide) (by decide), e 13 (by decide) (by decide), e 14 (by decide) (by decide)]
    exact ⟨h0, h1, h2, h3, h70, h71, h6, rfl, rfl, h9', h10, h12, h13, h14, h11, h15, h16⟩
  obtain ⟨h0, h1, h2, h3, h70, h71, h6, h7', h8', h9', h10, h12, h13, h14, h11, h15, h16⟩ := id h
  unfold B_X10_endsCycle_85
  rw [hb.1.2.2.2.2, if_neg (nI_ge ht (by omega)), h58, if_pos rfl, if_pos hin, clampI (by omega), h9', h7', h8']
  by_cases c9 : V.1 t 9 = 0
  case neg =>
    rw [if_neg (nI_ne0 (by omega) h9), bd_eq, nI_1]
    exact ⟨M, rfl, hfin _ (if_neg (fun q => c9 q.1)) (fun _ _ _ => rfl) M rfl (fun _ _ _ => rfl) h7' h8', OnR.rfl⟩
  rw [if_pos (show nI (V.1 t 9) = 0 by rw [c9]; rfl), if_pos hin]
  by_cases c7 : V.1 t 7 = 0
  · rw [if_pos (show nI (V.1 t 7) = 0 by rw [c7]; rfl), bd_eq, nI_1]
    exact ⟨M, rfl, hfin _ (if_neg (fun q => q.2 c7)) (fun _ _ _ => rfl) M rfl (fun _ _ _ => rfl) h7' h8', OnR.rfl⟩
  have e88 : (uIw M 75 0 0 t (nI (V.1 t 8 + 1))).1 75 0 0 t = nI (V.1 t 8 + 1) := by rw [uI1, if_pos ⟨rfl, rfl, rfl, rfl⟩]
  rw [if_neg (nI_ne0 (by omega) (by omega)), if_pos hin, if_pos hin, nI_1, bd_eq, if_pos hin, e88]
  by_cases c8 : V.1 t 8 + 1 = 3
  · have e87 : (uIw (uIw M 75 0 0 t (nI (V.1 t 8 + 1))) 75 0 0 t 0).1 73 0 0 t = nI (V.1 t 7) := by rw [uI_k (by decide), uI_k (by decide), h7']
    rw [if_pos (show (3 : Int32) ≤ nI (V.1 t 8 + 1) by rw [c8]; decide), if_pos hin, bd_eq, if_pos hin, if_pos hin, e87, show (1 : Int32) = nI 1 from rfl, pk_sub (by omega), bd_eq, bd_eq, nI_add]
    refine ⟨_, rfl, hfin (fun f => if f = 7 then V.1 t 7 - 1 else if f = 8 then 0 else V.1 t f) ?_ (fun f a c => by show (if f = 7 then _ else if f = 8 then 0 else V.1 t f) = _; rw [if_neg a, if_neg c]) _ rfl (fun κ a c => ?_) ?_ ?_, ((OnR.uI (by decide) (by decide)).trans (OnR.uI (by decide) (by decide))).trans (OnR.uI (by decide) (by decide))⟩
    · unfold ecG
      rw [if_pos ⟨c9, c7⟩, if_pos c8]
    · rw [uI_k a, uI_k c, uI_k c]
    · rw [uI1, if_pos ⟨rfl, rfl, rfl, rfl⟩]
      rfl
    · rw [uI_k (by decide), uI1, if_pos ⟨rfl, rfl, rfl, rfl⟩]
      rfl
  · rw [if_neg (show ¬ (3 : Int32) ≤ nI (V.1 t 8 + 1) from nI_ge (b := 3) (by omega) (by omega)), bd_eq, nI_1]
    refine ⟨_, rfl, hfin (fun f => if f = 8 then V.1 t 8 + 1 else V.1 t f) ?_ (fun f a c => if_neg c) _ rfl (fun κ a c => ?_) ?_ ?_, OnR.uI (by decide) (by decide)⟩
    · unfold ecG
      rw [if_pos ⟨c9, c7⟩, if_neg c8]
    · rw [uI_k c]
    · rw [uI_k (by decide), h7']
      rfl
    · rw [uI1, if_pos ⟨rfl, rfl, rfl, rfl⟩]
      rfl
theorem r_ec {M : Mw} {β : Bw} {L : Lw} {s : Vw × Hw} (hg : GB β L) (h : RBd M β L) (hT : RTs M β s.1) (hG : RG M β s.2) (ho : s.2.2.2.2.2.2 ≤ 1) (hv : ∀ t, t < β 0 0 5 → s.1.1 t 7 ≤ 1000 ∧ s.1.1 t 8 ≤ 2 ∧ s.1.1 t 9 < 2 ^ 31) :
    ∃ M', B_X10_endsCycle_83 M = some M' ∧ RTs M' β (ecS β s).1 ∧ RG M' β (ecS β s).2 ∧ Fr STs M M' := by
  have h5 := hg.1.2.2.2.2
  have e58 := hG.2.2.1
  unfold ecS
  have key := it_for (z := fun _ _ => none) (B := B_X10_endsCycle_85) (n := β 0 0 5) (P := fun n M1 => (n = 0 ∨ s.2.2.2.2.2.2 = 0) ∧ RTs M1 β (ecV s.1 n) ∧ Fr STs M M1)
    (Q := fun o => ∃ M', o = some M' ∧ RTs M' β (if s.2.2.2.2.2.2 = 0 then (ecV s.1 (β 0 0 5), s.2) else s).1 ∧ RG M' β (if s.2.2.2.2.2.2 = 0 then (ecV s.1 (β 0 0 5), s.2) else s).2 ∧ Fr STs M M') (fun kk n M1 hn hP => by
    obtain ⟨hz, hT1, hF1⟩ := hP
    have h1 : RBd M1 β L := h.frS hF1 (fun b => by omega) (fun b => by omega)
    have e8 : M1.1 50 0 0 58 = nI s.2.2.2.2.2.2 := by rw [hF1.k1 (fun b => by omega)]; exact e58
    by_cases co : s.2.2.2.2.2.2 = 0
    case neg =>
      obtain rfl : n = 0 := hz.elim id (fun q => absurd q co)
      right
      unfold B_X10_endsCycle_85
      rw [h1.1.2.2.2.2, if_neg (nI_ge hn (by omega)), e8, if_neg (fun q => co ((nI_i0 (by omega)).mp q)), if_neg co]
      exact ⟨M1, rfl, fun t ht => (hT1 t ht).ve ⟨rfl, rfl, rfl, rfl⟩, hG.frS hF1 (fun b => by omega) (fun b => by omega) (fun κ b _ _ _ _ => by omega), hF1⟩
    left
    obtain ⟨v7, v8, v9⟩ := hv n hn
    have e7 : (ecV s.1 n).1 n = s.1.1 n := (ecV_ge (Nat.le_refl n)).1
    obtain ⟨M2, q1, q2, q3⟩ := r_ec1 (k85 := kk) (V' := ecV s.1 (n + 1)) hg h1 (by rw [e8, co]; rfl) hn (hT1 n hn) (by rw [e7]; exact v7) (by rw [e7]; exact v8) (by rw [e7]; exact v9) (by
      have := ecV_at (V := s.1) (n := n)
      refine ⟨?_, rfl, rfl, rfl⟩
      rw [vs_at, e7]
      rw [this.1, vs_at])
    refine ⟨M2, q1, Or.inr co, fun t ht => ?_, hF1.trans q3.fr⟩
    by_cases c : t = n
    · subst c
      exact q2
    · exact (hT1 t ht).on q3 c (ecV_s c)) (fun kk M1 hP => by
    obtain ⟨hz, hT1, hF1⟩ := hP
    have h1 : RBd M1 β L := h.frS hF1 (fun b => by omega) (fun b => by omega)
    have hG1 : RG M1 β s.2 := hG.frS hF1 (fun b => by omega) (fun b => by omega) (fun κ b _ _ _ _ => by omega)
    unfold B_X10_endsCycle_85
    rw [h1.1.2.2.2.2, if_pos (Int32.le_refl _)]
    by_cases co : s.2.2.2.2.2.2 = 0
    · rw [if_pos co]
      exact ⟨M1, rfl, hT1, hG1, hF1⟩
    · rw [if_neg co]
      have hz0 : β 0 0 5 = 0 := hz.elim id (fun q => absurd q co)
      exact ⟨M1, rfl, fun t ht => by omega, hG1, hF1⟩)
    FU 0 M (Nat.zero_le _) (by unfold FU; omega) ⟨Or.inl rfl, fun t ht => (hT t ht).ve (ecV_ge (Nat.zero_le t)), Fr.rfl⟩
  rw [nI_0] at key
  exact key
theorem IV_c {β : Bw} {L : Lw} {FO FM : UInt32 → Prop} {FS : Nat → UInt64 → Prop} {m k cy : Nat} {s : Vw × Hw} (h : IV β L FO FM FS m k cy s) : s.2.2.2.2.2.2 ≤ 1 ∧ ∀ t, t < β 0 0 5 → s.1.1 t 7 ≤ 6 ∧ s.1.1 t 8 ≤ 2 ∧ s.1.1 t 9 ≤ 1 := by
  obtain ⟨⟨D, hS⟩, hJ, ho, -⟩ := h
  refine ⟨ho, fun t ht => ?_⟩
  obtain ⟨a7, -⟩ := hS.2.1 t ht
  have := hS.2.2.2.2.2.1
  have j8 := (hJ t ht).2.2.2.2.2.2.2.2.2
  exact ⟨by omega, j8.1, j8.2⟩
/-- the end of a cycle -/
def cyS (β : Bw) (L : Lw) (k : Nat) (s : Vw × Hw) : Vw × Hw := ecS β (dgS β k (loA β L k s (β 0 0 4)).2 (loA β L k s (β 0 0 4)).1)
theorem IV_cy {β : Bw} {L : Lw} {FO FM : UInt32 → Prop} {FS : Nat → UInt64 → Prop} {m k cy : Nat} {s : Vw × Hw} (hg : GB β L) (hF : FH FO FM FS) (hk : k ≤ 200) (h : IV β L FO FM FS m k cy s) : IV β L FO FM FS m k (cy + 1) (cyS β L k s) := IV_ec (IV_dg hg hk (IV_lo hg hF hk h _))
theorem r_endsCycle {M : Mw} {β : Bw} {L : Lw} {s : Vw × Hw} {k cy m : Nat} {FO FM : UInt32 → Prop} {FS : Nat → UInt64 → Prop} (hg : GB β L) (hF : FH FO FM FS) (hlow : nf (FP.fdiv (FP.i2f (nI (β 0 0 2))) 1092616192) = true) (h : RBd M β L) (hT : RTs M β s.1) (hG : RG M β s.2) (hk : k ≤ 200) (hcy : cy ≤ 40) (hm : m ≤ 1000) (hI : IV β L FO FM FS m k cy s) (hY : β 0 0 1 ≤ k + 1) (h86 : ∀ o, o < 3 → M.1 86 0 0 o = 0) :
    ∃ M', F_X10_endsCycle (nI k) M = some M' ∧ RTs M' β (cyS β L k s).1 ∧ RG M' β (cyS β L k s).2 ∧ OnY M M' := by
  have h3 := hg.1.2.2.2.1
  have h41 : ∀ M1 : Mw, RBd M1 β L → RTs M1 β (loA β L k s (β 0 0 4)).1.1 → RG M1 β (loA β L k s (β 0 0 4)).1.2 → (∀ o, o < β 0 0 4 → M1.1 86 0 0 o = nI ((loA β L k s (β 0 0 4)).2 o)) → OnY M M1 → ∃ M', B_X10_endsCycle_41 (nI k) M1 = some M' ∧ RTs M' β (cyS β L k s).1 ∧ RG M' β (cyS β L k s).2 ∧ OnY M M' := by
    intro M1 h1 hT1 hG1 h861 hF1
    have hI1 := IV_lo hg hF hk hI (β 0 0 4)
    obtain ⟨-, hl1⟩ := loA_lk (β := β) (L := L) (k := k) (s := s) (β 0 0 4) (Nat.le_refl _)
    unfold cyS
    generalize loA β L k s (β 0 0 4) = p at hT1 hG1 h861 hI1 hl1 ⊢
    have hI2 := IV_dg (lk := p.2) hg hk hI1
    obtain ⟨c1, c2⟩ := IV_c hI2
    have hfin : ∀ M2 : Mw, RBd M2 β L → RTs M2 β (dgS β k p.2 p.1).1 → RG M2 β (dgS β k p.2 p.1).2 → OnY M M2 → ∃ M', B_X10_endsCycle_83 M2 = some M' ∧ RTs M' β (ecS β (dgS β k p.2 p.1)).1 ∧ RG M' β (ecS β (dgS β k p.2 p.1)).2 ∧ OnY M M' := by
      intro M2 h2 hT2 hG2 hF2
      obtain ⟨M3, q1, q2, q3, q4⟩ := r_ec hg h2 hT2 hG2 c1 (fun t ht => by have := c2 t ht; omega)
      exact ⟨M3, q1, q2, q3, hF2.trans ⟨q4.mono (fun κ b q => by unfold STs at q; omega), fun j _ _ _ _ => by rw [q4.k1 (fun b => by omega)]⟩⟩
    obtain ⟨⟨D, hS1⟩, hJ1, ho1, hz1⟩ := hI1
    unfold B_X10_endsCycle_41
    rw [hG1.2.2.1, h1.1.2.2.2.1]
    by_cases co : p.1.2.2.2.2.2.2 = 0
    case neg =>
      have e : dgS β k p.2 p.1 = p.1 := if_neg (fun q => co q.1)
      rw [if_neg (fun q => co ((nI_i0 (by omega)).mp q))]
      rw [e] at hfin ⊢
      exact hfin M1 h1 hT1 hG1 hF1
    rw [if_pos (by rw [co]; rfl)]
    by_cases c0 : 0 < β 0 0 4
    case neg =>
      have e : dgS β k p.2 p.1 = p.1 := if_neg (fun q => c0 q.2.1)
      rw [if_pos (show nI (β 0 0 4) ≤ 0 by rw [show β 0 0 4 = 0 by omega]; decide)]
      rw [e] at hfin ⊢
      exact hfin M1 h1 hT1 hG1 hF1
    rw [if_neg (nI_nle c0 (by omega)), h861 0 c0]
    by_cases cl : p.2 0 = 0
    case neg =>
      have := hl1 0
      have e : dgS β k p.2 p.1 = p.1 := if_neg (fun q => cl q.2.2)
      rw [if_neg (nI_ne0 (by omega) (by omega))]
      rw [e] at hfin ⊢
      exact hfin M1 h1 hT1 hG1 hF1
    have hl := hS1.len hg hcy
    have e : dgS β k p.2 p.1 = (clV β 3 0 0 k p.1.1 (β 0 0 5), clH β 3 0 k (adH p.1.2 (k, 7, 0, 3))) := if_pos ⟨co, c0, cl⟩
    obtain ⟨M3, e3, hG3, hF3, hj3⟩ := r_records (L := L) (k := k) (kind := 7) (who := 0) (lev := 3) hG1 (by omega)
    have hB3 : RBd M3 β L := h1.fr (hF3.k1 (fun b => by omega)) (fun j j1 j2 => hj3 j (by omega))
    have hT3 : RTs M3 β p.1.1 := hT1.fr hF3 (fun κ b _ _ => by omega)
    obtain ⟨M4, e4, hT4, hG4, hF4, hj4⟩ := r_climbs (lev := 3) (task := 0) (w := 0) (taskI := -1) (wI := -1) hg hB3 hT3 hG3 hk (by omega) (by decide) (fun q => by omega) (fun q => by omega) (hS1.2.2.2.2.2.2 co) hS1.2.2.2.1
    have e3' : F_X10_records (nI k) 7 0 3 M1 = some M3 := e3
    have e4' : F_X10_climbs 3 (-1) (-1) (nI k) M3 = some M4 := e4
    have hY4 : OnY M1 M4 := ⟨(hF3.mono (fun κ b q => by unfold S50 at q; omega)).trans (hF4.mono (fun κ b q => by unfold STs S84 S50 at q; omega)), fun j j0 j1 j2 j3 => by rw [hj4 j j1 j2 j3, hj3 j j0]⟩
    rw [if_pos (by rw [cl]; rfl), e3', Option.bind_some, e4', Option.bind_some]
    rw [e] at hfin ⊢
    exact hfin M4 (h1.onY hY4) hT4 hG4 (hF1.trans hY4)
  have key := it_down (z := fun _ _ => none) (B := B_X10_endsCycle_9 (nI k)) (P := fun t M1 => t ≤ β 0 0 4 ∧ RBd M1 β L ∧ RTs M1 β (loA β L k s (β 0 0 4 - t)).1.1 ∧ RG M1 β (loA β L k s (β 0 0 4 - t)).1.2 ∧ (∀ o, o < β 0 0 4 → M1.1 86 0 0 o = nI ((loA β L k s (β 0 0 4 - t)).2 o)) ∧ OnY M M1)
    (Q := fun o => ∃ M', o = some M' ∧ RTs M' β (cyS β L k s).1 ∧ RG M' β (cyS β L k s).2 ∧ OnY M M')
    (fun kk w M1 hP => by
      obtain ⟨hw1, h1, hT1, hG1, h861, hF1⟩ := hP
      have hI1 := IV_lo hg hF hk hI (β 0 0 4 - (w + 1))
      obtain ⟨hl0, hl1⟩ := loA_lk (β := β) (L := L) (k := k) (s := s) (β 0 0 4 - (w + 1)) (by omega)
      have hstop := fun h => lo_over (β := β) (L := L) (k := k) (n := β 0 0 4 - (w + 1)) (s := s) h (w + 1)
      rw [show β 0 0 4 - (w + 1) + (w + 1) = β 0 0 4 by omega] at hstop
      have hla : loA β L k s (β 0 0 4 - w) = loS β L k w (loA β L k s (β 0 0 4 - (w + 1))) := by
        rw [show β 0 0 4 - w = (β 0 0 4 - (w + 1)) + 1 by omega]
        show loS β L k (β 0 0 4 - 1 - (β 0 0 4 - (w + 1))) _ = _
        rw [show β 0 0 4 - 1 - (β 0 0 4 - (w + 1)) = w by omega]
      rw [hla]
      by_cases co : (loA β L k s (β 0 0 4 - (w + 1))).1.2.2.2.2.2.2 = 0
      case neg =>
        have e := hstop co
        rw [← e] at hT1 hG1 h861
        obtain ⟨M', q⟩ := h41 M1 h1 hT1 hG1 h861 hF1
        have ho1 := hI1.2.2.1
        right
        unfold B_X10_endsCycle_9
        have e58 := hG1.2.2.1
        rw [e] at e58
        rw [if_neg (nI_pos (by omega)), e58, if_neg (fun q => co ((nI_i0 (by omega)).mp q))]
        exact ⟨M', q⟩
      left
      generalize loA β L k s (β 0 0 4 - (w + 1)) = p at hT1 hG1 h861 hI1 hl1 co ⊢
      obtain ⟨⟨D, hS1⟩, hJ1, ho1, hz1⟩ := id hI1
      have hm1 := hS1.2.2.2.1 w
      unfold B_X10_endsCycle_9
      rw [if_neg (nI_pos (by omega)), hG1.2.2.1, if_pos (by rw [co]; rfl), r_asleep h1 hG1 (by omega) hk (by omega), Option.bind_some]
      by_cases c1 : slp L (nI w) (nI k) (nI (p.1.2.1 w) + (-1)) = true
      · have e : loS β L k w p = p := by
          unfold loS
          rw [if_neg (fun q => q co), if_pos c1]
        rw [if_pos c1, if_neg (by decide), bd_eq, e]
        exact ⟨M1, rfl, by omega, h1, hT1, hG1, h861, hF1⟩
      · have e : loS β L k w p = (lwS β k w (lkU p.2 w) (ltS β k w p.1 (β 0 0 5)) (β 0 0 4), lkU p.2 w) := by
          unfold loS
          rw [if_neg (fun q => q co), if_neg c1]
        obtain ⟨M2, q1, q2, q3, q4, q5⟩ := r_looks (lk := p.2) hg hF hlow h1 hT1 hG1 hk hcy hm hI1 (show w < β 0 0 4 by omega) hY h861 hl1
        rw [if_neg c1, if_pos rfl, q1, Option.bind_some, bd_eq, e]
        exact ⟨M2, rfl, by omega, h1.onY q4, q2, q3, q5, hF1.trans q4⟩)
    (fun kk M1 hP => by
      obtain ⟨hw1, h1, hT1, hG1, h861, hF1⟩ := hP
      unfold B_X10_endsCycle_9
      rw [if_pos (by decide)]
      exact h41 M1 h1 hT1 hG1 h861 hF1)
    FU (β 0 0 4) M (by unfold FU; omega) ⟨Nat.le_refl _, h, by rw [Nat.sub_self]; exact hT, by rw [Nat.sub_self]; exact hG, fun o ho => by rw [Nat.sub_self]; rw [h86 o (by omega)]; rfl, OnY.rfl⟩
  unfold F_X10_endsCycle
  rw [h.1.2.2.2.1, i_sub1, bd_eq]
  exact key
