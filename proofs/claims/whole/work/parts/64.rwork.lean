/-! A TICK OF A TASK'S OWN, the reference -/
theorem r_mg {M M1 : Mw} {V : Vw} {t : Nat} {m : UInt32} (h : RT M V t) (e1 : ∀ κ, 64 ≤ κ → κ ≤ 81 → κ ≠ 81 → M1.1 κ 0 0 t = M.1 κ 0 0 t) (e81 : M1.1 81 0 0 t = nI (V.1 t 14 + 1)) (e11 : M1.2.1 74 0 0 t = V.2.1 t) (e15 : M1.2.1 79 0 0 t = lsN m V t) (e16 : M1.2.2 80 0 0 t = FP.dadd (V.2.2.2 t) (FP.f2d m)) : RT M1 (mgV m V t) t := by
  obtain ⟨h0, h1, h2, h3, h70, h71, h6, h7, h8, h9, h10, h12, h13, h14, h11, h15, h16⟩ := h
  have eL : (mgV m V t).2.2.1 t = lsN m V t := if_pos rfl
  have eS : (mgV m V t).2.2.2 t = FP.dadd (V.2.2.2 t) (FP.f2d m) := if_pos rfl
  unfold RT
  rw [mgV_f m V t (show 0 ≠ 14 by decide), mgV_f m V t (show 1 ≠ 14 by decide), mgV_f m V t (show 2 ≠ 14 by decide), mgV_f m V t (show 3 ≠ 14 by decide), mgV_f m V t (show 5 ≠ 14 by decide), mgV_f m V t (show 6 ≠ 14 by decide), mgV_f m V t (show 7 ≠ 14 by decide), mgV_f m V t (show 8 ≠ 14 by decide), mgV_f m V t (show 9 ≠ 14 by decide), mgV_f m V t (show 10 ≠ 14 by decide), mgV_f m V t (show 12 ≠ 14 by decide), mgV_f m V t (show 13 ≠ 14 by decide), mgV_14, eL, eS, e81, e11, e15, e16]
  rw [e1 64 (by decide) (by decide) (by decide), e1 66 (by decide) (by decide) (by decide), e1 65 (by decide) (by decide) (by decide), e1 67 (by decide) (by decide) (by decide), e1 68 (by decide) (by decide) (by decide), e1 70 (by decide) (by decide) (by decide), e1 71 (by decide) (by decide) (by decide), e1 69 (by decide) (by decide) (by decide), e1 73 (by decide) (by decide) (by decide), e1 75 (by decide) (by decide) (by decide), e1 76 (by decide) (by decide) (by decide), e1 72 (by decide) (by decide) (by decide), e1 77 (by decide) (by decide) (by decide), e1 78 (by decide) (by decide) (by decide)]
  exact ⟨h0, h1, h2, h3, h70, h71, h6, h7, h8, h9, h10, h12, h13, rfl, rfl, fun _ => rfl, rfl⟩
theorem r_k154 {M : Mw} {β : Bw} {L : Lw} {V : Vw} {t k g : Nat} {m : UInt32} (h : RT M V t) (hp : V.1 t 2 = 0) (ht : t < 5) (hq : V.1 t 6 < 64) (h12 : V.1 t 12 < 200) (n1 : nf (FP.fsub FP.fconst1 (V.2.1 t)) = true) (n2 : nf (FP.fmul (FP.fsub FP.fconst1 (V.2.1 t)) 1048576000) = true) (n3 : nf (hUp (V.2.1 t)) = true) (d1 : nd (FP.f2d m) = true) (d2 : nd (FP.dadd (V.2.2.2 t) (FP.f2d m)) = true) {l : UInt32} (hl : l = lsN m V t) :
    ∃ M', B_X10_kickNow_154 (nI t) (nI k) (nI g) m l (nI t) M = some M' ∧ RT M' (gdV k (mgV m V t) t) t ∧ On3 (fun κ => κ = 82) t M M' ∧ ∀ x, M'.1 82 0 0 x = if x = 200 * t + V.1 t 12 then nI g else M.1 82 0 0 x := by
  have hin : inb (nI t) 5 = true := inb_nI ht (by omega)
  have hc : (nI t).toNatClampNeg = t := clampI (by omega)
  obtain ⟨h0, h1, h2, h3, h70, h71, h6, h7, h8, h9, h10, h12', h13, h14, h11, h15, h16⟩ := id h
  have e80 : (uFw M 79 0 0 t l).2.2 80 0 0 t = V.2.2.2 t := by rw [uF3, h16]
  unfold B_X10_kickNow_154
  rw [if_pos hin, hc, bd_eq, if_pos hin, if_pos d1, e80, if_pos d2, if_pos hin, bd_eq, if_pos hin, if_pos hin, uD1, uF1, h14, nI_1, bd_eq]
  obtain ⟨M2, hM2⟩ : ∃ M2, M2 = uIw (uDw (uFw M 79 0 0 t l) 80 0 0 t (FP.dadd (V.2.2.2 t) (FP.f2d m))) 81 0 0 t (nI (V.1 t 14 + 1)) := ⟨_, rfl⟩
  rw [← hM2]
  have hO2 : OnR t M M2 := by
    rw [hM2]
    exact ((OnR.uF (by decide) (by decide)).trans (OnR.uD (by decide) (by decide))).trans (OnR.uI (by decide) (by decide))
  have hR2 : RT M2 (mgV m V t) t := r_mg h (fun κ a b c => by rw [hM2, uI_k c, uD1, uF1]) (by rw [hM2, uI1, if_pos ⟨rfl, rfl, rfl, rfl⟩]) (by rw [hM2, uI2, uD2, uF2, if_neg (by omega), h11]) (by rw [hM2, uI2, uD2, uF2, if_pos ⟨rfl, rfl, rfl, rfl⟩, hl]) (by rw [hM2, uI2, uD3, if_pos ⟨rfl, rfl, rfl, rfl⟩])
  obtain ⟨M3, r1, r2, r3, r4⟩ := r_k177 (β := β) (L := L) (k := k) (g := g) hR2 (by rw [mgV_f _ _ _ (by decide)]; exact hp) ht (by rw [mgV_f _ _ _ (by decide)]; exact hq) (by rw [mgV_f _ _ _ (by decide)]; exact h12) n1 n2 n3
  refine ⟨M3, r1, r2, hO2.o3.trans r3, fun x => ?_⟩
  rw [r4 x, mgV_f _ _ _ (by decide), (hO2 82 0 0 x (by omega)).1]
theorem goV_pl {β : Bw} {k : Nat} {V : Vw} {t : Nat} : goV β k (plV V t) t = goV β k V t := by
  have e5 : (plV V t).1 t 5 = V.1 t 5 := plV_f (by decide)
  have eg : mgn β (plV V t) t k = mgn β V t k := by
    unfold mgn gpN
    rw [e5, plV_f (by decide)]
  have hgd : ∀ W W' : Vw, (∀ f, f ≠ 2 → W'.1 t f = W.1 t f) → (∀ t', t' ≠ t → W'.1 t' = W.1 t') → W'.2 = W.2 → gdV k W' t = gdV k W t := by
    intro W W' a b c
    refine Prod.ext (funext fun t' => ?_) ?_
    · show (if t' = t then gkF k (W'.1 t) else W'.1 t') = (if t' = t then gkF k (W.1 t) else W.1 t')
      by_cases z : t' = t
      · rw [if_pos z, if_pos z]
        funext f
        unfold gkF
        rw [a 12 (by decide), a 10 (by decide), a 6 (by decide)]
        by_cases z2 : f = 2
        · subst z2
          rfl
        · rw [a f z2]
      · rw [if_neg z, if_neg z, b t' z]
    · show ((fun t' => if t' = t then hUp (W'.2.1 t) else W'.2.1 t'), W'.2.2) = ((fun t' => if t' = t then hUp (W.2.1 t) else W.2.1 t'), W.2.2)
      rw [c]
  unfold goV
  rw [e5, eg]
  by_cases c : V.1 t 5 = 0
  · rw [if_pos c, if_pos c]
    exact hgd _ _ (fun f hf => plV_f hf) (fun t' h => (plV_ne h).1) rfl
  · rw [if_neg c, if_neg c]
    refine hgd _ _ (fun f hf => ?_) (fun t' h => ?_) ?_
    · by_cases z : f = 14
      · subst z
        rw [mgV_14, mgV_14, plV_f (by decide)]
      · rw [mgV_f _ _ _ z, mgV_f _ _ _ z, plV_f hf]
    · rw [(mgV_ne h).1, (mgV_ne h).1, (plV_ne h).1]
    · unfold mgV lsN
      simp only [plV_f (V := V) (t := t) (show 14 ≠ 2 by decide)]
      rfl
/-- what a task's own tick may change -/
def OnX (M M' : Mw) : Prop := Fr (fun κ _ => (64 ≤ κ ∧ κ ≤ 82) ∨ κ = 84 ∨ κ = 50 ∨ (88 ≤ κ ∧ κ ≤ 91)) M M' ∧ (∀ j, j ≠ 56 → j ≠ 57 → j ≠ 58 → j ≠ 59 → M'.1 50 0 0 j = M.1 50 0 0 j)
theorem OnX.rfl {M : Mw} : OnX M M := ⟨Fr.rfl, fun _ _ _ _ _ => Eq.refl _⟩
theorem OnX.trans {M M1 M2 : Mw} (h : OnX M M1) (h2 : OnX M1 M2) : OnX M M2 := ⟨h.1.trans h2.1, fun j a c d e => (h2.2 j a c d e).trans (h.2 j a c d e)⟩
theorem OnG.x {M M' : Mw} (h : OnG M M') : OnX M M' := ⟨h.1.mono (fun κ b q => q.elim (fun z => Or.inl ⟨z.1, Nat.le_succ_of_le z.2⟩) (fun z => z.elim (fun y => Or.inr (Or.inl y.1)) (fun y => y.elim (fun w => Or.inr (Or.inr (Or.inl w))) (fun w => Or.inr (Or.inr (Or.inr w)))))), h.2⟩
theorem On3.x {t : Nat} {M M' : Mw} (h : On3 (fun κ => κ = 82) t M M') : OnX M M' := ⟨h.fr.mono (fun κ _ q => by omega), fun j _ _ _ _ => (h 50 0 0 j (by omega)).1⟩
theorem OnR.x {t : Nat} {M M' : Mw} (h : OnR t M M') : OnX M M' := h.o3.x
theorem RBd.onX {M M' : Mw} {β : Bw} {L : Lw} (h : RBd M β L) (ho : OnX M M') : RBd M' β L :=
  h.fr (ho.1.k1 (fun b => by omega)) (fun j a c => ho.2 j (by omega) (by omega) (by omega) (by omega))
theorem RTs.one {t : Nat} {M M' : Mw} {β : Bw} {V V' : Vw} (hT : RTs M β V) (h : RT M' V' t) (ho : On3 (fun κ => κ = 82) t M M') (hV : ∀ t', t' ≠ t → VE V V' t') : RTs M' β V' := fun t' ht' => by
  by_cases c : t' = t
  · subst c
    exact h
  · exact (hT t' ht').on3 ho (fun κ a b q => by omega) c (hV t' c)
theorem RG.on3 {t : Nat} {M M' : Mw} {β : Bw} {H : Hw} (h : RG M β H) (ho : On3 (fun κ => κ = 82) t M M') : RG M' β H := h.frS ho.fr (fun b => by omega) (fun b => by omega) (fun κ b _ _ _ _ => by omega)
theorem RK.same {M M' : Mw} {β : Bw} {V V' : Vw} {K : List (Nat × Nat)} (h : RK M β V K) (h82 : M'.1 82 = M.1 82) (hV : ∀ t, t < β 0 0 5 → V'.1 t 12 = V.1 t 12) : RK M' β V' K := fun t ht => by
  rw [hV t ht, h82]
  exact h t ht
theorem goV_12 (β : Bw) (k : Nat) (V : Vw) (t : Nat) : (goV β k V t).1 t 12 = V.1 t 12 + 1 := by
  unfold goV
  rw [gdV_f]
  show (if V.1 t 5 = 0 then V else mgV (mgn β V t k) V t).1 t 12 + 1 = _
  by_cases c : V.1 t 5 = 0
  · rw [if_pos c]
  · rw [if_neg c, mgV_f _ _ _ (by decide)]
theorem fail_f {β : Bw} {k kind t t' f : Nat} {s : Vw × Hw} (h0 : f ≠ 0) (h2 : f ≠ 2) (h5 : f ≠ 5) (h6 : f ≠ 6) (h7 : f ≠ 7) (h8 : f ≠ 8) (h9 : f ≠ 9) : (failS β k kind t s).1.1 t' f = s.1.1 t' f := by
  show (clV _ _ _ _ _ _ _).1 t' f = _
  rw [clV_f h0 h2 h5 h6]
  show (if t' = t then (fun f => if f = 7 then s.1.1 t 7 + 1 else if f = 8 then 0 else if f = 9 then 1 else s.1.1 t f) else s.1.1 t') f = _
  by_cases c : t' = t
  · rw [if_pos c, c]
    show (if f = 7 then _ else if f = 8 then 0 else if f = 9 then 1 else s.1.1 t f) = _
    rw [if_neg h7, if_neg h8, if_neg h9]
  · rw [if_neg c]
theorem r_k62 {M : Mw} {β : Bw} {L : Lw} {V : Vw} {H : Hw} {k t cy kind : Nat} {K : List (Nat × Nat)} {D : Nat → Nat} {FO FM : UInt32 → Prop} {FS : Nat → UInt64 → Prop} (hg : GB β L) (hF : FH FO FM FS) (hlow : nf (FP.fdiv (FP.i2f (nI (β 0 0 2))) 1092616192) = true) (h : RBd M β L) (hT : RTs M β V) (hG : RG M β H) (hK : RK M β V K) (hk : k < 200) (hcy : cy ≤ 40) (ht : t < β 0 0 5) (ho : H.2.2.2.2.2 = 0)
    (hI : SI β FO k cy D V H) (v0 : V.1 t 0 ≤ k) (v6 : V.1 t 6 < 64) (v12 : ∀ t', t' < β 0 0 5 → V.1 t' 12 < 200) (v14 : V.1 t 14 < 200) (vS : FS (V.1 t 14) (V.2.2.2 t)) (v5 : V.1 t 5 ≠ 0 → gpN V t k ≤ β 4 t 3) (hkd : kind ≤ 4) (hge : kind = 0 → V.1 t 5 ≠ 0 → β 4 t 2 ≤ gpN V t k) :
    ∃ M', B_X10_kickNow_62 (nI t) (nI k) (nI (gpN V t k)) (nI kind) M = some M' ∧ RTs M' β (if kind = 0 then (goV β k V t, H) else failS β k kind t (V, H)).1 ∧ RG M' β (if kind = 0 then (goV β k V t, H) else failS β k kind t (V, H)).2 ∧ RK M' β (if kind = 0 then (goV β k V t, H) else failS β k kind t (V, H)).1 (if kind = 0 then K ++ [(t, gpN V t k)] else K) ∧ OnX M M' := by
  have hT5 := hg.1.2.2.2.2
  have hin : inb (nI t) 5 = true := inb_nI (by omega) (by omega)
  have hc : (nI t).toNatClampNeg = t := clampI (by omega)
  obtain ⟨a7, a0, a1, a2, a5, af⟩ := hI.2.1 t ht
  obtain ⟨-, -, -, gA, gAB, gB, -⟩ := hg.2.2.2.1 t ht
  obtain ⟨M2, hM2⟩ : ∃ M2, M2 = uIw M 65 0 0 t (-1) := ⟨_, rfl⟩
  have hO2 : OnR t M M2 := by rw [hM2]; exact OnR.uI (by decide) (by decide)
  have hR2 : RT M2 (plV V t) t := by
    obtain ⟨h0, h1, h2, h3, h70, h71, h6, h7, h8, h9, h10, h12', h13, h14, h11, h15, h16⟩ := hT t ht
    unfold RT
    rw [plV_2, plV_f (show 0 ≠ 2 by decide), plV_f (show 1 ≠ 2 by decide), plV_f (show 3 ≠ 2 by decide), plV_f (show 5 ≠ 2 by decide), plV_f (show 6 ≠ 2 by decide), plV_f (show 7 ≠ 2 by decide), plV_f (show 8 ≠ 2 by decide), plV_f (show 9 ≠ 2 by decide), plV_f (show 10 ≠ 2 by decide), plV_f (show 12 ≠ 2 by decide), plV_f (show 13 ≠ 2 by decide), plV_f (show 14 ≠ 2 by decide), hM2, uI_k (show 64 ≠ 65 by decide), uI_k (show 66 ≠ 65 by decide), uI_k (show 70 ≠ 65 by decide), uI_k (show 71 ≠ 65 by decide), uI_k (show 69 ≠ 65 by decide), uI_k (show 73 ≠ 65 by decide), uI_k (show 75 ≠ 65 by decide), uI_k (show 76 ≠ 65 by decide), uI_k (show 72 ≠ 65 by decide), uI_k (show 77 ≠ 65 by decide), uI_k (show 78 ≠ 65 by decide), uI_k (show 81 ≠ 65 by decide), uI2]
    exact ⟨h0, h1, by rw [uI1, if_pos ⟨rfl, rfl, rfl, rfl⟩, if_pos rfl], fun q => absurd q (Nat.lt_irrefl 0), h70, h71, h6, h7, h8, h9, h10, h12', h13, h14, h11, h15, h16⟩
  have hT2 : RTs M2 β (plV V t) := hT.one hR2 hO2.o3 (fun t' h => plV_ne h)
  have h2b : RBd M2 β L := h.on hO2
  have hG2 : RG M2 β H := hG.on3 hO2.o3
  have e82 : M2.1 82 = M.1 82 := funext fun b => funext fun i => funext fun j => (hO2 82 b i j (by omega)).1
  unfold B_X10_kickNow_62
  rw [if_pos hin, hc, ← hM2, bd_eq]
  by_cases c : kind = 0
  · rw [if_pos (show nI kind ≤ 0 by rw [c]; decide), if_pos hin, if_pos c, if_pos c]
    have hfin : ∀ M' : Mw, RT M' (goV β k (plV V t) t) t → On3 (fun κ => κ = 82) t M2 M' → (∀ x, M'.1 82 0 0 x = if x = 200 * t + V.1 t 12 then nI (gpN V t k) else M2.1 82 0 0 x) → RTs M' β (goV β k V t) ∧ RG M' β H ∧ RK M' β (goV β k V t) (K ++ [(t, gpN V t k)]) ∧ OnX M M' := by
      intro M' r2 r3 r4
      rw [goV_pl] at r2
      refine ⟨hT.one r2 (hO2.o3.trans r3) (fun t' h => goV_ne h), hG2.on3 r3, fun t' ht' => ?_, hO2.x.trans r3.x⟩
      obtain ⟨k1, k2⟩ := hK t' ht'
      by_cases z : t' = t
      · subst z
        rw [goV_12, kf_y]
        refine ⟨by rw [List.length_append, k1]; rfl, fun j g hj => ?_⟩
        rw [r4, e82]
        rcases getElem?_snoc hj with ⟨q1, q2⟩ | ⟨q1, q2⟩
        · rw [if_neg (by omega)]
          exact k2 j g q1
        · rw [if_pos (by omega), q2]
      · rw [(goV_ne z).1, kf_n K z]
        refine ⟨k1, fun j g hj => ?_⟩
        have hjl := (List.getElem?_eq_some_iff.mp hj).1
        have k3 := (hK t ht).1
        rw [r4, e82, if_neg, k2 j g hj]
        intro q
        have w1 := v12 t' ht'
        have w2 := v12 t ht
        omega
    obtain ⟨n1, n2, n3, -⟩ := hF.2.1 _ af
    rw [hR2.2.2.2.2.2.1, plV_f (show 5 ≠ 2 by decide)]
    by_cases c5 : V.1 t 5 = 0
    · rw [if_pos c5, if_pos rfl]
      obtain ⟨M3, r1, r2, r3, r4⟩ := r_k177 (β := β) (L := L) (k := k) (g := gpN V t k) hR2 (plV_2 V t) (by omega) (by rw [plV_f (by decide)]; exact v6) (by rw [plV_f (by decide)]; exact v12 t ht) n1 n2 n3
      rw [plV_f (by decide)] at r4
      refine ⟨M3, r1, hfin M3 ?_ r3 r4⟩
      unfold goV
      rw [plV_f (by decide), if_pos c5]
      exact r2
    · rw [if_neg c5, if_neg (by decide), r_close hg h2b ht, Option.bind_some, Option.bind_some, r_open hg h2b ht, Option.bind_some, pk_sub (v5 c5), pk_sub (by omega)]
      obtain ⟨g1, g2⟩ := hF.2.2.1 (β 4 t 3 - gpN V t k) (β 4 t 3 - β 4 t 2) (by have := hge c c5; omega) (by omega) (by omega)
      obtain ⟨g4, g5⟩ := hF.2.2.2.2 _ _ _ v14 vS g2
      have g3 := hF.2.2.2.1 _ g2
      rw [if_pos g1, bd_eq, if_pos hin, hR2.2.2.2.2.2.2.2.2.2.2.2.2.2.1, plV_f (show 14 ≠ 2 by decide)]
      have egp : gpN (plV V t) t k = gpN V t k := by
        unfold gpN
        rw [plV_f (by decide), plV_f (by decide)]
      have emg : mgn β (plV V t) t k = FP.fdiv (FP.i2f (nI (β 4 t 3 - gpN V t k))) (FP.i2f (nI (β 4 t 3 - β 4 t 2))) := by
        unfold mgn
        rw [egp]
      generalize FP.fdiv (FP.i2f (nI (β 4 t 3 - gpN V t k))) (FP.i2f (nI (β 4 t 3 - β 4 t 2))) = m at g1 g2 g3 g4 g5 emg ⊢
      have h154 : ∀ l, l = lsN m (plV V t) t → ∃ M', B_X10_kickNow_154 (nI t) (nI k) (nI (gpN V t k)) m l (nI t) M2 = some M' ∧ RTs M' β (goV β k V t) ∧ RG M' β H ∧ RK M' β (goV β k V t) (K ++ [(t, gpN V t k)]) ∧ OnX M M' := by
        intro l hl
        obtain ⟨M3, r1, r2, r3, r4⟩ := r_k154 (β := β) (L := L) (k := k) (g := gpN V t k) hR2 (plV_2 V t) (by omega) (by rw [plV_f (by decide)]; exact v6) (by rw [plV_f (by decide)]; exact v12 t ht) n1 n2 n3 g3 g4 hl
        rw [plV_f (by decide)] at r4
        refine ⟨M3, r1, hfin M3 ?_ r3 r4⟩
        unfold goV
        rw [plV_f (by decide), if_neg c5, emg]
        exact r2
      have e14 : (plV V t).1 t 14 = V.1 t 14 := plV_f (by decide)
      by_cases c14 : V.1 t 14 = 0
      · rw [if_pos (by rw [c14]; rfl)]
        unfold B_X10_kickNow_143
        exact h154 m (by unfold lsN; rw [e14, if_pos (Or.inl c14)])
      rw [if_neg (nI_ne0 (by omega) (by omega)), if_pos hin, hR2.2.2.2.2.2.2.2.2.2.2.2.2.2.2.2.1 (by rw [e14]; omega)]
      by_cases c1 : 0 ≤ Op.cmpValue (FP.fcmp m ((plV V t).2.2.1 t)) .g
      · rw [if_pos c1, if_pos hin]
        exact h154 _ (by unfold lsN; rw [e14, if_neg (fun q => q.elim c14 (fun w => (of_decide_eq_true w) c1))])
      · rw [if_neg c1]
        unfold B_X10_kickNow_143
        exact h154 m (by unfold lsN; rw [e14, if_pos (Or.inr (show ltF m ((plV V t).2.2.1 t) = true from decide_eq_true c1))])
  · have hl := hI.len hg hcy
    have hb6 := hI.2.2.2.2.2.2 ho
    have e7 : (plV V t).1 t 7 = V.1 t 7 := plV_f (by decide)
    obtain ⟨M3, q1, q2, q3, q4, q5⟩ := r_fault (kind := kind) hg h2b hT2 hG2 (by omega) ht hb6 (by omega) hI.2.2.2.1 (hF.1 _ af).1 hlow (by omega)
    rw [if_neg (nI_nle (by omega) (by omega)), if_neg c, if_neg c, q1, Option.bind_some]
    have hfl := fail_pl (k := k) (kind := kind) (V := V) (H := H) (β := β) ht
    have q2' : RTs M3 β (failS β k kind t (plV V t, H)).1 := q2
    have q3' : RG M3 β (failS β k kind t (plV V t, H)).2 := q3
    rw [hfl] at q2' q3'
    refine ⟨M3, rfl, q2', q3', hK.same ?_ (fun t' _ => fail_f (by decide) (by decide) (by decide) (by decide) (by decide) (by decide) (by decide)), hO2.x.trans (OnG.x ⟨q4, q5⟩)⟩
    rw [← e82]
    exact q4.k1 (fun b => by show ¬ ((64 ≤ 82 ∧ 82 ≤ 81) ∨ S84 82 b ∨ S50 82 b ∨ (88 ≤ 82 ∧ 82 ≤ 91)); unfold S84 S50; omega)
theorem r_kick {M : Mw} {β : Bw} {L : Lw} {V : Vw} {H : Hw} {k t cy : Nat} {K : List (Nat × Nat)} {D : Nat → Nat} {FO FM : UInt32 → Prop} {FS : Nat → UInt64 → Prop} (hg : GB β L) (hF : FH FO FM FS) (hlow : nf (FP.fdiv (FP.i2f (nI (β 0 0 2))) 1092616192) = true) (h : RBd M β L) (hT : RTs M β V) (hG : RG M β H) (hK : RK M β V K) (hk : k < 200) (hcy : cy ≤ 40) (ht : t < β 0 0 5) (ho : H.2.2.2.2.2 = 0)
    (hI : SI β FO k cy D V H) (hp : 0 < V.1 t 2) (v1 : 1 ≤ V.1 t 1) (v0 : V.1 t 0 ≤ k) (v6 : V.1 t 6 < 64) (v12 : ∀ t', t' < β 0 0 5 → V.1 t' 12 < 200) (v14 : V.1 t 14 < 200) (vS : FS (V.1 t 14) (V.2.2.2 t)) (v5 : V.1 t 5 ≠ 0 → gpN V t k ≤ β 4 t 3) {kd : Nat} (hkd : kd = kkN β L k t (scl (β 8 t (V.1 t 2 - 1))).length V) :
    ∃ M', F_X10_kickNow (nI t) (nI k) M = some M' ∧ RTs M' β (if kd = 0 then (goV β k V t, H) else failS β k kd t (V, H)).1 ∧ RG M' β (if kd = 0 then (goV β k V t, H) else failS β k kd t (V, H)).2 ∧ RK M' β (if kd = 0 then (goV β k V t, H) else failS β k kd t (V, H)).1 (if kd = 0 then K ++ [(t, gpN V t k)] else K) ∧ OnX M M' := by
  have hT5 := hg.1.2.2.2.2
  have hin : inb (nI t) 5 = true := inb_nI (by omega) (by omega)
  have hc : (nI t).toNatClampNeg = t := clampI (by omega)
  obtain ⟨a7, a0, a1, a2, a5, af⟩ := hI.2.1 t ht
  obtain ⟨-, -, -, gA, gAB, gB, -, -, -, g66⟩ := hg.2.2.2.1 t ht
  obtain ⟨-, -, hv, -⟩ := hg.2.2.2.2.1 t (V.1 t 2 - 1) ht (by omega)
  have hlen := scl_len _ hv
  have hRT := hT t ht
  have e67 := (hRT.2.2.2.1 hp).1
  have e65 : M.1 65 0 0 t = nI (V.1 t 1 - 1) := by rw [hRT.2.2.1, if_neg (by omega)]
  have hgp : gpN V t k ≤ 1000 := by
    unfold gpN
    by_cases c : V.1 t 5 = 0
    · rw [if_pos c]; omega
    · rw [if_neg c]; omega
  unfold F_X10_kickNow
  rw [if_pos hin, hc, r_gap hRT v0 a5, bd_eq, if_pos hin, e67, r_followers hg h ht (by omega), Option.bind_some]
  have hgo : ∀ kind : Nat, kind ≤ 4 → kind = kd → (kind = 0 → V.1 t 5 ≠ 0 → β 4 t 2 ≤ gpN V t k) → ∃ M', B_X10_kickNow_62 (nI t) (nI k) (nI (gpN V t k)) (nI kind) M = some M' ∧ RTs M' β (if kd = 0 then (goV β k V t, H) else failS β k kd t (V, H)).1 ∧ RG M' β (if kd = 0 then (goV β k V t, H) else failS β k kd t (V, H)).2 ∧ RK M' β (if kd = 0 then (goV β k V t, H) else failS β k kd t (V, H)).1 (if kd = 0 then K ++ [(t, gpN V t k)] else K) ∧ OnX M M' := by
    intro kind h4 he hge
    subst he
    exact r_k62 hg hF hlow h hT hG hK hk hcy ht ho hI v0 v6 v12 v14 vS v5 h4 hge
  by_cases c0 : (scl (β 8 t (V.1 t 2 - 1))).length = 0
  case neg =>
    rw [if_neg (nI_nle (by omega) (by omega))]
    exact hgo 3 (by omega) (by rw [hkd]; unfold kkN; rw [if_pos c0]) (fun q => absurd q (by decide))
  rw [if_pos (show nI (scl (β 8 t (V.1 t 2 - 1))).length ≤ 0 by rw [c0]; decide), r_wrong hg h (by omega), Option.bind_some, e65]
  by_cases c1 : chg L (nI t) (nI (V.1 t 1 - 1)) (-1) = 4
  · rw [if_pos c1, if_neg (by decide)]
    exact hgo 4 (by omega) (by rw [hkd]; unfold kkN; rw [if_neg (fun q => q c0), if_pos c1]) (fun q => absurd q (by decide))
  rw [if_neg c1, if_pos rfl, if_pos hin, hRT.2.2.2.2.2.1]
  have hkk : kd = if V.1 t 5 ≠ 0 ∧ gpN V t k < β 4 t 2 then 1 else 0 := by
    rw [hkd]
    unfold kkN
    rw [if_neg (fun q => q c0), if_neg c1]
  have e61 : B_X10_kickNow_61 (nI t) (nI k) (nI (gpN V t k)) M = B_X10_kickNow_62 (nI t) (nI k) (nI (gpN V t k)) (nI 0) M := rfl
  by_cases c5 : V.1 t 5 = 0
  · rw [if_pos c5, if_pos rfl, e61]
    exact hgo 0 (by omega) (by rw [hkk, if_neg (fun q => q.1 c5)]) (fun _ q => absurd c5 q)
  rw [if_neg c5, if_neg (by decide), r_open hg h ht, Option.bind_some]
  by_cases c2 : gpN V t k < β 4 t 2
  · rw [if_neg (nI_ge c2 (by omega))]
    exact hgo 1 (by omega) (by rw [hkk, if_pos ⟨c5, c2⟩]) (fun q => absurd q (by decide))
  · rw [if_pos (nI_le (by omega) (by omega)), e61]
    exact hgo 0 (by omega) (by rw [hkk, if_neg (fun q => c2 q.2)]) (fun _ _ => by omega)
