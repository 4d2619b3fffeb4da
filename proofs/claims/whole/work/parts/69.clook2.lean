theorem loA_lk {β : Bw} {L : Lw} {k : Nat} {s : Vw × Hw} : ∀ n, n ≤ β 0 0 4 → (∀ o, o < β 0 0 4 - n → (loA β L k s n).2 o = 0) ∧ (∀ o, (loA β L k s n).2 o ≤ 1) := by
  intro n
  induction n with
  | zero => intro _; exact ⟨fun o _ => rfl, fun o => Nat.zero_le _⟩
  | succ n ih =>
    intro hn
    obtain ⟨i1, i2⟩ := ih (by omega)
    have hcase : (loA β L k s (n + 1)).2 = (loA β L k s n).2 ∨ (loA β L k s (n + 1)).2 = lkU (loA β L k s n).2 (β 0 0 4 - 1 - n) := by
      show (loS β L k (β 0 0 4 - 1 - n) (loA β L k s n)).2 = _ ∨ (loS β L k (β 0 0 4 - 1 - n) (loA β L k s n)).2 = _
      unfold loS
      by_cases c : (loA β L k s n).1.2.2.2.2.2.2 ≠ 0
      · rw [if_pos c]; exact Or.inl rfl
      rw [if_neg c]
      by_cases c2 : slp L (nI (β 0 0 4 - 1 - n)) (nI k) (nI ((loA β L k s n).1.2.1 (β 0 0 4 - 1 - n)) + (-1)) = true
      · rw [if_pos c2]; exact Or.inl rfl
      · rw [if_neg c2]; exact Or.inr rfl
    refine ⟨fun o ho => ?_, fun o => ?_⟩
    · rcases hcase with e | e
      · rw [e]; exact i1 o (by omega)
      · rw [e]
        unfold lkU
        rw [if_neg (by omega)]
        exact i1 o (by omega)
    · rcases hcase with e | e
      · rw [e]; exact i2 o
      · rw [e]
        unfold lkU
        by_cases c : o = β 0 0 4 - 1 - n
        · rw [if_pos c]; exact Nat.le_refl 1
        · rw [if_neg c]; exact i2 o
theorem c_looks {b : Nat} {M : Mw} {β : Bw} {L : Lw} {s : Vw × Hw} {k cy m : Nat} {FO FM : UInt32 → Prop} {FS : Nat → UInt64 → Prop} (hg : GB β L) (hF : FH FO FM FS) (hlow : nf (FP.fdiv (FP.i2f (nI (β 0 0 2))) 1092616192) = true) (hB : CBd (b + 5) M β L) (hT : CTs b M β L s.1) (hG : CG b M β k s.2) (hk : k ≤ 200) (hcy : cy ≤ 40) (hm : m ≤ 1000) (hI : IV β L FO FM FS m k cy s) (hY : β 0 0 1 ≤ k + 1) :
    ∃ M', F_X5_letWatchersLook b M = some M' ∧ CTs b M' β L (loA β L k s (β 0 0 4)).1.1 ∧ CG b M' β k (loA β L k s (β 0 0 4)).1.2 ∧ ((loA β L k s (β 0 0 4)).1.2.2.2.2.2.2 = 0 → ∀ o, o < β 0 0 4 → M'.1 35 b 0 o = nI ((loA β L k s (β 0 0 4)).2 o)) ∧ OnL b M M' := by
  have h3 := hg.1.2.2.2.1
  have key := it_down (z := fun _ _ => none) (B := B_X5_letWatchersLook_10 b) (P := fun t M1 => t ≤ β 0 0 4 ∧ CTs b M1 β L (loA β L k s (β 0 0 4 - t)).1.1 ∧ CG b M1 β k (loA β L k s (β 0 0 4 - t)).1.2 ∧ ((loA β L k s (β 0 0 4 - t)).1.2.2.2.2.2.2 = 0 → ∀ o, t ≤ o → o < β 0 0 4 → M1.1 35 b 0 o = nI ((loA β L k s (β 0 0 4 - t)).2 o)) ∧ OnL b M M1)
    (Q := fun o => ∃ M', o = some M' ∧ CTs b M' β L (loA β L k s (β 0 0 4)).1.1 ∧ CG b M' β k (loA β L k s (β 0 0 4)).1.2 ∧ ((loA β L k s (β 0 0 4)).1.2.2.2.2.2.2 = 0 → ∀ o, o < β 0 0 4 → M'.1 35 b 0 o = nI ((loA β L k s (β 0 0 4)).2 o)) ∧ OnL b M M')
    (fun k10 w M1 hP => by
      obtain ⟨hw1, hT1, hG1, h35, hF1⟩ := hP
      have hI1 := IV_lo hg hF hk hI (β 0 0 4 - (w + 1))
      obtain ⟨hl0, hl1⟩ := loA_lk (β := β) (L := L) (k := k) (s := s) (β 0 0 4 - (w + 1)) (by omega)
      have hstop := fun h => lo_over (β := β) (L := L) (k := k) (n := β 0 0 4 - (w + 1)) (s := s) h (w + 1)
      rw [show β 0 0 4 - (w + 1) + (w + 1) = β 0 0 4 by omega] at hstop
      have hla : loA β L k s (β 0 0 4 - w) = loS β L k w (loA β L k s (β 0 0 4 - (w + 1))) := by
        rw [show β 0 0 4 - w = (β 0 0 4 - (w + 1)) + 1 by omega]
        show loS β L k (β 0 0 4 - 1 - (β 0 0 4 - (w + 1))) _ = _
        rw [show β 0 0 4 - 1 - (β 0 0 4 - (w + 1)) = w by omega]
      rw [hla]
      have hlw := hl0 w (by omega)
      generalize loA β L k s (β 0 0 4 - (w + 1)) = p at hT1 hG1 h35 hI1 hl1 hlw hstop ⊢
      have hB1 : CBd (b + 5) M1 β L := hB.run hF1.1
      obtain ⟨⟨D, hS1⟩, hJ1, ho1, hz1⟩ := id hI1
      have hin : inb (nI w) 3 = true := inb_nI (by omega) (by omega)
      unfold B_X5_letWatchersLook_10
      rw [if_neg (nI_pos (by omega)), hG1.2.2.2.1]
      by_cases co : p.1.2.2.2.2.2.2 = 0
      case neg =>
        rw [if_neg (fun q => co ((nI_i0 (by omega)).mp q))]
        right
        have e := hstop co
        rw [e]
        exact ⟨M1, rfl, hT1, hG1, fun q => absurd q co, hF1⟩
      have hgw := hG1.2.2.2.2.1 w (by omega)
      rw [if_pos (by rw [co]; rfl), c_asleep hg.2.2.2.2.2.2.2.1 hB1 (by omega) hG1.1 hgw.1, Option.bind_some]
      left
      unfold B_X5_letWatchersLook_39
      by_cases c1 : slp L (nI w) (nI k) (nI (p.1.2.1 w) + (-1)) = true
      · have e : loS β L k w p = p := by
          unfold loS
          rw [if_neg (fun q => q co), if_pos c1]
        have hF2 : Fr (fun κ b' => κ = 35 ∧ b' = b) M1 (uIw M1 35 b 0 w 0) := Fr.uI ⟨rfl, rfl⟩
        have e350 : (uIw M1 35 b 0 w 0).1 35 b 0 w = 0 := by rw [uI1, if_pos ⟨rfl, rfl, rfl, rfl⟩]
        rw [if_pos c1, if_neg (by decide), if_pos hin, clampI (by omega), nar0, bd_eq, if_pos hin, e350, if_pos rfl, bd_eq, e]
        refine ⟨_, rfl, by omega, hT1.fr hF2 (by omega), hG1.w (hF2 23 b (by omega)).1 (hF2 33 b (by omega)).1 (hF2 34 b (by omega)).1 (hF2 26 b (by omega)).1 (hF2 28 b (by omega)).1, fun _ o ho1 ho2 => ?_, hF1.trans ⟨hF2.mono (fun κ b' h => ⟨by omega, by omega, h.2⟩), fun κ _ _ _ _ _ _ a => (hF2 κ b (by omega)).1, fun j _ _ _ => by rw [(hF2 23 b (by omega)).1]⟩⟩
        rw [uI1]
        by_cases z : o = w
        · rw [if_pos ⟨rfl, rfl, rfl, z⟩, z, hlw]
          rfl
        · rw [if_neg (fun q => z q.2.2.2)]
          exact h35 co o (by omega) ho2
      · have e : loS β L k w p = (lwS β k w (lkU p.2 w) (ltS β k w p.1 (β 0 0 5)) (β 0 0 4), lkU p.2 w) := by
          unfold loS
          rw [if_neg (fun q => q co), if_neg c1]
        obtain ⟨M2, hM2⟩ : ∃ M2, M2 = uIw M1 35 b 0 w 1 := ⟨_, rfl⟩
        have hF2 : Fr (fun κ b' => κ = 35 ∧ b' = b) M1 M2 := by rw [hM2]; exact Fr.uI ⟨rfl, rfl⟩
        have hL2 : OnL b M1 M2 := ⟨hF2.mono (fun κ b' h => ⟨by omega, by omega, h.2⟩), fun κ _ _ _ _ _ _ a => (hF2 κ b (by omega)).1, fun j _ _ _ => by rw [(hF2 23 b (by omega)).1]⟩
        have e235 : M2.1 35 b 0 w = 1 := by rw [hM2, uI1, if_pos ⟨rfl, rfl, rfl, rfl⟩]
        rw [if_neg c1, if_pos rfl, if_pos hin, clampI (by omega), nar1, ← hM2, bd_eq, if_pos hin, e235, if_neg (by decide), e]
        obtain ⟨M3, q1, q2, q3, q4, q5⟩ := c_lookT (k10 := k10) (w := w) hg hF hlow (hB1.run hL2.1) (hT1.fr hF2 (by omega)) (hG1.w (hF2 23 b (by omega)).1 (hF2 33 b (by omega)).1 (hF2 34 b (by omega)).1 (hF2 26 b (by omega)).1 (hF2 28 b (by omega)).1) hk hcy hm hI1 (by omega) hY
        have hB3 : CBd (b + 5) M3 β L := (hB1.run hL2.1).run q4.1
        have e35' : ∀ o, w ≤ o → o < β 0 0 4 → M3.1 35 b 0 o = nI (lkU p.2 w o) := by
          intro o ho ho2
          rw [q5]
          unfold lkU
          by_cases z : o = w
          · rw [if_pos z, z, e235]
            rfl
          · rw [if_neg z, hM2, uI1, if_neg (fun q => z q.2.2.2)]
            exact h35 co o (by omega) ho2
        obtain ⟨M4, r1, r2, r3, r4, r5⟩ := c_lookW (k10 := k10) (w := w) (lk := lkU p.2 w) hg hB3 q2 q3 hk hcy (IV_lt hg hF hk (w := w) hI1 _ (Nat.le_refl _)) (by omega) (fun o a b => e35' o (by omega) b) (fun o => by
          unfold lkU
          by_cases z : o = w
          · rw [if_pos z]; exact Nat.le_refl 1
          · rw [if_neg z]; exact hl1 o)
        rw [q1]
        unfold B_X5_letWatchersLook_93
        rw [bd_eq, nI_1, r1]
        exact ⟨M4, rfl, by omega, r2, r3, fun _ o a b => by rw [r5]; exact e35' o a b, ((hF1.trans hL2).trans q4).trans r4⟩)
    (fun k10 M1 hP => by
      obtain ⟨hw1, hT1, hG1, h35, hF1⟩ := hP
      unfold B_X5_letWatchersLook_10
      rw [if_pos (by decide)]
      exact ⟨M1, rfl, hT1, hG1, fun q o ho => h35 q o (Nat.zero_le _) ho, hF1⟩)
    FU (β 0 0 4) M (by unfold FU; omega) ⟨Nat.le_refl _, by rw [Nat.sub_self]; exact hT, by rw [Nat.sub_self]; exact hG, fun _ o a b => by omega, OnL.rfl⟩
  unfold F_X5_letWatchersLook
  rw [hB.1 4 (by omega), i_sub1, bd_eq]
  exact key
theorem c_dog {b : Nat} {M : Mw} {β : Bw} {L : Lw} {s : Vw × Hw} {k cy m : Nat} {lk : Nat → Nat} {FO FM : UInt32 → Prop} {FS : Nat → UInt64 → Prop} (hg : GB β L) (hB : CBd (b + 5) M β L) (hT : CTs b M β L s.1) (hG : CG b M β k s.2) (hk : k ≤ 200) (hcy : cy ≤ 40) (hI : IV β L FO FM FS m k cy s) (h35 : s.2.2.2.2.2.2 = 0 → ∀ o, o < β 0 0 4 → M.1 35 b 0 o = nI (lk o)) (hlk : ∀ o, lk o ≤ 1) :
    ∃ M', F_X5_askDog b M = some M' ∧ CTs b M' β L (dgS β k lk s).1 ∧ CG b M' β k (dgS β k lk s).2 ∧ OnL b M M' := by
  have h3 := hg.1.2.2.2.1
  obtain ⟨⟨D, hS1⟩, hJ1, ho1, hz1⟩ := hI
  unfold F_X5_askDog dgS
  rw [hG.2.2.2.1, hB.1 4 (by omega), hG.1]
  by_cases co : s.2.2.2.2.2.2 = 0
  case neg =>
    rw [if_neg (fun q => co ((nI_i0 (by omega)).mp q)), if_neg (fun q => co q.1)]
    exact ⟨M, rfl, hT, hG, OnL.rfl⟩
  rw [if_pos (by rw [co]; rfl)]
  by_cases c0 : 0 < β 0 0 4
  case neg =>
    rw [if_pos (show nI (β 0 0 4) ≤ 0 by rw [show β 0 0 4 = 0 by omega]; decide), if_neg (fun q => c0 q.2.1)]
    exact ⟨M, rfl, hT, hG, OnL.rfl⟩
  rw [if_neg (nI_nle c0 (by omega)), h35 co 0 c0]
  by_cases c1 : lk 0 = 0
  case neg =>
    have := hlk 0
    rw [if_neg (nI_ne0 (by omega) (by omega)), if_neg (fun q => c1 q.2.2)]
    exact ⟨M, rfl, hT, hG, OnL.rfl⟩
  have hl := hS1.len hg hcy
  obtain ⟨M3, e3, hG3, hF3⟩ := c_add (kind := 7) (who := 0) (lev := 3) hG (by omega)
  have hB3 : CBd (b + 5) M3 β L := hB.run (hF3.mono (fun κ b' h => ⟨by omega, by omega, h.2⟩))
  obtain ⟨M4, e4, hT4, hG4, hF4, hk4, hj4⟩ := c_climb (lev := 3) (task := 0) (w := 0) (wI := 0) hg hB3 (hT.fr hF3 (by omega)) hG3 hk (by omega) (by omega) (fun q => by omega) (hS1.2.2.2.2.2.2 co) (fun _ => rfl)
  have e4' : F_X5_climb b 3 (-1) 0 M3 = some M4 := e4
  have e3' : F_X4_add b (nI k) 7 0 3 M = some M3 := e3
  rw [if_pos (by rw [c1]; rfl), if_pos ⟨co, c0, c1⟩, e3', Option.bind_some, e4', Option.bind_some]
  refine ⟨M4, rfl, hT4, hG4, (hF3.mono (fun κ b' h => ⟨by omega, by omega, h.2⟩)).trans hF4, fun κ a1 a2 a3 a4 a5 a6 a7 => ?_, fun j j1 j2 j3 => ?_⟩
  · rw [hk4 κ a1 a2 a3, (hF3 κ b (by omega)).1]
  · rw [hj4 j j1 j2 j3, (hF3 23 b (by omega)).1]
theorem c_ec1 {b : Nat} {M : Mw} {β : Bw} {L : Lw} {V V' : Vw} {t : Nat} (h : CT b M β L V t) (h7 : V.1 t 7 ≤ 1000) (h8 : V.1 t 8 ≤ 1000) (h9 : V.1 t 9 < 2 ^ 31) (hV : VE (vs V t (ecG (V.1 t))) V' t) : ∃ M', F_X7_endCycle b t M = some M' ∧ CT b M' β L V' t ∧ On25 b t M M' := by
  have hfin : ∀ F : Nat → Nat, ecG (V.1 t) = F → (∀ f, f ≠ 7 → f ≠ 8 → F f = V.1 t f) → ∀ M' : Mw, M'.2 = M.2 → (∀ f, f ≠ 7 → f ≠ 8 → M'.1 25 b t f = M.1 25 b t f) → M'.1 25 b t 7 = nI (F 7) → M'.1 25 b t 8 = nI (F 8) → CT b M' β L V' t := by
    intro F hFe e M' g2 g g7 g8
    obtain ⟨v1, v2, v3, v4⟩ := hV
    rw [vs_at, hFe] at v1
    obtain ⟨h0, h1, h2, h3, h5, h6, h7', h8', h9', h10, h12, h13, h14, h11, h15, h16⟩ := h
    unfold chV at h3
    unfold CT chV
    rw [v1, v2, v3, v4, g2, g7, g8, g 0 (by decide) (by decide), g 1 (by decide) (by decide), g 2 (by decide) (by decide), g 3 (by decide) (by decide), g 4 (by decide) (by decide), g 5 (by decide) (by decide), g 6 (by decide) (by decide), g 9 (by decide) (by decide), g 10 (by decide) (by decide), g 12 (by decide) (by decide), g 13 (by decide) (by decide), g 14 (by decide) (by decide), e 0 (by decide) (by decide), e 1 (by decide) (by decide), e 2 (by decide) (by decide), e 3 (by decide) (by decide), e 5 (by decide) (by decide), e 6 (by decide) (by decide), e 9 (by decide) (by decide), e 10 (by decide) (by decide), e 12 (by decide) (by decide), e 13 (by decide) (by decide), e 14 (by decide) (by decide)]
    exact ⟨h0, h1, h2, h3, h5, h6, rfl, rfl, h9', h10, h12, h13, h14, h11, h15, h16⟩
  obtain ⟨h0, h1, h2, h3, h5, h6, h7', h8', h9', h10, h12, h13, h14, h11, h15, h16⟩ := id h
  unfold F_X7_endCycle
  rw [h9', h7', h8']
  by_cases c9 : V.1 t 9 = 0
  case neg =>
    rw [if_neg (nI_ne0 (by omega) h9)]
    exact ⟨M, rfl, hfin _ (if_neg (fun q => c9 q.1)) (fun _ _ _ => rfl) M rfl (fun _ _ _ => rfl) h7' h8', On25.rfl⟩
  rw [if_pos (by rw [c9]; rfl)]
  by_cases c7 : V.1 t 7 = 0
  · rw [if_pos (by rw [c7]; rfl)]
    exact ⟨M, rfl, hfin _ (if_neg (fun q => q.2 c7)) (fun _ _ _ => rfl) M rfl (fun _ _ _ => rfl) h7' h8', On25.rfl⟩
  have e88 : (uIw M 25 b t 8 (nI (V.1 t 8 + 1))).1 25 b t 8 = nI (V.1 t 8 + 1) := by rw [uI1, if_pos ⟨rfl, rfl, rfl, rfl⟩]
  rw [if_neg (nI_ne0 (by omega) (by omega)), nI_1, bd_eq, e88]
  by_cases c8 : V.1 t 8 + 1 = 3
  · have e87 : (uIw M 25 b t 8 (nI (V.1 t 8 + 1))).1 25 b t 7 = nI (V.1 t 7) := by rw [uI1, if_neg (by omega), h7']
    rw [if_pos (by rw [c8]; rfl), e87, show (1 : Int32) = nI 1 from rfl, pk_sub (by omega), bd_eq, bd_eq]
    refine ⟨_, rfl, hfin (fun f => if f = 7 then V.1 t 7 - 1 else if f = 8 then 0 else V.1 t f) ?_ (fun f a c => by show (if f = 7 then _ else if f = 8 then 0 else V.1 t f) = _; rw [if_neg a, if_neg c]) _ rfl (fun f a c => ?_) ?_ ?_, (On25.uI.trans On25.uI).trans On25.uI⟩
    · unfold ecG
      rw [if_pos ⟨c9, c7⟩, if_pos c8]
    · rw [uI1, if_neg (fun q => c q.2.2.2), uI1, if_neg (fun q => a q.2.2.2), uI1, if_neg (fun q => c q.2.2.2)]
    · rw [uI1, if_neg (by omega), uI1, if_pos ⟨rfl, rfl, rfl, rfl⟩]
      rfl
    · rw [uI1, if_pos ⟨rfl, rfl, rfl, rfl⟩]
      rfl
  · rw [if_neg (show ¬ nI (V.1 t 8 + 1) = 3 from fun q => c8 ((nI_eq (a := V.1 t 8 + 1) (b := 3) (by omega) (by omega)).mp q))]
    refine ⟨_, rfl, hfin (fun f => if f = 8 then V.1 t 8 + 1 else V.1 t f) ?_ (fun f a c => if_neg c) _ rfl (fun f a c => ?_) ?_ ?_, On25.uI⟩
    · unfold ecG
      rw [if_pos ⟨c9, c7⟩, if_neg c8]
    · rw [uI1, if_neg (fun q => c q.2.2.2)]
    · rw [uI1, if_neg (by omega), h7']
      rfl
    · rw [uI1, if_pos ⟨rfl, rfl, rfl, rfl⟩]
      rfl
theorem ecV_ge {V : Vw} {n t : Nat} (h : n ≤ t) : VE V (ecV V n) t := ⟨if_neg (by omega), rfl, rfl, rfl⟩
theorem ecV_at {V : Vw} {n : Nat} : VE (vs V n (ecG (V.1 n))) (ecV V (n + 1)) n := ⟨by rw [vs_at]; exact if_pos (Nat.lt_succ_self n), rfl, rfl, rfl⟩
theorem ecV_s {V : Vw} {n t : Nat} (h : t ≠ n) : VE (ecV V n) (ecV V (n + 1)) t := by
  refine ⟨?_, rfl, rfl, rfl⟩
  show (if _ then _ else _) = (if _ then _ else _)
  by_cases c : t < n
  · rw [if_pos c, if_pos (by omega)]
  · rw [if_neg c, if_neg (by omega)]
theorem c_ec {b : Nat} {M : Mw} {β : Bw} {L : Lw} {s : Vw × Hw} {k : Nat} (hg : GB β L) (hB : CBd (b + 5) M β L) (hT : CTs b M β L s.1) (hG : CG b M β k s.2) (ho : s.2.2.2.2.2.2 ≤ 1) (hv : ∀ t, t < β 0 0 5 → s.1.1 t 7 ≤ 1000 ∧ s.1.1 t 8 ≤ 1000 ∧ s.1.1 t 9 < 2 ^ 31) :
    ∃ M', F_X5_endCycle b M = some M' ∧ CTs b M' β L (ecS β s).1 ∧ CG b M' β k (ecS β s).2 ∧ OnL b M M' := by
  have h5 := hg.1.2.2.2.2
  have e08 := hG.2.2.2.1
  unfold ecS
  have key := it_for (z := fun _ _ => none) (B := B_X5_endCycle_2 b) (n := β 0 0 5) (P := fun n M1 => (n = 0 ∨ s.2.2.2.2.2.2 = 0) ∧ CTs b M1 β L (ecV s.1 n) ∧ Fr (fun κ b' => κ = 25 ∧ b' = b) M M1)
    (Q := fun o => ∃ M', o = some M' ∧ CTs b M' β L (if s.2.2.2.2.2.2 = 0 then (ecV s.1 (β 0 0 5), s.2) else s).1 ∧ CG b M' β k (if s.2.2.2.2.2.2 = 0 then (ecV s.1 (β 0 0 5), s.2) else s).2 ∧ OnL b M M') (fun kk n M1 hn hP => by
    obtain ⟨hz, hT1, hF1⟩ := hP
    have hB1 : CBd (b + 5) M1 β L := hB.run (hF1.mono (fun κ b' h => ⟨by omega, by omega, h.2⟩))
    have e8 : M1.1 23 b 0 8 = nI s.2.2.2.2.2.2 := by rw [(hF1 23 b (by omega)).1]; exact e08
    unfold B_X5_endCycle_2
    rw [hB1.1 5 (by omega), if_neg (nI_ge hn (by omega)), e8]
    by_cases co : s.2.2.2.2.2.2 = 0
    case neg =>
      obtain rfl : n = 0 := hz.elim id (fun q => absurd q co)
      rw [if_neg (fun q => co ((nI_i0 (by omega)).mp q)), if_neg co]
      right
      have hF' : OnL b M M1 := ⟨hF1.mono (fun κ b' h => ⟨by omega, by omega, h.2⟩), fun κ a _ _ _ _ _ _ => (hF1 κ b (by omega)).1, fun j _ _ _ => by rw [(hF1 23 b (by omega)).1]⟩
      exact ⟨M1, rfl, fun t ht => (hT1 t ht).to rfl rfl rfl ⟨rfl, rfl, rfl, rfl⟩, hG.fr hF1, hF'⟩
    left
    obtain ⟨v7, v8, v9⟩ := hv n hn
    have e7 : (ecV s.1 n).1 n = s.1.1 n := (ecV_ge (Nat.le_refl n)).1
    obtain ⟨M2, q1, q2, q3⟩ := c_ec1 (V' := ecV s.1 (n + 1)) (hT1 n hn) (by rw [e7]; exact v7) (by rw [e7]; exact v8) (by rw [e7]; exact v9) (by
      have := ecV_at (V := s.1) (n := n)
      refine ⟨?_, rfl, rfl, rfl⟩
      rw [vs_at, e7]
      rw [this.1, vs_at])
    rw [if_pos (by rw [co]; rfl), if_pos (inb_nI (by omega) (by omega)), clampI (by omega), q1, Option.bind_some, bd_eq, nI_1]
    refine ⟨M2, rfl, Or.inr co, fun t ht => ?_, hF1.trans q3.fr⟩
    by_cases c : t = n
    · subst c
      exact q2
    · obtain ⟨o1, o2, o3⟩ := q3 25 b t (fun q => c q.2.2)
      exact (hT1 t ht).to o1 o2 o3 (ecV_s c)) (fun kk M1 hP => by
    obtain ⟨hz, hT1, hF1⟩ := hP
    have hB1 : CBd (b + 5) M1 β L := hB.run (hF1.mono (fun κ b' h => ⟨by omega, by omega, h.2⟩))
    have hF' : OnL b M M1 := ⟨hF1.mono (fun κ b' h => ⟨by omega, by omega, h.2⟩), fun κ a _ _ _ _ _ _ => (hF1 κ b (by omega)).1, fun j _ _ _ => by rw [(hF1 23 b (by omega)).1]⟩
    unfold B_X5_endCycle_2
    rw [hB1.1 5 (by omega), if_pos (Int32.le_refl _)]
    by_cases co : s.2.2.2.2.2.2 = 0
    · rw [if_pos co]
      exact ⟨M1, rfl, hT1, hG.fr hF1, hF'⟩
    · rw [if_neg co]
      have hz0 : β 0 0 5 = 0 := hz.elim id (fun q => absurd q co)
      exact ⟨M1, rfl, fun t ht => by omega, hG.fr hF1, hF'⟩)
    FU 0 M (Nat.zero_le _) (by unfold FU; omega) ⟨Or.inl rfl, fun t ht => (hT t ht).to rfl rfl rfl (ecV_ge (Nat.zero_le t)), Fr.rfl⟩
  rw [nI_0] at key
  exact key
