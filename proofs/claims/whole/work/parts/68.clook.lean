/-! THE LOOKS, the class -/
theorem CG.w {b : Nat} {M M' : Mw} {β : Bw} {k : Nat} {H : Hw} (h : CG b M β k H) (h23 : M'.1 23 b = M.1 23 b) (h33 : M'.1 33 b = M.1 33 b) (h34 : M'.1 34 b = M.1 34 b) (h26 : M'.1 26 b = M.1 26 b) (h28 : M'.1 28 b = M.1 28 b) : CG b M' β k H := by
  unfold CG at h ⊢
  rw [h23, h33, h34, h26, h28]
  exact h
def OnL (b : Nat) (M M' : Mw) : Prop := Fr (SRun b) M M' ∧ (∀ κ, κ ≠ 25 → κ ≠ 33 → κ ≠ 23 → κ ≠ 26 → κ ≠ 28 → κ ≠ 34 → κ ≠ 35 → M'.1 κ b = M.1 κ b) ∧ (∀ j, j ≠ 5 → j ≠ 7 → j ≠ 8 → M'.1 23 b 0 j = M.1 23 b 0 j)
theorem OnL.rfl {b : Nat} {M : Mw} : OnL b M M := ⟨Fr.rfl, fun _ _ _ _ _ _ _ _ => Eq.refl _, fun _ _ _ _ => Eq.refl _⟩
theorem OnL.trans {b : Nat} {M M1 M2 : Mw} (h : OnL b M M1) (h2 : OnL b M1 M2) : OnL b M M2 := ⟨h.1.trans h2.1, fun κ a c d e f g i => (h2.2.1 κ a c d e f g i).trans (h.2.1 κ a c d e f g i), fun j a c d => (h2.2.2 j a c d).trans (h.2.2 j a c d)⟩
theorem OnF.l {b : Nat} {M M' : Mw} (h : OnF b M M') : OnL b M M' := ⟨h.1, fun κ a c d e f _ _ => h.2.1 κ a c d e f, h.2.2⟩
theorem CTs.fr {b : Nat} {M M' : Mw} {β : Bw} {L : Lw} {V : Vw} {S : Nat → Nat → Prop} (h : CTs b M β L V) (hf : Fr S M M') (hs : ¬ S 25 b) : CTs b M' β L V := fun t ht => (h t ht).to (by rw [(hf 25 b hs).1]) (by rw [(hf 25 b hs).2.1]) (by rw [(hf 25 b hs).2.2]) VE.rfl
theorem c_fw {b : Nat} {M : Mw} {β : Bw} {L : Lw} {V : Vw} {H : Hw} {k o : Nat} (hg : GB β L) (hB : CBd (b + 5) M β L) (hT : CTs b M β L V) (hG : CG b M β k H) (hk : k ≤ 200) (ho : o < β 0 0 4) (hH : H.2.2.2.1 ≤ 2) (hl : H.2.2.1.length < 128) (hs : H.2.1 o ≤ 1) :
    ∃ M', F_X5_failWatcher b (nI o) M = some M' ∧ CTs b M' β L (fwS β k o (V, H)).1 ∧ CG b M' β k (fwS β k o (V, H)).2 ∧ OnL b M M' ∧ M'.1 35 b = M.1 35 b := by
  have h3 := hg.1.2.2.2.1
  have hin : inb (nI o) 3 = true := inb_nI (by omega) (by omega)
  obtain ⟨g6, g7, g5, g8, gw, gn, gr⟩ := id hG
  obtain ⟨M2, hM2⟩ : ∃ M2, M2 = uIw M 34 b 0 o 1 := ⟨_, rfl⟩
  have hF2 : Fr (fun κ b' => κ = 34 ∧ b' = b) M M2 := by rw [hM2]; exact Fr.uI ⟨rfl, rfl⟩
  have hB2 : CBd (b + 5) M2 β L := hB.run (hF2.mono (fun κ b' h => ⟨by omega, by omega, h.2⟩))
  have hT2 : CTs b M2 β L V := hT.fr hF2 (by omega)
  have hG2 : CG b M2 β k (slH H o) := by
    unfold CG
    rw [(hF2 23 b (by omega)).1, (hF2 33 b (by omega)).1, (hF2 26 b (by omega)).1, (hF2 28 b (by omega)).1]
    refine ⟨g6, g7, g5, g8, fun w hw => ⟨(gw w hw).1, ?_⟩, gn, gr⟩
    rw [hM2, uI1]
    show _ = nI (if w = o then 1 else H.2.1 w)
    by_cases c : w = o
    · rw [if_pos ⟨rfl, rfl, rfl, c⟩, if_pos c]
      rfl
    · rw [if_neg (fun q => c q.2.2.2), if_neg c, (gw w hw).2]
  have hlev : fwL H o ≤ 3 := by
    unfold fwL
    by_cases c : H.2.1 o = 0
    · rw [if_pos c]; omega
    · rw [if_neg c]; omega
  obtain ⟨M3, e3, hG3, hF3⟩ := c_add (kind := 6) (who := o) (lev := fwL H o) hG2 hl
  have hB3 : CBd (b + 5) M3 β L := hB2.run (hF3.mono (fun κ b' h => ⟨by omega, by omega, h.2⟩))
  have hT3 : CTs b M3 β L V := hT2.fr hF3 (by omega)
  obtain ⟨M4, e4, hT4, hG4, hF4, hk4, hj4⟩ := c_climb (task := 0) (w := o) (wI := nI o) hg hB3 hT3 hG3 hk hlev (by omega) (fun _ => ho) hH (fun _ => rfl)
  have e4' : F_X5_climb b (nI (fwL H o)) (-1) (nI o) M3 = some M4 := e4
  have e3' : F_X4_add b (nI k) 6 (nI o) (nI (fwL H o)) M2 = some M3 := e3
  have e236 : M2.1 23 b 0 6 = nI k := hG2.1
  have h14 : B_X5_failWatcher_14 b (nI o) (nI (fwL H o)) M = some M4 := by
    unfold B_X5_failWatcher_14
    rw [if_pos hin, clampI (by omega), nar1, ← hM2, bd_eq, e236, e3', Option.bind_some, e4', Option.bind_some]
  refine ⟨M4, ?_, hT4, hG4, ⟨((hF2.mono (fun κ b' h => ⟨by omega, by omega, h.2⟩)).trans (hF3.mono (fun κ b' h => ⟨by omega, by omega, h.2⟩))).trans hF4, fun κ a1 a2 a3 a4 a5 a6 a7 => ?_, fun j j1 j2 j3 => ?_⟩, ?_⟩
  · unfold F_X5_failWatcher
    rw [if_pos hin, clampI (by omega), (gw o ho).2]
    by_cases c : H.2.1 o = 0
    · rw [if_pos (by rw [c]; rfl)]
      rw [show fwL H o = 2 from if_pos c] at h14
      exact h14
    · rw [if_neg (nI_ne0 (by omega) (by omega))]
      rw [show fwL H o = 3 from if_neg c] at h14
      exact h14
  · rw [hk4 κ a1 a2 a3, (hF3 κ b (by omega)).1, (hF2 κ b (by omega)).1]
  · rw [hj4 j j1 j2 j3, (hF3 23 b (by omega)).1, (hF2 23 b (by omega)).1]
  · rw [hk4 35 (by decide) (by decide) (by decide), (hF3 35 b (by omega)).1, (hF2 35 b (by omega)).1]
theorem lw_low {β : Bw} {L : Lw} (hg : GB β L) {k w : Nat} {lk : Nat → Nat} {s : Vw × Hw} (hw : w < β 0 0 4) : ∀ n, n ≤ w + 1 → lwS β k w lk s n = s := by
  intro n
  induction n with
  | zero => intro _; rfl
  | succ n ih =>
    intro hn
    show lwT β k w lk n (lwS β k w lk s n) = s
    rw [ih (by omega)]
    refine if_neg (fun q => ?_)
    have q2 := q.2.1
    obtain ⟨b0, hb⟩ := hg.2.2.2.2.2.1
    by_cases c : n = 0
    · rw [c, b0] at q2
      omega
    · have := (hb n (by omega) (by omega)).2
      omega
theorem c_lookW {b : Nat} {M : Mw} {β : Bw} {L : Lw} {s : Vw × Hw} {k w cy m : Nat} {lk : Nat → Nat} {FO FM : UInt32 → Prop} {FS : Nat → UInt64 → Prop} {k10 : Int32 → Mw → Option Mw} (hg : GB β L) (hB : CBd (b + 5) M β L) (hT : CTs b M β L s.1) (hG : CG b M β k s.2) (hk : k ≤ 200) (hcy : cy ≤ 40) (hI : IV β L FO FM FS m k cy s) (hw : w < β 0 0 4) (h35 : ∀ o, w < o → o < β 0 0 4 → M.1 35 b 0 o = nI (lk o)) (hlk : ∀ o, lk o ≤ 1) :
    ∃ M', it (fun _ _ => none) (B_X5_letWatchersLook_97 b k10 (nI w)) FU (nI (w + 1)) M = k10 (nI w + (-1)) M' ∧ CTs b M' β L (lwS β k w lk s (β 0 0 4)).1 ∧ CG b M' β k (lwS β k w lk s (β 0 0 4)).2 ∧ OnL b M M' ∧ M'.1 35 b = M.1 35 b := by
  have h3 := hg.1.2.2.2.1
  exact it_for (n := β 0 0 4) (P := fun n M1 => w + 1 ≤ n ∧ CTs b M1 β L (lwS β k w lk s n).1 ∧ CG b M1 β k (lwS β k w lk s n).2 ∧ OnL b M M1 ∧ M1.1 35 b = M.1 35 b)
    (Q := fun o => ∃ M', o = k10 (nI w + (-1)) M' ∧ CTs b M' β L (lwS β k w lk s (β 0 0 4)).1 ∧ CG b M' β k (lwS β k w lk s (β 0 0 4)).2 ∧ OnL b M M' ∧ M'.1 35 b = M.1 35 b) (fun kk n M1 hn hP => by
    have hI1 := IV_lw hg hk (w := w) (lk := lk) hI n (by omega)
    have hla : lwS β k w lk s (n + 1) = lwT β k w lk n (lwS β k w lk s n) := rfl
    have hstop := fun h => lw_over (β := β) (k := k) (w := w) (lk := lk) (n := n) (s := s) h (β 0 0 4 - n)
    rw [show n + (β 0 0 4 - n) = β 0 0 4 by omega] at hstop
    rw [hla]
    generalize lwS β k w lk s n = s1 at hP hstop hI1 ⊢
    obtain ⟨hwn, hT1, hG1, hF1, e35⟩ := hP
    have hB1 : CBd (b + 5) M1 β L := hB.run hF1.1
    obtain ⟨⟨D, hS1⟩, hJ1, ho1, hz1⟩ := hI1
    have e04 := hB1.1 4 (by omega)
    have e1 := (hB1.2.2.2.2.1 n hn).1
    have hin : inb (nI n) 3 = true := inb_nI (by omega) (by omega)
    have hb1 : β 1 0 n ≤ 3 := by
      obtain ⟨b0, hb⟩ := hg.2.2.2.2.2.1
      by_cases c : n = 0
      · rw [c, b0]; omega
      · have := (hb n (by omega) hn).2
        omega
    unfold B_X5_letWatchersLook_97
    rw [e04, if_neg (nI_ge hn (by omega)), hG1.2.2.2.1]
    by_cases co : s1.2.2.2.2.2.2 = 0
    case neg =>
      rw [if_neg (fun q => co ((nI_i0 (by omega)).mp q)), bd_eq]
      right
      rw [hstop co]
      exact ⟨M1, rfl, hT1, hG1, hF1, e35⟩
    rw [if_pos (by rw [co]; rfl), if_pos hin, clampI (by omega), e1]
    left
    by_cases c1 : β 1 0 n = w + 1
    case neg =>
      rw [if_neg (fun q => c1 ((nI_m1 (β 1 0 n) w (by omega) (by omega)).mp q.symm)), bd_eq, nI_1]
      have e : lwT β k w lk n s1 = s1 := if_neg (fun q => c1 q.2.1)
      rw [e]
      exact ⟨M1, rfl, by omega, hT1, hG1, hF1, e35⟩
    have e35n : M1.1 35 b 0 n = nI (lk n) := by rw [e35]; exact h35 n (by omega) hn
    rw [if_pos ((nI_m1 (β 1 0 n) w (by omega) (by omega)).mpr c1).symm, if_pos hin, e35n]
    by_cases c2 : lk n = 0
    case neg =>
      have := hlk n
      rw [if_neg (nI_ne0 (by omega) (by omega)), bd_eq, nI_1]
      have e : lwT β k w lk n s1 = s1 := if_neg (fun q => c2 q.2.2)
      rw [e]
      exact ⟨M1, rfl, by omega, hT1, hG1, hF1, e35⟩
    have e : lwT β k w lk n s1 = fwS β k n s1 := if_pos ⟨co, c1, c2⟩
    have hl := hS1.len hg hcy
    obtain ⟨M2, q1, q2, q3, q4, q5⟩ := c_fw (V := s1.1) (H := s1.2) hg hB1 hT1 hG1 hk hn (hS1.2.2.2.2.2.2 co) (by omega) (hS1.2.2.2.2.1 n hn)
    rw [if_pos (by rw [c2]; rfl), q1, Option.bind_some, bd_eq, nI_1, e]
    exact ⟨M2, rfl, by omega, q2, q3, hF1.trans q4, by rw [q5, e35]⟩)
    (fun kk M1 hP => by
      have hB1 : CBd (b + 5) M1 β L := hB.run hP.2.2.2.1.1
      unfold B_X5_letWatchersLook_97
      rw [hB1.1 4 (by omega), if_pos (Int32.le_refl _), bd_eq]
      exact ⟨M1, rfl, hP.2⟩)
    FU (w + 1) M hw (by unfold FU; omega) ⟨Nat.le_refl _, by rw [lw_low hg hw (w + 1) (Nat.le_refl _)]; exact hT, by rw [lw_low hg hw (w + 1) (Nat.le_refl _)]; exact hG, OnL.rfl, rfl⟩
theorem nI_cyc {k Y : Nat} (h : Y ≤ k + 1) : nI k - nI Y + 1 = nI (k + 1 - Y) := by
  have e : nI k - nI Y + 1 = (nI k + 1) - nI Y := by
    rw [Int32.sub_eq_add_neg, Int32.sub_eq_add_neg, Int32.add_assoc, Int32.add_comm (-nI Y) 1, ← Int32.add_assoc]
  rw [e, nI_1, pk_sub h]
theorem c_misses {b : Nat} {M : Mw} {β : Bw} {L : Lw} {V : Vw} {k w t : Nat} (hg : GB β L) (hB : CBd (b + 5) M β L) (h : CT b M β L V t) (h6 : M.1 23 b 0 6 = nI k) (hk : k ≤ 200) (ht : t < β 0 0 5) (hw : w < 3) (hY : β 0 0 1 ≤ k + 1) (h0 : V.1 t 0 ≤ 1000) (h10 : V.1 t 10 ≤ 1000) : F_X5_missesUnder b (nI w) (nI t) M = some (if misB β V k t w = true then 1 else 0) := by
  have h5 := hg.1.2.2.2.2
  have hW := hg.1.2.2.2.1
  obtain ⟨g0, g4, g60, gA, gAB, gB, gL, gM, -⟩ := hg.2.2.2.1 t ht
  have hin : inb (nI t) 5 = true := inb_nI (by omega) (by omega)
  have e0 : M.1 4 (b + 5) t 0 = nI (β 4 t 0) := hB.2.2.1 t ht 0 (by omega)
  have e4 : M.1 4 (b + 5) t 4 = nI (β 4 t 4) := hB.2.2.1 t ht 4 (by omega)
  have e5 : M.1 4 (b + 5) t 5 = nI (β 4 t 5) := hB.2.2.1 t ht 5 (by omega)
  have e1 : M.1 0 (b + 5) 0 1 = nI (β 0 0 1) := hB.1 1 (by omega)
  have e10 : M.1 25 b t 10 = nI (V.1 t 10) := h.2.2.2.2.2.2.2.2.2.1
  unfold F_X5_missesUnder misB
  rw [if_pos hin, if_pos hin, clampI (by omega), e0, e4, e5, e1, h6, h.1, e10, nI_cyc hY]
  by_cases c0 : β 4 t 0 = w
  case neg =>
    rw [if_neg (fun q => c0 ((nI_eq (by omega) (by omega)).mp q))]
    simp [c0]
  rw [if_pos (by rw [c0])]
  by_cases c1 : V.1 t 0 ≤ k + 1 - β 0 0 1
  case neg =>
    rw [if_pos (nI_lt (by omega) (by omega))]
    simp [c1]
  rw [if_neg (nI_nlt c1 (by omega))]
  by_cases c2 : V.1 t 10 < β 4 t 4
  · rw [if_pos (nI_lt c2 (by omega))]
    simp [c0, c1, c2]
  rw [if_neg (nI_nlt (by omega) (by omega))]
  by_cases c3 : V.1 t 10 ≤ β 4 t 5
  · rw [if_pos (nI_le c3 (by omega))]
    have c4 : ¬ β 4 t 5 < V.1 t 10 := by omega
    simp [c2, c4]
  · rw [if_neg (nI_ge (by omega) (by omega))]
    have c4 : β 4 t 5 < V.1 t 10 := by omega
    simp [c0, c1, c4]
theorem c_lookT {b : Nat} {M : Mw} {β : Bw} {L : Lw} {s : Vw × Hw} {k w cy m : Nat} {FO FM : UInt32 → Prop} {FS : Nat → UInt64 → Prop} {k10 : Int32 → Mw → Option Mw} (hg : GB β L) (hF : FH FO FM FS) (hlow : nf (FP.fdiv (FP.i2f (nI (β 0 0 2))) 1092616192) = true) (hB : CBd (b + 5) M β L) (hT : CTs b M β L s.1) (hG : CG b M β k s.2) (hk : k ≤ 200) (hcy : cy ≤ 40) (hm : m ≤ 1000) (hI : IV β L FO FM FS m k cy s) (hw : w < β 0 0 4) (hY : β 0 0 1 ≤ k + 1) :
    ∃ M', it (fun _ _ => none) (B_X5_letWatchersLook_54 b k10 (nI w)) FU 0 M = B_X5_letWatchersLook_93 b k10 (nI w) M' ∧ CTs b M' β L (ltS β k w s (β 0 0 5)).1 ∧ CG b M' β k (ltS β k w s (β 0 0 5)).2 ∧ OnL b M M' ∧ M'.1 35 b = M.1 35 b := by
  have h3 := hg.1.2.2.2.1
  have h5 := hg.1.2.2.2.2
  have key := it_for (z := fun _ _ => none) (B := B_X5_letWatchersLook_54 b k10 (nI w)) (n := β 0 0 5) (P := fun n M1 => CTs b M1 β L (ltS β k w s n).1 ∧ CG b M1 β k (ltS β k w s n).2 ∧ OnL b M M1 ∧ M1.1 35 b = M.1 35 b)
    (Q := fun o => ∃ M', o = B_X5_letWatchersLook_93 b k10 (nI w) M' ∧ CTs b M' β L (ltS β k w s (β 0 0 5)).1 ∧ CG b M' β k (ltS β k w s (β 0 0 5)).2 ∧ OnL b M M' ∧ M'.1 35 b = M.1 35 b) (fun kk n M1 hn hP => by
    have hI1 := IV_lt hg hF hk (w := w) hI n (by omega)
    have hla : ltS β k w s (n + 1) = ltT β k w n (ltS β k w s n) := rfl
    have hstop := fun h => lt_over (β := β) (k := k) (w := w) (n := n) (s := s) h (β 0 0 5 - n)
    rw [show n + (β 0 0 5 - n) = β 0 0 5 by omega] at hstop
    rw [hla]
    generalize ltS β k w s n = s1 at hP hstop hI1 ⊢
    obtain ⟨hT1, hG1, hF1, e35⟩ := hP
    have hB1 : CBd (b + 5) M1 β L := hB.run hF1.1
    obtain ⟨⟨D, hS1⟩, hJ1, ho1, hz1⟩ := hI1
    obtain ⟨a7, a0, a1, a2, a5, af⟩ := hS1.2.1 n hn
    obtain ⟨j12, j10, -⟩ := hJ1 n hn
    unfold B_X5_letWatchersLook_54
    rw [hB1.1 5 (by omega), if_neg (nI_ge hn (by omega)), hG1.2.2.2.1]
    by_cases co : s1.2.2.2.2.2.2 = 0
    case neg =>
      rw [if_neg (fun q => co ((nI_i0 (by omega)).mp q))]
      right
      rw [hstop co]
      exact ⟨M1, rfl, hT1, hG1, hF1, e35⟩
    rw [if_pos (by rw [co]; rfl), c_misses hg hB1 (hT1 n hn) hG1.1 hk hn (by omega) hY a0 (by omega), Option.bind_some]
    left
    by_cases c1 : misB β s1.1 k n w = true
    case neg =>
      rw [if_neg c1, if_pos rfl, bd_eq, nI_1]
      have e : ltT β k w n s1 = s1 := if_neg (fun q => c1 q.2)
      rw [e]
      exact ⟨M1, rfl, hT1, hG1, hF1, e35⟩
    have e : ltT β k w n s1 = failS β k 5 n s1 := if_pos ⟨co, c1⟩
    have hl := hS1.len hg hcy
    have hb6 := hS1.2.2.2.2.2.2 co
    obtain ⟨M2, q1, q2, q3, q4, q5, q6⟩ := c_fail (kind := 5) hg hB1 hT1 hG1 hk hn (hS1.2.2.2.2.2.2 co) (by omega) (hF.1 _ af).1 hlow (by omega)
    have q1' : F_X5_failTask b (nI n) 5 M1 = some M2 := q1
    rw [if_pos c1, if_neg (by decide), q1', Option.bind_some, bd_eq, nI_1, e]
    exact ⟨M2, rfl, q2, q3, hF1.trans (OnF.l ⟨q4, q5, q6⟩), by rw [q5 35 (by decide) (by decide) (by decide) (by decide) (by decide), e35]⟩)
    (fun kk M1 hP => by
      have hB1 : CBd (b + 5) M1 β L := hB.run hP.2.2.1.1
      unfold B_X5_letWatchersLook_54
      rw [hB1.1 5 (by omega), if_pos (Int32.le_refl _)]
      exact ⟨M1, rfl, hP⟩)
    FU 0 M (Nat.zero_le _) (by unfold FU; omega) ⟨hT, hG, OnL.rfl, rfl⟩
  rw [nI_0] at key
  exact key
