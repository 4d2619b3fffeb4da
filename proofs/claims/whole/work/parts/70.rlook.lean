/-! THE LOOKS, the reference -/
def OnY (M M' : Mw) : Prop := Fr (fun κ _ => (64 ≤ κ ∧ κ ≤ 81) ∨ (84 ≤ κ ∧ κ ≤ 86) ∨ κ = 50 ∨ (88 ≤ κ ∧ κ ≤ 91)) M M' ∧ (∀ j, j ≠ 56 → j ≠ 57 → j ≠ 58 → j ≠ 59 → M'.1 50 0 0 j = M.1 50 0 0 j)
theorem OnY.rfl {M : Mw} : OnY M M := ⟨Fr.rfl, fun _ _ _ _ _ => Eq.refl _⟩
theorem OnY.trans {M M1 M2 : Mw} (h : OnY M M1) (h2 : OnY M1 M2) : OnY M M2 := ⟨h.1.trans h2.1, fun j a c d e => (h2.2 j a c d e).trans (h.2 j a c d e)⟩
theorem OnG.y {M M' : Mw} (h : OnG M M') : OnY M M' := ⟨h.1.mono (fun κ _ q => by unfold STs S84 S50 at q; omega), h.2⟩
theorem RBd.onY {M M' : Mw} {β : Bw} {L : Lw} (h : RBd M β L) (ho : OnY M M') : RBd M' β L :=
  h.fr (ho.1.k1 (fun b => by omega)) (fun j a c => ho.2 j (by omega) (by omega) (by omega) (by omega))
theorem RTs.fr {M M' : Mw} {β : Bw} {V : Vw} {S : Nat → Nat → Prop} (h : RTs M β V) (hf : Fr S M M') (hs : ∀ κ b, 64 ≤ κ → κ ≤ 81 → ¬ S κ b) : RTs M' β V := fun t ht => (h t ht).frS hf hs
theorem fwL_le (H : Hw) (o : Nat) : fwL H o = 2 ∨ fwL H o = 3 := by
  unfold fwL
  by_cases c : H.2.1 o = 0
  · rw [if_pos c]; exact Or.inl rfl
  · rw [if_neg c]; exact Or.inr rfl
theorem r_fw {M : Mw} {β : Bw} {L : Lw} {V : Vw} {H : Hw} {k o : Nat} {k108 : Int32 → Mw → Option Mw} {l1 : Int32} (hg : GB β L) (h : RBd M β L) (hT : RTs M β V) (hG : RG M β H) (hk : k ≤ 200) (ho : o < β 0 0 4) (hb : H.2.2.2.1 ≤ 2) (hl : H.2.2.1.length < 4000) (hw : ∀ j, H.1 j ≤ k + 1) :
    ∃ M', B_X10_looks_168 k108 l1 (nI k) (nI o) (nI (fwL H o)) M = k108 (nI (o + 1)) M' ∧ RTs M' β (fwS β k o (V, H)).1 ∧ RG M' β (fwS β k o (V, H)).2 ∧ OnY M M' ∧ M'.1 86 = M.1 86 := by
  have h3 := hg.1.2.2.2.1
  have hin : inb (nI o) 3 = true := inb_nI (by omega) (by omega)
  obtain ⟨M2, hM2⟩ : ∃ M2, M2 = uIw M 85 0 0 o 1 := ⟨_, rfl⟩
  have hF2 : Fr (fun κ _ => κ = 85) M M2 := by rw [hM2]; exact Fr.uI rfl
  have h2b : RBd M2 β L := h.frS hF2 (fun b => by omega) (fun b => by omega)
  have hT2 : RTs M2 β V := hT.fr hF2 (fun κ b _ _ => by omega)
  have hG2 : RG M2 β (slH H o) := by
    obtain ⟨g57, g59, g58, g85, g56, grec, gwk⟩ := hG
    have e : ∀ κ, κ ≠ 85 → M2.1 κ = M.1 κ := fun κ hκ => by rw [hM2, uI_k hκ]
    unfold RG
    rw [e 50 (by decide), e 88 (by decide), e 89 (by decide), e 90 (by decide), e 91 (by decide)]
    refine ⟨g57, g59, g58, fun w hw' => ?_, g56, grec, fun I hI hn => ?_⟩
    · rw [hM2, uI1]
      show _ = nI (if w = o then 1 else H.2.1 w)
      by_cases c : w = o
      · rw [if_pos ⟨rfl, rfl, rfl, c⟩, if_pos c]
        rfl
      · rw [if_neg (fun q => c q.2.2.2), if_neg c, g85 w hw']
    · refine (gwk I hI ?_).fr (e 51 (by decide)) (e 84 (by decide))
      rw [e 51 (by decide)] at hn
      exact hn
  have hlev : fwL H o ≤ 3 := by rcases fwL_le H o with q | q <;> omega
  obtain ⟨M3, e3, hG3, hF3, hj3⟩ := r_records (L := L) (k := k) (kind := 6) (who := o) (lev := fwL H o) hG2 hl
  have hB3 : RBd M3 β L := h2b.fr (hF3.k1 (fun b => by omega)) (fun j j1 j2 => hj3 j (by omega))
  have hT3 : RTs M3 β V := hT2.fr hF3 (fun κ b _ _ => by omega)
  obtain ⟨M4, e4, hT4, hG4, hF4, hj4⟩ := r_climbs (task := 0) (w := o) (taskI := -1) (wI := nI o) hg hB3 hT3 hG3 hk hlev (by decide) (fun q => by rcases fwL_le H o with z | z <;> omega) (fun _ => ⟨ho, rfl, fun q => absurd q (Nat.lt_irrefl 0)⟩) hb hw
  have e3' : F_X10_records (nI k) 6 (nI o) (nI (fwL H o)) M2 = some M3 := e3
  unfold B_X10_looks_168
  rw [if_pos hin, clampI (by omega), nar1, ← hM2, bd_eq, e3', Option.bind_some, e4, Option.bind_some, bd_eq, nI_1]
  have e86 : M4.1 86 = M.1 86 := by
    rw [hF4.k1 (fun b => by unfold STs S84 S50; omega), hF3.k1 (fun b => by unfold S50; omega), hF2.k1 (fun b => by omega)]
  refine ⟨M4, rfl, hT4, hG4, ⟨?_, fun j j0 j1 j2 j3 => ?_⟩, e86⟩
  · exact ((hF2.mono (fun κ b q => by omega)).trans (hF3.mono (fun κ b q => by unfold S50 at q; omega))).trans (hF4.mono (fun κ b q => by unfold STs S84 S50 at q; omega))
  · rw [hj4 j j1 j2 j3, hj3 j j0, hM2, uI_k (by decide)]
theorem r_lookW {M : Mw} {β : Bw} {L : Lw} {s : Vw × Hw} {k w cy m : Nat} {lk : Nat → Nat} {FO FM : UInt32 → Prop} {FS : Nat → UInt64 → Prop} (hg : GB β L) (h : RBd M β L) (hT : RTs M β s.1) (hG : RG M β s.2) (hk : k ≤ 200) (hcy : cy ≤ 40) (hI : IV β L FO FM FS m k cy s) (hw : w < β 0 0 4) (h86 : ∀ o, o < β 0 0 4 → M.1 86 0 0 o = nI (lk o)) (hlk : ∀ o, lk o ≤ 1) :
    ∃ M', it (fun _ _ => none) (B_X10_looks_108 (nI w) (nI k)) FU 0 M = some M' ∧ RTs M' β (lwS β k w lk s (β 0 0 4)).1 ∧ RG M' β (lwS β k w lk s (β 0 0 4)).2 ∧ OnY M M' ∧ M'.1 86 = M.1 86 := by
  have h3 := hg.1.2.2.2.1
  have key := it_for (z := fun _ _ => none) (B := B_X10_looks_108 (nI w) (nI k)) (n := β 0 0 4) (P := fun n M1 => RTs M1 β (lwS β k w lk s n).1 ∧ RG M1 β (lwS β k w lk s n).2 ∧ OnY M M1 ∧ M1.1 86 = M.1 86)
    (Q := fun o => ∃ M', o = some M' ∧ RTs M' β (lwS β k w lk s (β 0 0 4)).1 ∧ RG M' β (lwS β k w lk s (β 0 0 4)).2 ∧ OnY M M' ∧ M'.1 86 = M.1 86) (fun kk n M1 hn hP => by
    have hI1 := IV_lw hg hk (w := w) (lk := lk) hI n (by omega)
    have hla : lwS β k w lk s (n + 1) = lwT β k w lk n (lwS β k w lk s n) := rfl
    have hstop := fun h => lw_over (β := β) (k := k) (w := w) (lk := lk) (n := n) (s := s) h (β 0 0 4 - n)
    rw [show n + (β 0 0 4 - n) = β 0 0 4 by omega] at hstop
    rw [hla]
    generalize lwS β k w lk s n = s1 at hP hstop hI1 ⊢
    obtain ⟨hT1, hG1, hF1, e86⟩ := hP
    have h1 : RBd M1 β L := h.onY hF1
    obtain ⟨⟨D, hS1⟩, hJ1, ho1, hz1⟩ := hI1
    have e1 := h1.2.2.2.2.1 n hn
    have hb1 : β 1 0 n ≤ 3 := by
      obtain ⟨b0, hb⟩ := hg.2.2.2.2.2.1
      by_cases c : n = 0
      · rw [c, b0]; omega
      · have := (hb n (by omega) hn).2
        omega
    have hin : inb (nI n) 3 = true := inb_nI (by omega) (by omega)
    unfold B_X10_looks_108
    rw [h1.1.2.2.2.1, if_neg (nI_ge hn (by omega)), hG1.2.2.1]
    by_cases co : s1.2.2.2.2.2.2 = 0
    case neg =>
      rw [if_neg (fun q => co ((nI_i0 (by omega)).mp q))]
      right
      rw [hstop co]
      exact ⟨M1, rfl, hT1, hG1, hF1, e86⟩
    have e8 : 8 + nI n = nI (8 + n) := nI_add 8 n
    rw [if_pos (by rw [co]; rfl), e8, if_pos (inb_nI (by omega) (by omega)), clampI (by omega), e1]
    left
    by_cases c1 : β 1 0 n = w + 1
    case neg =>
      rw [if_neg (fun q => c1 ((nI_m1 (β 1 0 n) w (by omega) (by omega)).mp q.symm)), bd_eq, nI_1]
      have e : lwT β k w lk n s1 = s1 := if_neg (fun q => c1 q.2.1)
      rw [e]
      exact ⟨M1, rfl, hT1, hG1, hF1, e86⟩
    have e86n : M1.1 86 0 0 n = nI (lk n) := by rw [e86]; exact h86 n hn
    rw [if_pos ((nI_m1 (β 1 0 n) w (by omega) (by omega)).mpr c1).symm, if_pos hin, clampI (by omega), e86n]
    by_cases c2 : lk n = 0
    case neg =>
      have := hlk n
      rw [if_neg (nI_ne0 (by omega) (by omega)), bd_eq, nI_1]
      have e : lwT β k w lk n s1 = s1 := if_neg (fun q => c2 q.2.2)
      rw [e]
      exact ⟨M1, rfl, hT1, hG1, hF1, e86⟩
    have e : lwT β k w lk n s1 = fwS β k n s1 := if_pos ⟨co, c1, c2⟩
    have hl := hS1.len hg hcy
    obtain ⟨M2, q1, q2, q3, q4, q5⟩ := r_fw (k108 := kk) (l1 := nI w) (V := s1.1) (H := s1.2) hg h1 hT1 hG1 hk hn (hS1.2.2.2.2.2.2 co) (by omega) hS1.2.2.2.1
    have hs1 := hS1.2.2.2.2.1 n hn
    rw [if_pos (by rw [c2]; rfl), if_pos hin, hG1.2.2.2.1 n hn, e]
    refine ⟨M2, ?_, q2, q3, hF1.trans q4, by rw [q5, e86]⟩
    by_cases cs : s1.2.2.1 n = 0
    · rw [if_pos (by rw [cs]; rfl)]
      rw [show fwL s1.2 n = 2 from if_pos cs] at q1
      exact q1
    · rw [if_neg (nI_ne0 (by omega) (by omega))]
      rw [show fwL s1.2 n = 3 from if_neg cs] at q1
      exact q1)
    (fun kk M1 hP => by
      have h1 : RBd M1 β L := h.onY hP.2.2.1
      unfold B_X10_looks_108
      rw [h1.1.2.2.2.1, if_pos (Int32.le_refl _)]
      exact ⟨M1, rfl, hP⟩)
    FU 0 M (Nat.zero_le _) (by unfold FU; omega) ⟨hT, hG, OnY.rfl, rfl⟩
  rw [nI_0] at key
  exact key
theorem r_lookT {M : Mw} {β : Bw} {L : Lw} {s : Vw × Hw} {k w cy m : Nat} {FO FM : UInt32 → Prop} {FS : Nat → UInt64 → Prop} (hg : GB β L) (hF : FH FO FM FS) (hlow : nf (FP.fdiv (FP.i2f (nI (β 0 0 2))) 1092616192) = true) (h : RBd M β L) (hT : RTs M β s.1) (hG : RG M β s.2) (hk : k ≤ 200) (hcy : cy ≤ 40) (hm : m ≤ 1000) (hI : IV β L FO FM FS m k cy s) (hw : w < β 0 0 4) (hY : β 0 0 1 ≤ k + 1) :
    ∃ M', it (fun _ _ => none) (B_X10_looks_21 (nI w) (nI k) (nI (k + 1 - β 0 0 1))) FU 0 M = B_X10_looks_105 (nI w) (nI k) M' ∧ RTs M' β (ltS β k w s (β 0 0 5)).1 ∧ RG M' β (ltS β k w s (β 0 0 5)).2 ∧ OnY M M' ∧ M'.1 86 = M.1 86 := by
  have h3 := hg.1.2.2.2.1
  have h5 := hg.1.2.2.2.2
  have key := it_for (z := fun _ _ => none) (B := B_X10_looks_21 (nI w) (nI k) (nI (k + 1 - β 0 0 1))) (n := β 0 0 5) (P := fun n M1 => RTs M1 β (ltS β k w s n).1 ∧ RG M1 β (ltS β k w s n).2 ∧ OnY M M1 ∧ M1.1 86 = M.1 86)
    (Q := fun o => ∃ M', o = B_X10_looks_105 (nI w) (nI k) M' ∧ RTs M' β (ltS β k w s (β 0 0 5)).1 ∧ RG M' β (ltS β k w s (β 0 0 5)).2 ∧ OnY M M' ∧ M'.1 86 = M.1 86) (fun kk n M1 hn hP => by
    have hI1 := IV_lt hg hF hk (w := w) hI n (by omega)
    have hla : ltS β k w s (n + 1) = ltT β k w n (ltS β k w s n) := rfl
    have hstop := fun h => lt_over (β := β) (k := k) (w := w) (n := n) (s := s) h (β 0 0 5 - n)
    rw [show n + (β 0 0 5 - n) = β 0 0 5 by omega] at hstop
    rw [hla]
    generalize ltS β k w s n = s1 at hP hstop hI1 ⊢
    obtain ⟨hT1, hG1, hF1, e86⟩ := hP
    have h1 : RBd M1 β L := h.onY hF1
    obtain ⟨⟨D, hS1⟩, hJ1, ho1, hz1⟩ := hI1
    obtain ⟨a7, a0, a1, a2, a5, af⟩ := hS1.2.1 n hn
    obtain ⟨j12, j10, -⟩ := hJ1 n hn
    obtain ⟨g0, g4, g60, gA, gAB, gB, gL, gM, -⟩ := hg.2.2.2.1 n hn
    have hin : inb (nI n) 5 = true := inb_nI (by omega) (by omega)
    unfold B_X10_looks_21
    rw [h1.1.2.2.2.2, if_neg (nI_ge hn (by omega)), hG1.2.2.1]
    by_cases co : s1.2.2.2.2.2.2 = 0
    case neg =>
      rw [if_neg (fun q => co ((nI_i0 (by omega)).mp q))]
      right
      rw [hstop co]
      exact ⟨M1, rfl, hT1, hG1, hF1, e86⟩
    have eo0 : F_X10_toldOf (nI n) 0 M1 = some (nI (β 4 n 0)) := by
      have := r_told (M := M1) (t := n) (p := 0) (by omega) (by omega)
      rw [h1.2.1 n hn 0 (by omega) (by omega) (by omega)] at this
      exact this
    have eo4 : F_X10_toldOf (nI n) 4 M1 = some (nI (β 4 n 4)) := by
      have := r_told (M := M1) (t := n) (p := 4) (by omega) (by omega)
      rw [h1.2.1 n hn 4 (by omega) (by omega) (by omega)] at this
      exact this
    have eo5 : F_X10_toldOf (nI n) 5 M1 = some (nI (β 4 n 5)) := by
      have := r_told (M := M1) (t := n) (p := 5) (by omega) (by omega)
      rw [h1.2.1 n hn 5 (by omega) (by omega) (by omega)] at this
      exact this
    rw [if_pos (by rw [co]; rfl), eo0, Option.bind_some]
    left
    by_cases c0 : β 4 n 0 = w
    case neg =>
      rw [if_neg (fun q => c0 ((nI_eq (by omega) (by omega)).mp q)), bd_eq, nI_1]
      have e : ltT β k w n s1 = s1 := if_neg (fun q => by have := q.2; unfold misB at this; simp [c0] at this)
      rw [e]
      exact ⟨M1, rfl, hT1, hG1, hF1, e86⟩
    rw [if_pos (by rw [c0]), if_pos hin, clampI (by omega), (hT1 n hn).1]
    by_cases c1 : s1.1.1 n 0 ≤ k + 1 - β 0 0 1
    case neg =>
      rw [if_pos (nI_lt (by omega) (by omega)), bd_eq, nI_1]
      have e : ltT β k w n s1 = s1 := if_neg (fun q => by have := q.2; unfold misB at this; simp [c1] at this)
      rw [e]
      exact ⟨M1, rfl, hT1, hG1, hF1, e86⟩
    have e72 : M1.1 72 0 0 n = nI (s1.1.1 n 10) := (hT1 n hn).2.2.2.2.2.2.2.2.2.2.1
    rw [if_neg (nI_nlt c1 (by omega)), if_pos hin, eo4, Option.bind_some, eo5, Option.bind_some, e72, r_inI, Option.bind_some]
    by_cases c2 : β 4 n 4 ≤ s1.1.1 n 10 ∧ s1.1.1 n 10 ≤ β 4 n 5
    · rw [if_pos (show nI (β 4 n 4) ≤ nI (s1.1.1 n 10) ∧ nI (s1.1.1 n 10) ≤ nI (β 4 n 5) from ⟨nI_le c2.1 (by omega), nI_le c2.2 (by omega)⟩), if_neg (by decide), bd_eq, nI_1]
      have e : ltT β k w n s1 = s1 := if_neg (fun q => by
        have := q.2
        unfold misB at this
        rw [Bool.and_eq_true] at this
        have := of_decide_eq_true this.2
        omega)
      rw [e]
      exact ⟨M1, rfl, hT1, hG1, hF1, e86⟩
    have e : ltT β k w n s1 = failS β k 5 n s1 := if_pos ⟨co, by
      unfold misB
      have : s1.1.1 n 10 < β 4 n 4 ∨ β 4 n 5 < s1.1.1 n 10 := by omega
      simp [c0, c1, this]⟩
    have hl := hS1.len hg hcy
    have hb6 := hS1.2.2.2.2.2.2 co
    obtain ⟨M2, q1, q2, q3, q4, q5⟩ := r_fault (kind := 5) hg h1 hT1 hG1 hk hn (hS1.2.2.2.2.2.2 co) (by omega) hS1.2.2.2.1 (hF.1 _ af).1 hlow (by omega)
    have q1' : F_X10_faultOf (nI n) 5 (nI k) M1 = some M2 := q1
    rw [if_neg (show ¬ (nI (β 4 n 4) ≤ nI (s1.1.1 n 10) ∧ nI (s1.1.1 n 10) ≤ nI (β 4 n 5)) from fun q => c2 ⟨(nI_leI (by omega) (by omega)).mp q.1, (nI_leI (by omega) (by omega)).mp q.2⟩), if_pos rfl, q1', Option.bind_some, bd_eq, nI_1, e]
    refine ⟨M2, rfl, q2, q3, hF1.trans (OnG.y ⟨q4, q5⟩), ?_⟩
    rw [q4.k1 (fun b => by unfold STs S84 S50; omega), e86])
    (fun kk M1 hP => by
      have h1 : RBd M1 β L := h.onY hP.2.2.1
      unfold B_X10_looks_21
      rw [h1.1.2.2.2.2, if_pos (Int32.le_refl _)]
      exact ⟨M1, rfl, hP⟩)
    FU 0 M (Nat.zero_le _) (by unfold FU; omega) ⟨hT, hG, OnY.rfl, rfl⟩
  rw [nI_0] at key
  exact key
theorem nI_cyc2 {k Y : Nat} (h : Y ≤ k + 1) : nI k + 1 - nI Y = nI (k + 1 - Y) := by rw [nI_1, pk_sub h]
theorem r_looks {M : Mw} {β : Bw} {L : Lw} {s : Vw × Hw} {k w cy m : Nat} {lk : Nat → Nat} {FO FM : UInt32 → Prop} {FS : Nat → UInt64 → Prop} (hg : GB β L) (hF : FH FO FM FS) (hlow : nf (FP.fdiv (FP.i2f (nI (β 0 0 2))) 1092616192) = true) (h : RBd M β L) (hT : RTs M β s.1) (hG : RG M β s.2) (hk : k ≤ 200) (hcy : cy ≤ 40) (hm : m ≤ 1000) (hI : IV β L FO FM FS m k cy s) (hw : w < β 0 0 4) (hY : β 0 0 1 ≤ k + 1) (h86 : ∀ o, o < β 0 0 4 → M.1 86 0 0 o = nI (lk o)) (hlk : ∀ o, lk o ≤ 1) :
    ∃ M', F_X10_looks (nI w) (nI k) M = some M' ∧ RTs M' β (lwS β k w (lkU lk w) (ltS β k w s (β 0 0 5)) (β 0 0 4)).1 ∧ RG M' β (lwS β k w (lkU lk w) (ltS β k w s (β 0 0 5)) (β 0 0 4)).2 ∧ OnY M M' ∧ ∀ o, o < β 0 0 4 → M'.1 86 0 0 o = nI (lkU lk w o) := by
  have h3 := hg.1.2.2.2.1
  have hin : inb (nI w) 3 = true := inb_nI (by omega) (by omega)
  obtain ⟨M2, hM2⟩ : ∃ M2, M2 = uIw M 86 0 0 w 1 := ⟨_, rfl⟩
  have hF2 : Fr (fun κ _ => κ = 86) M M2 := by rw [hM2]; exact Fr.uI rfl
  have hY2 : OnY M M2 := ⟨hF2.mono (fun κ _ q => by omega), fun j _ _ _ _ => by rw [hM2, uI_k (by decide)]⟩
  have e86 : ∀ o, o < β 0 0 4 → M2.1 86 0 0 o = nI (lkU lk w o) := by
    intro o ho
    rw [hM2, uI1]
    unfold lkU
    by_cases z : o = w
    · rw [if_pos ⟨rfl, rfl, rfl, z⟩, if_pos z]
      rfl
    · rw [if_neg (fun q => z q.2.2.2), if_neg z]
      exact h86 o ho
  obtain ⟨M3, q1, q2, q3, q4, q5⟩ := r_lookT (w := w) hg hF hlow (h.onY hY2) (hT.fr hF2 (fun κ b _ _ => by omega)) (hG.frS hF2 (fun b => by omega) (fun b => by omega) (fun κ b _ _ _ _ => by omega)) hk hcy hm hI hw hY
  obtain ⟨M4, r1, r2, r3, r4, r5⟩ := r_lookW (w := w) (lk := lkU lk w) hg ((h.onY hY2).onY q4) q2 q3 hk hcy (IV_lt hg hF hk (w := w) hI _ (Nat.le_refl _)) hw (fun o ho => by rw [q5]; exact e86 o ho) (fun o => by
    unfold lkU
    by_cases z : o = w
    · rw [if_pos z]; exact Nat.le_refl 1
    · rw [if_neg z]; exact hlk o)
  unfold F_X10_looks
  rw [h.1.2.1, nI_cyc2 hY, bd_eq, if_pos hin, clampI (by omega), nar1, ← hM2, bd_eq, q1]
  unfold B_X10_looks_105
  exact ⟨M4, r1, r2, r3, (hY2.trans q4).trans r4, fun o ho => by rw [r5, q5]; exact e86 o ho⟩
