/-! ASKED TOO LATE, the reference -/
theorem r_close {M : Mw} {β : Bw} {L : Lw} (hg : GB β L) (h : RBd M β L) {t : Nat} (ht : t < β 0 0 5) : F_X10_closeOf (nI t) M = some (nI (β 4 t 3)) := by
  have h5 := hg.1.2.2.2.2
  have e := (h.2.2.1 t ht).2
  unfold F_X10_closeOf
  by_cases c : nI t = M.1 50 0 0 24
  · rw [if_pos c] at e
    rw [if_pos c, e]
  · rw [if_neg c] at e
    rw [if_neg c, show (3 : Int32) = nI 3 from rfl, r_told (by omega) (by omega), Option.bind_some, e]
theorem r_gapI {k a : Nat} (h : a ≤ k + 1) : nI k - (nI a + (-1)) = nI (k + 1 - a) := by
  by_cases c : a = 0
  · rw [c, show nI 0 + (-1) = -1 by decide, Int32.sub_eq_add_neg, show -(-1 : Int32) = 1 by decide, nI_1]
    rfl
  · obtain ⟨m, hm⟩ := Nat.exists_eq_succ_of_ne_zero c
    rw [hm, pk_m1, pk_sub (by omega), show k + 1 - Nat.succ m = k - m by omega]
theorem r_gap {M : Mw} {V : Vw} {t k : Nat} (h : RT M V t) (h0 : V.1 t 0 ≤ k) (h5 : V.1 t 5 ≤ k + 1) : nI k - M.1 70 0 0 t = nI (gpN V t k) := by
  obtain ⟨-, -, -, -, e, -⟩ := h
  unfold gpN
  rw [e]
  by_cases c : V.1 t 5 = 0
  · rw [if_pos c, if_pos c, r_gapI (by omega)]
  · rw [if_neg c, if_neg c, r_gapI h5]
def OnG (M M' : Mw) : Prop := Fr (fun κ b => STs κ b ∨ S84 κ b ∨ S50 κ b ∨ (88 ≤ κ ∧ κ ≤ 91)) M M' ∧ (∀ j, j ≠ 56 → j ≠ 57 → j ≠ 58 → j ≠ 59 → M'.1 50 0 0 j = M.1 50 0 0 j)
theorem OnG.rfl {M : Mw} : OnG M M := ⟨Fr.rfl, fun _ _ _ _ _ => Eq.refl _⟩
theorem OnG.trans {M M1 M2 : Mw} (h : OnG M M1) (h2 : OnG M1 M2) : OnG M M2 := ⟨h.1.trans h2.1, fun j a c d e => (h2.2 j a c d e).trans (h.2 j a c d e)⟩
theorem RBd.onG {M M' : Mw} {β : Bw} {L : Lw} (h : RBd M β L) (ho : OnG M M') : RBd M' β L :=
  h.fr (ho.1.k1 (fun b => by show ¬ ((64 ≤ 51 ∧ 51 ≤ 81) ∨ S84 51 b ∨ S50 51 b ∨ (88 ≤ 51 ∧ 51 ≤ 91)); unfold S84 S50; omega)) (fun j a c => ho.2 j (by omega) (by omega) (by omega) (by omega))
theorem r_late {M : Mw} {β : Bw} {L : Lw} {V : Vw} {H : Hw} {FO : UInt32 → Prop} {k cy : Nat} {D : Nat → Nat} (hg : GB β L) (h : RBd M β L) (hT : RTs M β V) (hG : RG M β H) (hk : k ≤ 200) (hcy : cy ≤ 40)
    (hFO : ∀ x, FO x → nf (FP.fdiv x FP.fconst2) = true ∧ FO (FP.fdiv x FP.fconst2)) (hlow : nf (FP.fdiv (FP.i2f (nI (β 0 0 2))) 1092616192) = true) (hI : SI β FO k cy D V H) (hov : H.2.2.2.2.2 ≤ 1) :
    ∃ M', F_X10_asksLate (nI k) M = some M' ∧ RTs M' β (laS β k (V, H) (β 0 0 5)).1 ∧ RG M' β (laS β k (V, H) (β 0 0 5)).2 ∧ OnG M M' := by
  have h5 := hg.1.2.2.2.2
  have key : ∃ M', it (fun _ _ => none) (B_X10_asksLate_2 (nI k)) FU (nI 0) M = some M' ∧ RTs M' β (laS β k (V, H) (β 0 0 5)).1 ∧ RG M' β (laS β k (V, H) (β 0 0 5)).2 ∧ OnG M M' := it_for (n := β 0 0 5) (P := fun n M1 => RTs M1 β (laS β k (V, H) n).1 ∧ RG M1 β (laS β k (V, H) n).2 ∧ SI β FO k cy D (laS β k (V, H) n).1 (laS β k (V, H) n).2 ∧ (laS β k (V, H) n).2.2.2.2.2.2 ≤ 1 ∧ OnG M M1)
    (Q := fun o => ∃ M', o = some M' ∧ RTs M' β (laS β k (V, H) (β 0 0 5)).1 ∧ RG M' β (laS β k (V, H) (β 0 0 5)).2 ∧ OnG M M') (fun kk n M1 hn hP => by
    have hla : laS β k (V, H) (n + 1) = laT β k n (laS β k (V, H) n) := rfl
    have hstop := fun h => la_over (β := β) (k := k) (n := n) (s := (V, H)) h (β 0 0 5 - n)
    rw [show n + (β 0 0 5 - n) = β 0 0 5 by omega] at hstop
    rw [hla]
    generalize laS β k (V, H) n = s at hP hstop ⊢
    obtain ⟨hT1, hG1, hI1, ho1, hF1⟩ := hP
    have h1 : RBd M1 β L := h.onG hF1
    have e8 := hG1.2.2.1
    have hc3 := (hg.2.2.2.1 n hn).2.2.2.2.2.1
    obtain ⟨a7, a0, a1, a2, a5, af⟩ := hI1.2.1 n hn
    have hin : inb (nI n) 5 = true := inb_nI (by omega) (by omega)
    unfold B_X10_asksLate_2
    rw [h1.1.2.2.2.2, if_neg (nI_ge hn (by omega)), e8]
    by_cases co : s.2.2.2.2.2.2 = 0
    case neg =>
      rw [if_neg (fun q => co ((nI_i0 (by omega)).mp q))]
      right
      rw [hstop co]
      exact ⟨M1, rfl, hT1, hG1, hF1⟩
    rw [if_pos (by rw [co]; rfl), if_pos hin, clampI (by omega), (hT1 n hn).1]
    left
    by_cases c0 : s.1.1 n 0 ≤ k
    case neg =>
      rw [if_pos (nI_lt (by omega) (by omega)), bd_eq, nI_1]
      have e : laT β k n s = s := if_neg (fun q => c0 q.2.1)
      rw [e]
      exact ⟨M1, rfl, hT1, hG1, hI1, ho1, hF1⟩
    have hgp : gpN s.1 n k ≤ 1000 := by
      unfold gpN
      by_cases c : s.1.1 n 5 = 0
      · rw [if_pos c]; omega
      · rw [if_neg c]; omega
    rw [if_neg (nI_nlt c0 (by omega)), if_pos hin, r_close hg h1 hn, Option.bind_some, r_gap (hT1 n hn) c0 a5]
    by_cases c1 : β 4 n 3 ≤ gpN s.1 n k
    case neg =>
      rw [if_pos (nI_lt (by omega) (by omega)), bd_eq, nI_1]
      have e : laT β k n s = s := if_neg (fun q => c1 q.2.2)
      rw [e]
      exact ⟨M1, rfl, hT1, hG1, hI1, ho1, hF1⟩
    have e : laT β k n s = failS β k 2 n s := if_pos ⟨co, c0, c1⟩
    have hl := hI1.len hg hcy
    have hb6 := hI1.2.2.2.2.2.2 co
    obtain ⟨M2, q1, q2, q3, q4, q5⟩ := r_fault (kind := 2) hg h1 hT1 hG1 hk hn hb6 (by omega) hI1.2.2.2.1 (hFO _ af).1 hlow (by omega)
    have q1' : F_X10_faultOf (nI n) 2 (nI k) M1 = some M2 := q1
    rw [if_neg (nI_nlt c1 (by omega)), q1', Option.bind_some, bd_eq, nI_1, e]
    exact ⟨M2, rfl, q2, q3, SI_fail (V := s.1) (H := s.2) hg (fun x hx => (hFO x hx).2) hI1 hn hk co, fail_over ho1, hF1.trans ⟨q4, q5⟩⟩)
    (fun kk M1 hP => by
      have h1 : RBd M1 β L := h.onG hP.2.2.2.2
      unfold B_X10_asksLate_2
      rw [h1.1.2.2.2.2, if_pos (Int32.le_refl _)]
      exact ⟨M1, rfl, hP.1, hP.2.1, hP.2.2.2.2⟩)
    FU 0 M (Nat.zero_le _) (by unfold FU; omega) ⟨hT, hG, hI, hov, OnG.rfl⟩
  exact key
