/-! ASKED TOO LATE -/
def gpN (V : Vw) (t k : Nat) : Nat := if V.1 t 5 = 0 then k + 1 - V.1 t 0 else k + 1 - V.1 t 5
def laT (β : Bw) (k n : Nat) (s : Vw × Hw) : Vw × Hw := if s.2.2.2.2.2.2 = 0 ∧ s.1.1 n 0 ≤ k ∧ β 4 n 3 ≤ gpN s.1 n k then failS β k 2 n s else s
def laS (β : Bw) (k : Nat) (s : Vw × Hw) : Nat → Vw × Hw
  | 0 => s
  | n + 1 => laT β k n (laS β k s n)
theorem la_over {β : Bw} {k n : Nat} {s : Vw × Hw} (h : (laS β k s n).2.2.2.2.2.2 ≠ 0) : ∀ d, laS β k s (n + d) = laS β k s n := by
  intro d
  induction d with
  | zero => rfl
  | succ d ih =>
    show laT β k (n + d) (laS β k s (n + d)) = _
    rw [ih]
    exact if_neg (fun q => h q.1)
theorem c_gap {b : Nat} {M : Mw} {β : Bw} {L : Lw} {V : Vw} {t k : Nat} (h : CT b M β L V t) (h0 : V.1 t 0 ≤ k) (h5 : V.1 t 5 ≤ k + 1) (hk : k ≤ 200) : F_X7_gapAt b t (nI k) M = some (nI (gpN V t k)) := by
  obtain ⟨e0, -, -, -, e5, -⟩ := h
  unfold F_X7_gapAt gpN
  rw [e5, e0]
  by_cases c : V.1 t 5 = 0
  · rw [if_pos c, c, if_pos (show nI 0 + (-1) = -1 by decide), pk_sub h0, nI_1, show k - V.1 t 0 + 1 = k + 1 - V.1 t 0 by omega]
  · rw [if_neg c, if_neg (nI_m1n c (by omega))]
    obtain ⟨m, hm⟩ := Nat.exists_eq_succ_of_ne_zero c
    rw [hm, pk_m1, pk_sub (by omega), show k - m = k + 1 - Nat.succ m by omega]
theorem nI_i0 {n : Nat} (h : n < 2 ^ 31) : nI n = 0 ↔ n = 0 := by
  constructor
  · intro q
    by_cases c : n = 0
    · exact c
    · exact absurd q (nI_ne0 (by omega) h)
  · intro q
    rw [q]
    rfl
theorem fail_over {β : Bw} {k kind t : Nat} {s : Vw × Hw} (h : s.2.2.2.2.2.2 ≤ 1) : (failS β k kind t s).2.2.2.2.2.2 ≤ 1 := by
  show (if flL β s.1 t = 3 then (s.2.2.2.2.1 + 1, if s.2.2.2.2.1 + 1 = 3 then k + 1 else s.2.2.2.2.2.1, 1) else s.2.2.2.2).2.2 ≤ 1
  by_cases c : flL β s.1 t = 3
  · rw [if_pos c]; exact Nat.le_refl 1
  · rw [if_neg c]; exact h
/-- what a run's fault may change, besides its own cells -/
def OnF (b : Nat) (M M' : Mw) : Prop := Fr (SRun b) M M' ∧ (∀ κ, κ ≠ 25 → κ ≠ 33 → κ ≠ 23 → κ ≠ 26 → κ ≠ 28 → M'.1 κ b = M.1 κ b) ∧ (∀ j, j ≠ 5 → j ≠ 7 → j ≠ 8 → M'.1 23 b 0 j = M.1 23 b 0 j)
theorem OnF.rfl {b : Nat} {M : Mw} : OnF b M M := ⟨Fr.rfl, fun _ _ _ _ _ _ => Eq.refl _, fun _ _ _ _ => Eq.refl _⟩
theorem OnF.trans {b : Nat} {M M1 M2 : Mw} (h : OnF b M M1) (h2 : OnF b M1 M2) : OnF b M M2 := ⟨h.1.trans h2.1, fun κ a c d e f => (h2.2.1 κ a c d e f).trans (h.2.1 κ a c d e f), fun j a c d => (h2.2.2 j a c d).trans (h.2.2 j a c d)⟩
theorem c_late {b : Nat} {M : Mw} {β : Bw} {L : Lw} {V : Vw} {H : Hw} {FO : UInt32 → Prop} {k cy : Nat} {D : Nat → Nat} (hg : GB β L) (hB : CBd (b + 5) M β L) (hT : CTs b M β L V) (hG : CG b M β k H) (hk : k ≤ 200) (hcy : cy ≤ 40)
    (hFO : ∀ x, FO x → nf (FP.fdiv x FP.fconst2) = true ∧ FO (FP.fdiv x FP.fconst2)) (hlow : nf (FP.fdiv (FP.i2f (nI (β 0 0 2))) 1092616192) = true) (hI : SI β FO k cy D V H) (hov : H.2.2.2.2.2 ≤ 1) :
    ∃ M', F_X5_askLate b M = some M' ∧ CTs b M' β L (laS β k (V, H) (β 0 0 5)).1 ∧ CG b M' β k (laS β k (V, H) (β 0 0 5)).2 ∧ SI β FO k cy D (laS β k (V, H) (β 0 0 5)).1 (laS β k (V, H) (β 0 0 5)).2 ∧ (laS β k (V, H) (β 0 0 5)).2.2.2.2.2.2 ≤ 1 ∧ OnF b M M' := by
  have h5 := hg.1.2.2.2.2
  have key : ∃ M', it (fun _ _ => none) (B_X5_askLate_2 b) FU (nI 0) M = some M' ∧ CTs b M' β L (laS β k (V, H) (β 0 0 5)).1 ∧ CG b M' β k (laS β k (V, H) (β 0 0 5)).2 ∧ SI β FO k cy D (laS β k (V, H) (β 0 0 5)).1 (laS β k (V, H) (β 0 0 5)).2 ∧ (laS β k (V, H) (β 0 0 5)).2.2.2.2.2.2 ≤ 1 ∧ OnF b M M' := it_for (n := β 0 0 5) (P := fun n M1 => CTs b M1 β L (laS β k (V, H) n).1 ∧ CG b M1 β k (laS β k (V, H) n).2 ∧ SI β FO k cy D (laS β k (V, H) n).1 (laS β k (V, H) n).2 ∧ (laS β k (V, H) n).2.2.2.2.2.2 ≤ 1 ∧ OnF b M M1)
    (Q := fun o => ∃ M', o = some M' ∧ CTs b M' β L (laS β k (V, H) (β 0 0 5)).1 ∧ CG b M' β k (laS β k (V, H) (β 0 0 5)).2 ∧ SI β FO k cy D (laS β k (V, H) (β 0 0 5)).1 (laS β k (V, H) (β 0 0 5)).2 ∧ (laS β k (V, H) (β 0 0 5)).2.2.2.2.2.2 ≤ 1 ∧ OnF b M M') (fun kk n M1 hn hP => by
    have hla : laS β k (V, H) (n + 1) = laT β k n (laS β k (V, H) n) := rfl
    have hstop := fun h => la_over (β := β) (k := k) (n := n) (s := (V, H)) h (β 0 0 5 - n)
    rw [show n + (β 0 0 5 - n) = β 0 0 5 by omega] at hstop
    rw [hla]
    generalize laS β k (V, H) n = s at hP hstop ⊢
    obtain ⟨hT1, hG1, hI1, ho1, hF1⟩ := hP
    have hB1 : CBd (b + 5) M1 β L := hB.run hF1.1
    have e05 := hB1.1 5 (by omega)
    have e6 := hG1.1
    have e8 := hG1.2.2.2.1
    have ec : M1.1 4 (b + 5) n 3 = nI (β 4 n 3) := hB1.2.2.1 n hn 3 (by omega)
    have hc3 := (hg.2.2.2.1 n hn).2.2.2.2.2.1
    obtain ⟨a7, a0, a1, a2, a5, af⟩ := hI1.2.1 n hn
    have hin : inb (nI n) 5 = true := inb_nI (by omega) (by omega)
    unfold B_X5_askLate_2
    rw [e05, if_neg (nI_ge hn (by omega)), e8]
    by_cases co : s.2.2.2.2.2.2 = 0
    case neg =>
      rw [if_neg (fun q => co ((nI_i0 (by omega)).mp q))]
      right
      rw [hstop co]
      exact ⟨M1, rfl, hT1, hG1, hI1, ho1, hF1⟩
    rw [if_pos (by rw [co]; rfl), if_pos hin, clampI (by omega), e6, (hT1 n hn).1]
    left
    by_cases c0 : s.1.1 n 0 ≤ k
    case neg =>
      rw [if_pos (nI_lt (by omega) (by omega)), bd_eq, nI_1]
      have e : laT β k n s = s := if_neg (fun q => c0 q.2.1)
      rw [e]
      exact ⟨M1, rfl, hT1, hG1, hI1, ho1, hF1⟩
    have hgp : gpN s.1 n k ≤ 1000 := by
      unfold gpN
      by_cases c : s.1.1 n 5 = 0
      · rw [if_pos c]; omega
      · rw [if_neg c]; omega
    rw [if_neg (nI_nlt c0 (by omega)), c_gap (hT1 n hn) c0 a5 hk, Option.bind_some, if_pos hin, ec]
    by_cases c1 : β 4 n 3 ≤ gpN s.1 n k
    case neg =>
      rw [if_pos (nI_lt (by omega) (by omega)), bd_eq, nI_1]
      have e : laT β k n s = s := if_neg (fun q => c1 q.2.2)
      rw [e]
      exact ⟨M1, rfl, hT1, hG1, hI1, ho1, hF1⟩
    have e : laT β k n s = failS β k 2 n s := if_pos ⟨co, c0, c1⟩
    have hl := hI1.len hg hcy
    have hb6 := hI1.2.2.2.2.2.2 co
    obtain ⟨M2, q1, q2, q3, q4, q5, q6⟩ := c_fail (kind := 2) hg hB1 hT1 hG1 hk hn hb6 (by omega) (hFO _ af).1 hlow (by omega)
    have q1' : F_X5_failTask b (nI n) 2 M1 = some M2 := q1
    rw [if_neg (nI_nlt c1 (by omega)), q1', Option.bind_some, bd_eq, nI_1, e]
    refine ⟨M2, rfl, q2, q3, ?_, fail_over ho1, hF1.trans ⟨q4, q5, q6⟩⟩
    exact SI_fail (V := s.1) (H := s.2) hg (fun x hx => (hFO x hx).2) hI1 hn hk co)
    (fun kk M1 hP => by
      have hB1 : CBd (b + 5) M1 β L := hB.run hP.2.2.2.2.1
      unfold B_X5_askLate_2
      rw [hB1.1 5 (by omega), if_pos (Int32.le_refl _)]
      exact ⟨M1, rfl, hP⟩)
    FU 0 M (Nat.zero_le _) (by unfold FU; omega) ⟨hT, hG, hI, hov, OnF.rfl⟩
  exact key
