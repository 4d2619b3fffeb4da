/-! A WHOLE TICK, the reference -/
def cyB (β : Bw) (k : Nat) : Bool := decide (0 < β 0 0 1 ∧ k % β 0 0 1 = 0)
def rvV (β : Bw) (k : Nat) (V : Vw) : Vw := (fun t => fgF (cyB β k) (V.1 t), V.2)
def rvR (β : Bw) (k : Nat) (r : Rsw) : Vw := if r.1.2.2.2.2.2.1 ≠ 0 then r.1.1 else rvV β k r.1.1
def OnT (M M' : Mw) : Prop := Fr (fun κ _ => (64 ≤ κ ∧ κ ≤ 91) ∨ κ = 50) M M' ∧ (∀ j, j ≠ 56 → j ≠ 57 → j ≠ 58 → j ≠ 59 → M'.1 50 0 0 j = M.1 50 0 0 j)
theorem OnT.rfl {M : Mw} : OnT M M := ⟨Fr.rfl, fun _ _ _ _ _ => Eq.refl _⟩
theorem OnT.trans {M M1 M2 : Mw} (h : OnT M M1) (h2 : OnT M1 M2) : OnT M M2 := ⟨h.1.trans h2.1, fun j a c d e => (h2.2 j a c d e).trans (h.2 j a c d e)⟩
theorem OnX.t {M M' : Mw} (h : OnX M M') : OnT M M' := ⟨h.1.mono (fun κ _ q => by omega), h.2⟩
theorem OnY.t {M M' : Mw} (h : OnY M M') : OnT M M' := ⟨h.1.mono (fun κ _ q => by omega), h.2⟩
theorem RBd.onT {M M' : Mw} {β : Bw} {L : Lw} (h : RBd M β L) (ho : OnT M M') : RBd M' β L :=
  h.fr (ho.1.k1 (fun b => by omega)) (fun j a c => ho.2 j (by omega) (by omega) (by omega) (by omega))
def RRun (M : Mw) (β : Bw) (L : Lw) (k : Nat) (r : Rsw) : Prop :=
  RBd M β L ∧ RTs M β (rvR β k r) ∧ (∃ x, RG M β (r.1.2.1, r.1.2.2.1, r.1.2.2.2.1, r.1.2.2.2.2.1, r.1.2.2.2.2.2.1, x)) ∧ RK M β r.1.1 r.2.1 ∧ RA M β r.1.1 r.2.2.1 ∧ (∀ i, i < 200 → M.1 87 0 0 i = nI (r.2.2.2 i) + (-1)) ∧ (r.1.2.2.2.2.2.1 = 0 → ∀ o, o < 3 → M.1 86 0 0 o = 0)
theorem beV_rv {β : Bw} {k : Nat} {V : Vw} {n t : Nat} : VE (beV β false k (rvV β k V) n) (beV β (cyB β k) k V n) t ∨ n ≤ t := by
  by_cases h : t < n
  · left
    refine ⟨?_, rfl, rfl, rfl⟩
    show (if t < n then beG β (cyB β k) k V t else V.1 t) = (if t < n then beG β false k (rvV β k V) t else _)
    rw [if_pos h, if_pos h]
    have eb : beB β k (rvV β k V) t = beB β k V t := by
      unfold beB
      show (decide (fgF (cyB β k) (V.1 t) 2 = 0) && decide (fgF (cyB β k) (V.1 t) 0 ≤ k) && _) = _
      rw [fgF_o _ _ (by decide) (by decide), fgF_o _ _ (by decide) (by decide)]
    unfold beG
    rw [eb, fgF_f]
    rfl
  · exact Or.inr (by omega)
theorem r_newCycle {M : Mw} {β : Bw} {V : Vw} (hT5 : β 0 0 5 ≤ 5) (hT : RTs M β V) : ∃ M', F_X10_newCycle M = some M' ∧ RTs M' β (fun t => fgF true (V.1 t), V.2) ∧ (∀ o, o < 3 → M'.1 86 0 0 o = 0) ∧ Fr (fun κ _ => κ = 72 ∨ κ = 76 ∨ κ = 86) M M' := by
  have key2 : ∀ M1 : Mw, RTs M1 β (fun t => fgF true (V.1 t), V.2) → Fr (fun κ _ => κ = 72 ∨ κ = 76 ∨ κ = 86) M M1 → ∃ M', it (fun _ _ => none) (B_X10_newCycle_29) FU 0 M1 = some M' ∧ RTs M' β (fun t => fgF true (V.1 t), V.2) ∧ (∀ o, o < 3 → M'.1 86 0 0 o = 0) ∧ Fr (fun κ _ => κ = 72 ∨ κ = 76 ∨ κ = 86) M M' := by
    intro M1 hT1 hF1
    have key := it_for (z := fun _ _ => none) (B := B_X10_newCycle_29) (n := 3) (P := fun n M2 => RTs M2 β (fun t => fgF true (V.1 t), V.2) ∧ (∀ o, o < n → M2.1 86 0 0 o = 0) ∧ Fr (fun κ _ => κ = 72 ∨ κ = 76 ∨ κ = 86) M M2)
      (Q := fun o => ∃ M', o = some M' ∧ RTs M' β (fun t => fgF true (V.1 t), V.2) ∧ (∀ o, o < 3 → M'.1 86 0 0 o = 0) ∧ Fr (fun κ _ => κ = 72 ∨ κ = 76 ∨ κ = 86) M M')
      (fun kk n M2 hn hP => by
        obtain ⟨p1, p2, p3⟩ := hP
        left
        unfold B_X10_newCycle_29
        rw [if_neg (show ¬ (3 : Int32) ≤ nI n from nI_ge (b := 3) hn (by omega)), if_pos (inb_nI hn (by omega)), clampI (by omega), nar0, bd_eq, bd_eq, nI_1]
        have hF : Fr (fun κ _ => κ = 86) M2 (uIw M2 86 0 0 n 0) := Fr.uI rfl
        refine ⟨_, rfl, p1.fr hF (fun κ b _ _ => by omega), fun o ho => ?_, p3.trans (hF.mono (fun κ _ q => by omega))⟩
        rw [uI1]
        by_cases z : o = n
        · rw [if_pos ⟨rfl, rfl, rfl, z⟩]
        · rw [if_neg (fun q => z q.2.2.2)]
          exact p2 o (by omega))
      (fun kk M2 hP => by
        unfold B_X10_newCycle_29
        rw [if_pos (show (3 : Int32) ≤ nI 3 by decide)]
        exact ⟨M2, rfl, hP⟩)
      FU 0 M1 (by omega) (by unfold FU; omega) ⟨hT1, fun o ho => by omega, hF1⟩
    rw [nI_0] at key
    exact key
  have key := it_for (z := fun _ _ => none) (B := B_X10_newCycle_2) (n := 5) (P := fun n M1 => (∀ t, t < β 0 0 5 → RT M1 (if t < n then (fun t => fgF true (V.1 t), V.2) else V) t) ∧ Fr (fun κ _ => κ = 72 ∨ κ = 76 ∨ κ = 86) M M1)
    (Q := fun o => ∃ M', o = some M' ∧ RTs M' β (fun t => fgF true (V.1 t), V.2) ∧ (∀ o, o < 3 → M'.1 86 0 0 o = 0) ∧ Fr (fun κ _ => κ = 72 ∨ κ = 76 ∨ κ = 86) M M')
    (fun kk n M1 hn hP => by
      obtain ⟨p1, p2⟩ := hP
      left
      have hin : inb (nI n) 5 = true := inb_nI hn (by omega)
      unfold B_X10_newCycle_2
      rw [if_neg (show ¬ (5 : Int32) ≤ nI n from nI_ge (b := 5) hn (by omega)), if_pos hin, clampI (by omega), bd_eq, if_pos hin, nar0, bd_eq, bd_eq, nI_1]
      have hO : OnR n M1 (uIw (uIw M1 72 0 0 n 0) 76 0 0 n 0) := (OnR.uI (by decide) (by decide)).trans (OnR.uI (by decide) (by decide))
      refine ⟨_, rfl, fun t ht => ?_, p2.trans ((Fr.uI (Or.inl rfl)).trans (Fr.uI (Or.inr (Or.inl rfl))))⟩
      by_cases z : t = n
      · subst z
        have h := p1 t ht
        rw [if_neg (Nat.lt_irrefl t)] at h
        rw [if_pos (Nat.lt_succ_self t)]
        obtain ⟨h0, h1, h2, h3, h70, h71, h6, h7, h8, h9, h10, h12, h13, h14, h11, h15, h16⟩ := h
        have g : ∀ κ, κ ≠ 72 → κ ≠ 76 → (uIw (uIw M1 72 0 0 t 0) 76 0 0 t 0).1 κ = M1.1 κ := fun κ a b => by rw [uI_k b, uI_k a]
        unfold RT
        show _ = nI (fgF true (V.1 t) 0) ∧ _ = nI (fgF true (V.1 t) 1) ∧ _ = (if fgF true (V.1 t) 2 = 0 then -1 else nI (fgF true (V.1 t) 1 - 1)) ∧ (0 < fgF true (V.1 t) 2 → _ = nI (fgF true (V.1 t) 2 - 1) ∧ _ = nI (fgF true (V.1 t) 3)) ∧ _ = (if fgF true (V.1 t) 5 = 0 then nI (fgF true (V.1 t) 0) + (-1) else nI (fgF true (V.1 t) 5) + (-1)) ∧ _ = (if fgF true (V.1 t) 5 = 0 then 0 else 1) ∧ _ = nI (fgF true (V.1 t) 6) ∧ _ = nI (fgF true (V.1 t) 7) ∧ _ = nI (fgF true (V.1 t) 8) ∧ _ = nI 0 ∧ _ = nI 0 ∧ _ = nI (fgF true (V.1 t) 12) ∧ _ = nI (fgF true (V.1 t) 13) + (-1) ∧ _ = nI (fgF true (V.1 t) 14) ∧ _ ∧ (0 < fgF true (V.1 t) 14 → _) ∧ _
        rw [fgF_o _ _ (show 0 ≠ 9 by decide) (by decide), fgF_o _ _ (show 1 ≠ 9 by decide) (by decide), fgF_o _ _ (show 2 ≠ 9 by decide) (by decide), fgF_o _ _ (show 3 ≠ 9 by decide) (by decide), fgF_o _ _ (show 5 ≠ 9 by decide) (by decide), fgF_o _ _ (show 6 ≠ 9 by decide) (by decide), fgF_o _ _ (show 7 ≠ 9 by decide) (by decide), fgF_o _ _ (show 8 ≠ 9 by decide) (by decide), fgF_o _ _ (show 12 ≠ 9 by decide) (by decide), fgF_o _ _ (show 13 ≠ 9 by decide) (by decide), fgF_o _ _ (show 14 ≠ 9 by decide) (by decide), g 64 (by decide) (by decide), g 66 (by decide) (by decide), g 65 (by decide) (by decide), g 67 (by decide) (by decide), g 68 (by decide) (by decide), g 70 (by decide) (by decide), g 71 (by decide) (by decide), g 69 (by decide) (by decide), g 73 (by decide) (by decide), g 75 (by decide) (by decide), g 77 (by decide) (by decide), g 78 (by decide) (by decide), g 81 (by decide) (by decide), uI2, uI2]
        refine ⟨h0, h1, h2, h3, h70, h71, h6, h7, h8, ?_, ?_, h12, h13, h14, h11, h15, h16⟩
        · rw [uI1, if_pos ⟨rfl, rfl, rfl, rfl⟩]
          rfl
        · rw [uI_k (by decide), uI1, if_pos ⟨rfl, rfl, rfl, rfl⟩]
          rfl
      · have e : (if t < n + 1 then ((fun t => fgF true (V.1 t), V.2) : Vw) else V) = if t < n then (fun t => fgF true (V.1 t), V.2) else V := by
          by_cases w : t < n
          · rw [if_pos w, if_pos (by omega)]
          · rw [if_neg w, if_neg (by omega)]
        rw [e]
        exact (p1 t ht).on hO z VE.rfl)
    (fun kk M1 hP => by
      obtain ⟨p1, p2⟩ := hP
      unfold B_X10_newCycle_2
      rw [if_pos (show (5 : Int32) ≤ nI 5 by decide)]
      exact key2 M1 (fun t ht => by
        have := p1 t ht
        rw [if_pos (by omega)] at this
        exact this) p2)
    FU 0 M (by omega) (by unfold FU; omega) ⟨fun t ht => by rw [if_neg (by omega)]; exact hT t ht, Fr.rfl⟩
  rw [nI_0] at key
  exact key
theorem lo_id {β : Bw} {L : Lw} {k : Nat} {s : Vw × Hw} (h : s.2.2.2.2.2.2 ≠ 0) : ∀ n, loA β L k s n = (s, fun _ => 0) := by
  intro n
  have e0 : loA β L k s 0 = (s, fun _ => 0) := rfl
  have := lo_over (β := β) (L := L) (k := k) (n := 0) (s := s) (by rw [e0]; exact h) n
  rw [Nat.zero_add] at this
  rw [this, e0]
theorem cy_id {β : Bw} {L : Lw} {k : Nat} {s : Vw × Hw} (h : s.2.2.2.2.2.2 ≠ 0) : cyS β L k s = s := by
  unfold cyS
  rw [lo_id h]
  have e : dgS β k (fun _ => 0) s = s := if_neg (fun q => h q.1)
  show ecS β (dgS β k (fun _ => 0) s) = s
  rw [e]
  exact if_neg h
