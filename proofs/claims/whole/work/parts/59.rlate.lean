/-! ASKED TOO LATE, the reference -/
theorem r_close {M : Mw} {β : Bw} {L : Lw} (hg : GB β L) (h : RBd M β L) {t : Nat} (ht : t < β 0 0 5) : F_X10_closeOf (nI t) M = some (nI (β 4 t 3)) := by
  have h5 := hg.1.2.2.2.2
  have e := (h.2.2.1 t ht).2
  unfold F_X10_closeOf
  by_cases c : nI t = M.1 50 0 0 24
  · rw [if_pos c] at e
    rw [if_pos c, e]
  · rw [if_neg c] at e
    rw [if_neg c, show (3 : Int32) = nI 3 from rfl, r_told (by omega) (by omega), Option.bind_some, e]
theorem r_gapI {k a : Nat} (h : a ≤ k + 1) : nI k - (nI a + (-1)) = nI (k + 1 - a) := by
  by_cases c : a = 0
  · rw [c, show nI 0 + (-1) = -1 by decide, Int32.sub_eq_add_neg, show -(-1 : Int32) = 1 by decide, nI_1]
    rfl
  · obtain ⟨m, hm⟩ := Nat.exists_eq_succ_of_ne_zero c
    rw [hm, pk_m1, pk_sub (by omega), show k + 1 - Nat.succ m = k - m by omega]
theorem r_gap {M : Mw} {V : Vw} {t k : Nat} (h : RT M V t) (h0 : V.1 t 0 ≤ k) (h5 : V.1 t 5 ≤ k + 1) : nI k - M.1 70 0 0 t = nI (gpN V t k) := by
  obtain ⟨-, -, -, -, e, -⟩ := h
  unfold gpN
  rw [e]
  by_cases c : V.1 t 5 = 0
  · rw [if_pos c, if_pos c, r_gapI (by omega)]
  · rw [if_neg c, if_neg c, r_gapI h5]
def OnG (M M' : Mw) : Prop := Fr (fun κ b => STs κ b ∨ S84 κ b ∨ S50 κ b ∨ (88 ≤ κ ∧ κ ≤ 91)) M M' ∧ (∀ j, j ≠ 56 → j ≠ 57 → j ≠ 58 → j ≠ 59 → M'.1 50 0 0 j = M.1 50 0 0 j)
theorem OnG.rfl {M : Mw} : OnG M M := ⟨Fr.rfl, fun _ _ _ _ _ => Eq.refl _⟩
theorem OnG.trans {M M1 M2 : Mw} (h : OnG M M1) (h2 : OnG M1 M2) : OnG M M2 := ⟨h.1.trans h2.1, fun j a c d e => (h2.2 j a c d e).trans (h.2 j a c d e)⟩
theorem RBd.onG {M M' : Mw} {β : Bw} {L : Lw} (h : RBd M β L) (ho : OnG M M') : RBd M' β L :=
  h.fr (ho.1.k1 (fun b => by show ¬ ((64 ≤ 51 ∧ 51 ≤ 81) ∨ S84 51 b ∨ S50 51 b ∨ (88 ≤ 51 ∧ 51 ≤ 91)); unfold S84 S50; omega)) (fun j a c => ho.2 j (by omega) (by omega) (by omega) (by omega))
