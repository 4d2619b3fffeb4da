/-! THE PURE PART: reading behind writing, loops, small numbers -/
theorem rI1 (M : Mw) (κ b i : Nat) (r : Nat → Int32) (κ' b' i' : Nat) : (rIw M κ b i r).1 κ' b' i' = if κ' = κ ∧ b' = b ∧ i' = i then r else M.1 κ' b' i' := rfl
theorem rI2 (M : Mw) (κ b i : Nat) (r : Nat → Int32) : (rIw M κ b i r).2 = M.2 := rfl
theorem uI1 (M : Mw) (κ b i j : Nat) (v : Int32) (κ' b' i' j' : Nat) : (uIw M κ b i j v).1 κ' b' i' j' = if κ' = κ ∧ b' = b ∧ i' = i ∧ j' = j then v else M.1 κ' b' i' j' := by
  unfold uIw
  rw [rI1]
  by_cases h : κ' = κ ∧ b' = b ∧ i' = i
  · rw [if_pos h]
    obtain ⟨rfl, rfl, rfl⟩ := h
    by_cases h2 : j' = j
    · subst h2
      simp [upd]
    · simp [upd, h2]
  · rw [if_neg h, if_neg (fun q => h ⟨q.1, q.2.1, q.2.2.1⟩)]
theorem uI2 (M : Mw) (κ b i j : Nat) (v : Int32) : (uIw M κ b i j v).2 = M.2 := rfl
theorem uF1 (M : Mw) (κ b i j : Nat) (v : UInt32) : (uFw M κ b i j v).1 = M.1 := rfl
theorem uF2 (M : Mw) (κ b i j : Nat) (v : UInt32) (κ' b' i' j' : Nat) : (uFw M κ b i j v).2.1 κ' b' i' j' = if κ' = κ ∧ b' = b ∧ i' = i ∧ j' = j then v else M.2.1 κ' b' i' j' := by
  show (if κ' = κ ∧ b' = b ∧ i' = i then vf_upd (M.2.1 κ b i) j v else M.2.1 κ' b' i') j' = _
  by_cases h : κ' = κ ∧ b' = b ∧ i' = i
  · rw [if_pos h]
    obtain ⟨rfl, rfl, rfl⟩ := h
    by_cases h2 : j' = j
    · subst h2
      simp [vf_upd]
    · simp [vf_upd, h2]
  · rw [if_neg h, if_neg (fun q => h ⟨q.1, q.2.1, q.2.2.1⟩)]
theorem uF3 (M : Mw) (κ b i j : Nat) (v : UInt32) : (uFw M κ b i j v).2.2 = M.2.2 := rfl
theorem uD1 (M : Mw) (κ b i j : Nat) (v : UInt64) : (uDw M κ b i j v).1 = M.1 := rfl
theorem uD2 (M : Mw) (κ b i j : Nat) (v : UInt64) : (uDw M κ b i j v).2.1 = M.2.1 := rfl
theorem uD3 (M : Mw) (κ b i j : Nat) (v : UInt64) (κ' b' i' j' : Nat) : (uDw M κ b i j v).2.2 κ' b' i' j' = if κ' = κ ∧ b' = b ∧ i' = i ∧ j' = j then v else M.2.2 κ' b' i' j' := by
  show (if κ' = κ ∧ b' = b ∧ i' = i then vf_upd (M.2.2 κ b i) j v else M.2.2 κ' b' i') j' = _
  by_cases h : κ' = κ ∧ b' = b ∧ i' = i
  · rw [if_pos h]
    obtain ⟨rfl, rfl, rfl⟩ := h
    by_cases h2 : j' = j
    · subst h2
      simp [vf_upd]
    · simp [vf_upd, h2]
  · rw [if_neg h, if_neg (fun q => h ⟨q.1, q.2.1, q.2.2.1⟩)]
theorem bd_eq {α β : Type} (a : α) (f : α → β) : bd a f = f a := rfl
theorem inb_of {i : Int32} {n t : Nat} (h : i = nI t) (ht : t < n) (hn : n ≤ 4000) : inb i n = true := by
  unfold inb
  rw [h, nI_toInt (by omega)]
  simp
  omega
theorem inb_nI {n t : Nat} (ht : t < n) (hn : n ≤ 4000) : inb (nI t) n = true := inb_of rfl ht hn
theorem clampI {t : Nat} (h : t < 2 ^ 31) : (nI t).toNatClampNeg = t := nI_clamp h
theorem it_succ {γ : Type} (z : γ) (f : γ → γ) (n : Nat) : it z f (n + 1) = f (it z f n) := rfl
/-- a loop with a counter over a memory: an invariant, and what holds at its end -/
theorem it_for {β : Type} {z : Int32 → Mw → Option β} {B : (Int32 → Mw → Option β) → Int32 → Mw → Option β} {n : Nat} {P : Nat → Mw → Prop} {Q : Option β → Prop}
    (step : ∀ (k : Int32 → Mw → Option β) (t : Nat) (M : Mw), t < n → P t M → (∃ M', B k (nI t) M = k (nI (t + 1)) M' ∧ P (t + 1) M') ∨ Q (B k (nI t) M))
    (done : ∀ (k : Int32 → Mw → Option β) (M : Mw), P n M → Q (B k (nI n) M)) :
    ∀ (f t : Nat) (M : Mw), t ≤ n → n < t + f → P t M → Q (it z B f (nI t) M) := by
  intro f
  induction f with
  | zero => intro t M h1 h2; omega
  | succ f ih =>
    intro t M h1 h2 hP
    rw [it_succ]
    by_cases h : t < n
    · rcases step (it z B f) t M h hP with ⟨M', e, hP'⟩ | hq
      · rw [e]
        exact ih (t + 1) M' h (by omega) hP'
      · exact hq
    · obtain rfl : t = n := by omega
      exact done _ M hP
/-- a loop with a counter alone -/
theorem it_forN {β : Type} {z : Int32 → Option β} {B : (Int32 → Option β) → Int32 → Option β} {n : Nat} {P : Nat → Prop} {Q : Option β → Prop}
    (step : ∀ (k : Int32 → Option β) (t : Nat), t < n → P t → (B k (nI t) = k (nI (t + 1)) ∧ P (t + 1)) ∨ Q (B k (nI t)))
    (done : ∀ (k : Int32 → Option β), P n → Q (B k (nI n))) :
    ∀ (f t : Nat), t ≤ n → n < t + f → P t → Q (it z B f (nI t)) := by
  intro f
  induction f with
  | zero => intro t h1 h2; omega
  | succ f ih =>
    intro t h1 h2 hP
    rw [it_succ]
    by_cases h : t < n
    · rcases step (it z B f) t h hP with ⟨e, hP'⟩ | hq
      · rw [e]
        exact ih (t + 1) h (by omega) hP'
      · exact hq
    · obtain rfl : t = n := by omega
      exact done _ hP
/-- a loop that counts downwards -/
theorem it_down {β : Type} {z : Int32 → Mw → Option β} {B : (Int32 → Mw → Option β) → Int32 → Mw → Option β} {P : Nat → Mw → Prop} {Q : Option β → Prop}
    (step : ∀ (k : Int32 → Mw → Option β) (t : Nat) (M : Mw), P (t + 1) M → (∃ M', B k (nI t) M = k (nI t + (-1)) M' ∧ P t M') ∨ Q (B k (nI t) M))
    (done : ∀ (k : Int32 → Mw → Option β) (M : Mw), P 0 M → Q (B k (-1) M)) :
    ∀ (f t : Nat) (M : Mw), t < f → P t M → Q (it z B f (nI t + (-1)) M) := by
  intro f
  induction f with
  | zero => intro t M h1; omega
  | succ f ih =>
    intro t M h1 hP
    rw [it_succ]
    cases t with
    | zero =>
      have e : nI 0 + (-1) = -1 := by decide +kernel
      rw [e]
      exact done _ M hP
    | succ t =>
      rw [pk_m1]
      rcases step (it z B f) t M hP with ⟨M', e, hP'⟩ | hq
      · rw [e]
        exact ih t M' (by omega) hP'
      · exact hq
/-- what is the same in two memories outside of some kinds -/
def Fr (S : Nat → Nat → Prop) (M M' : Mw) : Prop := ∀ κ b : Nat, ¬ S κ b → M'.1 κ b = M.1 κ b ∧ M'.2.1 κ b = M.2.1 κ b ∧ M'.2.2 κ b = M.2.2 κ b
theorem Fr.rfl {S : Nat → Nat → Prop} {M : Mw} : Fr S M M := fun _ _ _ => ⟨Eq.refl _, Eq.refl _, Eq.refl _⟩
theorem Fr.trans {S : Nat → Nat → Prop} {M M1 M2 : Mw} (h : Fr S M M1) (h2 : Fr S M1 M2) : Fr S M M2 := fun κ b hs => ⟨(h2 κ b hs).1.trans (h κ b hs).1, (h2 κ b hs).2.1.trans (h κ b hs).2.1, (h2 κ b hs).2.2.trans (h κ b hs).2.2⟩
theorem Fr.mono {S S' : Nat → Nat → Prop} {M M1 : Mw} (h : Fr S M M1) (hs : ∀ κ b, S κ b → S' κ b) : Fr S' M M1 := fun κ b h2 => h κ b (fun q => h2 (hs κ b q))
theorem Fr.rI {S : Nat → Nat → Prop} {M : Mw} {κ b i : Nat} {r : Nat → Int32} (hs : S κ b) : Fr S M (rIw M κ b i r) := by
  intro κ' b' h
  refine ⟨?_, Eq.refl _, Eq.refl _⟩
  funext i'
  rw [rI1, if_neg]
  rintro ⟨rfl, rfl, _⟩
  exact h hs
theorem Fr.uI {S : Nat → Nat → Prop} {M : Mw} {κ b i j : Nat} {v : Int32} (hs : S κ b) : Fr S M (uIw M κ b i j v) := Fr.rI hs
theorem Fr.uF {S : Nat → Nat → Prop} {M : Mw} {κ b i j : Nat} {v : UInt32} (hs : S κ b) : Fr S M (uFw M κ b i j v) := by
  intro κ' b' h
  refine ⟨Eq.refl _, ?_, Eq.refl _⟩
  funext i' j'
  rw [uF2, if_neg]
  rintro ⟨rfl, rfl, _⟩
  exact h hs
theorem Fr.uD {S : Nat → Nat → Prop} {M : Mw} {κ b i j : Nat} {v : UInt64} (hs : S κ b) : Fr S M (uDw M κ b i j v) := by
  intro κ' b' h
  refine ⟨Eq.refl _, Eq.refl _, ?_⟩
  funext i' j'
  rw [uD3, if_neg]
  rintro ⟨rfl, rfl, _⟩
  exact h hs
theorem Fr.i {S : Nat → Nat → Prop} {M M' : Mw} (h : Fr S M M') {κ b : Nat} (hs : ¬ S κ b) (i j : Nat) : M'.1 κ b i j = M.1 κ b i j := by rw [(h κ b hs).1]
