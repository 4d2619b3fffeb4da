/-! CLIMBING in the reference: the loops -/
def clG (D : Nat → Bool) (β : Bw) (k : Nat) (V : Vw) (n : Nat) : Vw := (fun t => if t < n ∧ D t = true then rsF (V.1 t) (rst β t k) else V.1 t, V.2)
theorem clV_G (β : Bw) (lev task w k : Nat) (V : Vw) (n : Nat) : clV β lev task w k V n = clG (dR β lev task w) β k V n := rfl
def RTs (M : Mw) (β : Bw) (V : Vw) : Prop := ∀ t, t < β 0 0 5 → RT M V t
abbrev STs : Nat → Nat → Prop := fun κ _ => 64 ≤ κ ∧ κ ≤ 81
theorem OnR.fr {t : Nat} {M M' : Mw} (h : OnR t M M') : Fr STs M M' := by
  intro κ b hn
  refine ⟨funext fun i => funext fun j => (h κ b i j (fun q => hn ⟨q.1, q.2.1⟩)).1, funext fun i => funext fun j => (h κ b i j (fun q => hn ⟨q.1, q.2.1⟩)).2.1, funext fun i => funext fun j => (h κ b i j (fun q => hn ⟨q.1, q.2.1⟩)).2.2⟩
theorem Fr.k1 {S : Nat → Nat → Prop} {M M' : Mw} (h : Fr S M M') {κ : Nat} (hs : ∀ b, ¬ S κ b) : M'.1 κ = M.1 κ := funext fun b => (h κ b (hs b)).1
theorem RT.frS {S : Nat → Nat → Prop} {M M' : Mw} {V : Vw} {t : Nat} (h : RT M V t) (hf : Fr S M M') (hs : ∀ κ b, 64 ≤ κ → κ ≤ 81 → ¬ S κ b) : RT M' V t := by
  have q : ∀ κ, 64 ≤ κ → κ ≤ 81 → M'.1 κ 0 = M.1 κ 0 ∧ M'.2.1 κ 0 = M.2.1 κ 0 ∧ M'.2.2 κ 0 = M.2.2 κ 0 := fun κ h1 h2 => hf κ 0 (hs κ 0 h1 h2)
  unfold RT at h ⊢
  rw [(q 64 (by omega) (by omega)).1, (q 66 (by omega) (by omega)).1, (q 65 (by omega) (by omega)).1, (q 67 (by omega) (by omega)).1, (q 68 (by omega) (by omega)).1, (q 70 (by omega) (by omega)).1, (q 71 (by omega) (by omega)).1, (q 69 (by omega) (by omega)).1, (q 73 (by omega) (by omega)).1, (q 75 (by omega) (by omega)).1, (q 76 (by omega) (by omega)).1, (q 72 (by omega) (by omega)).1, (q 77 (by omega) (by omega)).1, (q 78 (by omega) (by omega)).1, (q 81 (by omega) (by omega)).1, (q 74 (by omega) (by omega)).2.1, (q 79 (by omega) (by omega)).2.1, (q 80 (by omega) (by omega)).2.2]
  exact h
theorem RBd.frS {S : Nat → Nat → Prop} {M M' : Mw} {β : Bw} {L : Lw} (h : RBd M β L) (hf : Fr S M M') (h1 : ∀ b, ¬ S 51 b) (h2 : ∀ b, ¬ S 50 b) : RBd M' β L :=
  h.fr (hf.k1 h1) (fun j _ _ => by rw [hf.k1 h2])
theorem r_go {M M1 : Mw} {β : Bw} {L : Lw} {V : Vw} {D : Nat → Bool} {n k : Nat} (hg : GB β L) (h : RBd M β L) (hn : n < β 0 0 5) (hk : k ≤ 200) (hF : Fr STs M M1) (hT : RTs M1 β (clG D β k V n)) (hD : D n = true) : ∃ M', F_X10_restarts (nI n) (nI k) M1 = some M' ∧ RTs M' β (clG D β k V (n + 1)) ∧ Fr STs M M' := by
  have h1 := h.frS hF (fun b => by omega) (fun b => by omega)
  obtain ⟨M', e, hr, ho⟩ := r_restart hg h1 hn (hT n hn) hk
  refine ⟨M', e, fun t ht => ?_, hF.trans ho.fr⟩
  by_cases c : t = n
  · subst c
    refine hr.ve ⟨?_, Eq.refl _, Eq.refl _, Eq.refl _⟩
    unfold rsV
    rw [vs_at]
    show (if _ then _ else _) = rsF (if _ then _ else _) _
    rw [if_pos ⟨Nat.lt_succ_self t, hD⟩, if_neg (fun q => Nat.lt_irrefl _ q.1)]
  · refine (hT t ht).on ho c ⟨?_, Eq.refl _, Eq.refl _, Eq.refl _⟩
    show (if _ then _ else _) = (if _ then _ else _)
    by_cases c2 : t < n ∧ D t = true
    · rw [if_pos c2, if_pos ⟨by omega, c2.2⟩]
    · rw [if_neg c2, if_neg (fun q => c2 ⟨by omega, q.2⟩)]
theorem r_skip {M1 : Mw} {β : Bw} {V : Vw} {D : Nat → Bool} {n k : Nat} (hT : RTs M1 β (clG D β k V n)) (hD : D n ≠ true) : RTs M1 β (clG D β k V (n + 1)) := by
  intro t ht
  refine (hT t ht).ve ⟨?_, Eq.refl _, Eq.refl _, Eq.refl _⟩
  show (if _ then _ else _) = (if _ then _ else _)
  by_cases c : t = n
  · subst c
    rw [if_neg (fun q => hD q.2), if_neg (fun q => hD q.2)]
  · by_cases c2 : t < n ∧ D t = true
    · rw [if_pos c2, if_pos ⟨by omega, c2.2⟩]
    · rw [if_neg c2, if_neg (fun q => c2 ⟨by omega, q.2⟩)]
theorem clG_0 {M : Mw} {β : Bw} {V : Vw} {D : Nat → Bool} {k : Nat} (hT : RTs M β V) : RTs M β (clG D β k V 0) := by
  intro t ht
  refine (hT t ht).ve ⟨?_, Eq.refl _, Eq.refl _, Eq.refl _⟩
  show (if t < 0 ∧ D t = true then rsF (V.1 t) (rst β t k) else V.1 t) = V.1 t
  exact if_neg (fun q => Nat.not_lt_zero _ q.1)
theorem clG_D {M : Mw} {β : Bw} {V : Vw} {D D' : Nat → Bool} {k : Nat} (hT : RTs M β (clG D β k V (β 0 0 5))) (h : ∀ t, t < β 0 0 5 → D t = D' t) : RTs M β (clG D' β k V (β 0 0 5)) := fun t ht => (hT t ht).ve ⟨by
    show (if _ then _ else _) = (if _ then _ else _)
    rw [h t ht], Eq.refl _, Eq.refl _, Eq.refl _⟩
/-- the reference's run, but its tasks; I: how many injections it goes through -/
def RG (M : Mw) (β : Bw) (H : Hw) : Prop :=
  M.1 50 0 0 57 = nI H.2.2.2.1 ∧ M.1 50 0 0 59 = nI H.2.2.2.2.1 + (-1) ∧ M.1 50 0 0 58 = nI H.2.2.2.2.2 ∧
  (∀ w, w < β 0 0 4 → M.1 85 0 0 w = nI (H.2.1 w)) ∧
  M.1 50 0 0 56 = nI H.2.2.1.length ∧ (∀ (i : Nat) (r : Nat × Nat × Nat × Nat), H.2.2.1[i]? = some r → M.1 88 0 0 i = nI r.1 ∧ M.1 89 0 0 i = nI r.2.1 ∧ M.1 90 0 0 i = nI r.2.2.1 ∧ M.1 91 0 0 i = nI r.2.2.2) ∧
  ∀ I : Nat, I ≤ 19 → M.1 51 0 0 5 + M.1 51 0 0 6 + M.1 50 0 0 27 = nI I → RWk M H.1 I
theorem RG.frS {S : Nat → Nat → Prop} {M M' : Mw} {β : Bw} {H : Hw} (h : RG M β H) (hf : Fr S M M') (h1 : ∀ b, ¬ S 51 b) (h2 : ∀ b, ¬ S 50 b) (h3 : ∀ κ b, 84 ≤ κ → κ ≤ 91 → κ ≠ 86 → κ ≠ 87 → ¬ S κ b) : RG M' β H := by
  have e51 := hf.k1 h1
  have e50 := hf.k1 h2
  have e := fun κ a b c d => hf.k1 (fun b' => h3 κ b' a b c d)
  have hw : ∀ (wok : Nat → Nat) (I : Nat), RWk M wok I → RWk M' wok I := by
    intro wok I hr i hi w x hw hx hrow
    rw [e 84 (by omega) (by omega) (by omega) (by omega)]
    refine hr i hi w x hw hx ?_
    unfold rowR at hrow ⊢
    rw [← e51]
    exact hrow
  unfold RG at h ⊢
  rw [e51, e50, e 85 (by omega) (by omega) (by omega) (by omega), e 88 (by omega) (by omega) (by omega) (by omega), e 89 (by omega) (by omega) (by omega) (by omega), e 90 (by omega) (by omega) (by omega) (by omega), e 91 (by omega) (by omega) (by omega) (by omega)]
  obtain ⟨a, b, c, d, e1, f, g⟩ := h
  exact ⟨a, b, c, d, e1, f, fun I hI hn => hw _ _ (g I hI hn)⟩
/-- all watchers of a set wake up -/
theorem r_wakeAll {M M1 : Mw} {β : Bw} {L : Lw} {wok : Nat → Nat} {I n k : Nat} {D : Nat → Bool} (hg : GB β L) (h : RBd M β L) (hI : I ≤ 19) (hnI : M.1 51 0 0 5 + M.1 51 0 0 6 + M.1 50 0 0 27 = nI I) (hrow : ∀ i, i < I → GRow β (rowR M i)) (hn : n < β 0 0 4) (hk : k ≤ 200) (hF : Fr (fun κ b => κ = 84 ∧ b = 0) M M1) (hR : RWk M1 (fun j => if j < n ∧ D j = true then k + 1 else wok j) I) (hm : ∀ j, wok j ≤ k + 1) (hD : D n = true) :
    ∃ M', F_X10_wakes (nI n) (nI k) M1 = some M' ∧ RWk M' (fun j => if j < n + 1 ∧ D j = true then k + 1 else wok j) I ∧ Fr (fun κ b => κ = 84 ∧ b = 0) M M' := by
  have e51 : M1.1 51 = M.1 51 := hF.k1 (fun b => by omega)
  have e50 : M1.1 50 = M.1 50 := hF.k1 (fun b => by omega)
  have h1 := h.frS hF (fun b => by omega) (fun b => by omega)
  obtain ⟨M', e, hr, hf⟩ := r_wakes hg h1 hI (by rw [e51, e50]; exact hnI) (fun i hi => by
    have := hrow i hi
    unfold rowR at this ⊢
    rw [e51]
    exact this) hn hk hR (by
    show (if _ then _ else _) ≤ _
    rw [if_neg (fun q => Nat.lt_irrefl _ q.1)]
    exact hm n)
  refine ⟨M', e, ?_, hF.trans hf⟩
  have ef : (fun j => if j = n then k + 1 else (fun j => if j < n ∧ D j = true then k + 1 else wok j) j) = (fun j => if j < n + 1 ∧ D j = true then k + 1 else wok j) := by
    funext j
    by_cases c : j = n
    · subst c
      rw [if_pos rfl, if_pos ⟨by omega, hD⟩]
    · rw [if_neg c]
      show (if j < n ∧ D j = true then k + 1 else wok j) = _
      by_cases c2 : j < n ∧ D j = true
      · rw [if_pos c2, if_pos ⟨by omega, c2.2⟩]
      · rw [if_neg c2, if_neg (fun q => c2 ⟨by omega, q.2⟩)]
  rw [← ef]
  exact hr
