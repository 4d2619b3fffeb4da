/-! CLIMBING, as the reference does it -/
theorem uI_k {M : Mw} {κ b i j κ' : Nat} {v : Int32} (h : κ' ≠ κ) : (uIw M κ b i j v).1 κ' = M.1 κ' := by
  funext b' i' j'
  rw [uI1, if_neg (fun q => h q.1)]
theorem uF_k {M : Mw} {κ b i j κ' : Nat} {v : UInt32} (h : κ' ≠ κ) : (uFw M κ b i j v).2.1 κ' = M.2.1 κ' := by
  funext b' i' j'
  rw [uF2, if_neg (fun q => h q.1)]
theorem RBd.fr {M M' : Mw} {β : Bw} {L : Lw} (h : RBd M β L) (h51 : M'.1 51 = M.1 51) (h50 : ∀ j, 23 ≤ j → j ≤ 27 → M'.1 50 0 0 j = M.1 50 0 0 j) : RBd M' β L := by
  have e : ∀ i, rowR M' i = rowR M i := fun i => by unfold rowR; rw [h51]
  have e2 : ∀ i I, LRf M' i I = LRf M i I := fun i I => by
    unfold LRf
    rw [h50 23 (by omega) (by omega)]
    exact List.map_congr_left (fun a _ => e a)
  unfold RBd at h ⊢
  rw [h51, h50 24 (by omega) (by omega), h50 25 (by omega) (by omega), h50 26 (by omega) (by omega), h50 27 (by omega) (by omega)]
  simp only [e, e2]
  exact h
/-- nothing but one task's slots -/
def OnR (t : Nat) (M M' : Mw) : Prop := ∀ κ b i j : Nat, ¬ (64 ≤ κ ∧ κ ≤ 81 ∧ j = t) → M'.1 κ b i j = M.1 κ b i j ∧ M'.2.1 κ b i j = M.2.1 κ b i j ∧ M'.2.2 κ b i j = M.2.2 κ b i j
theorem OnR.rfl {t : Nat} {M : Mw} : OnR t M M := fun _ _ _ _ _ => ⟨Eq.refl _, Eq.refl _, Eq.refl _⟩
theorem OnR.trans {t : Nat} {M M1 M2 : Mw} (h : OnR t M M1) (h2 : OnR t M1 M2) : OnR t M M2 := fun κ b i j hn => ⟨(h2 κ b i j hn).1.trans (h κ b i j hn).1, (h2 κ b i j hn).2.1.trans (h κ b i j hn).2.1, (h2 κ b i j hn).2.2.trans (h κ b i j hn).2.2⟩
theorem OnR.uI {t κ : Nat} {M : Mw} {v : Int32} (h1 : 64 ≤ κ) (h2 : κ ≤ 81) : OnR t M (uIw M κ 0 0 t v) := by
  intro κ' b i j hn
  refine ⟨?_, Eq.refl _, Eq.refl _⟩
  rw [uI1, if_neg]
  rintro ⟨rfl, rfl, rfl, rfl⟩
  exact hn ⟨h1, h2, Eq.refl _⟩
theorem OnR.uF {t κ : Nat} {M : Mw} {v : UInt32} (h1 : 64 ≤ κ) (h2 : κ ≤ 81) : OnR t M (uFw M κ 0 0 t v) := by
  intro κ' b i j hn
  refine ⟨Eq.refl _, ?_, Eq.refl _⟩
  rw [uF2, if_neg]
  rintro ⟨rfl, rfl, rfl, rfl⟩
  exact hn ⟨h1, h2, Eq.refl _⟩
theorem OnR.uD {t κ : Nat} {M : Mw} {v : UInt64} (h1 : 64 ≤ κ) (h2 : κ ≤ 81) : OnR t M (uDw M κ 0 0 t v) := by
  intro κ' b i j hn
  refine ⟨Eq.refl _, Eq.refl _, ?_⟩
  rw [uD3, if_neg]
  rintro ⟨rfl, rfl, rfl, rfl⟩
  exact hn ⟨h1, h2, Eq.refl _⟩
theorem RT.on {M M' : Mw} {V V' : Vw} {t t' : Nat} (h : RT M V t') (ho : OnR t M M') (hne : t' ≠ t) (hV : VE V V' t') : RT M' V' t' := by
  obtain ⟨e1, e2, e3, e4⟩ := hV
  have q : ∀ κ, M'.1 κ 0 0 t' = M.1 κ 0 0 t' ∧ M'.2.1 κ 0 0 t' = M.2.1 κ 0 0 t' ∧ M'.2.2 κ 0 0 t' = M.2.2 κ 0 0 t' := fun κ => ho κ 0 0 t' (fun z => hne z.2.2)
  unfold RT at h ⊢
  rw [(q 64).1, (q 66).1, (q 65).1, (q 67).1, (q 68).1, (q 70).1, (q 71).1, (q 69).1, (q 73).1, (q 75).1, (q 76).1, (q 72).1, (q 77).1, (q 78).1, (q 81).1, (q 74).2.1, (q 79).2.1, (q 80).2.2, e1, e2, e3, e4]
  exact h
theorem RT.ve {M : Mw} {V V' : Vw} {t : Nat} (h : RT M V t) (hV : VE V V' t) : RT M V' t := by
  obtain ⟨e1, e2, e3, e4⟩ := hV
  unfold RT at h ⊢
  rw [e1, e2, e3, e4]
  exact h
theorem RBd.on {M M' : Mw} {β : Bw} {L : Lw} {t : Nat} (h : RBd M β L) (ho : OnR t M M') : RBd M' β L :=
  h.fr (funext fun b => funext fun i => funext fun j => (ho 51 b i j (by omega)).1) (fun j _ _ => (ho 50 0 0 j (by omega)).1)
theorem r_period {M : Mw} {β : Bw} {L : Lw} (hg : GB β L) (h : RBd M β L) {t : Nat} (ht : t < β 0 0 5) : F_X10_period (nI t) M = some (nI (β 4 t 1)) := by
  have h5 := hg.1.2.2.2.2
  unfold F_X10_period
  rw [show (1 : Int32) = nI 1 from rfl, r_told (by omega) (by omega), Option.bind_some, h.2.1 t ht 1 (by omega) (by omega) (by omega)]
theorem i_sub1 (a : Int32) : a - 1 = a + (-1) := Int32.sub_eq_add_neg a 1
theorem nar0 : vp_nar .boolean 0 = 0 := by decide +kernel
theorem nar1 : vp_nar .boolean 1 = 1 := by decide +kernel
theorem r_restart {M : Mw} {β : Bw} {L : Lw} {V : Vw} {t k : Nat} (hg : GB β L) (h : RBd M β L) (ht : t < β 0 0 5) (hR : RT M V t) (hk : k ≤ 200) : ∃ M', F_X10_restarts (nI t) (nI k) M = some M' ∧ RT M' (rsV V t (rst β t k)) t ∧ OnR t M M' := by
  have h5 := hg.1.2.2.2.2
  obtain ⟨g0, g4, g60, -⟩ := hg.2.2.2.1 t ht
  have hin : inb (nI t) 5 = true := inb_nI (by omega) (by omega)
  have hcl : (nI t).toNatClampNeg = t := clampI (by omega)
  have p0 := r_period hg (h.on (OnR.uI (t := t) (κ := 65) (v := -1) (by omega) (by omega))) ht
  have hne : ¬ nI (β 4 t 1) = 0 := nI_ne0 (by omega) (by omega)
  unfold F_X10_restarts
  rw [if_pos hin, hcl]
  simp only [bd_eq]
  rw [p0]
  simp only [Option.bind_some]
  rw [if_neg hne, if_pos hin, pk_div (by omega) (by omega) (by omega), nI_1, pk_mul]
  rw [if_pos hin, if_pos hin, if_pos hin, if_pos hin]
  refine ⟨_, Eq.refl _, ?_, ?_⟩
  · obtain ⟨h0, h1, h2, h3, h70, h71, h6, h7, h8, h9, h10, h12, h13, h14, h11, h15, h16⟩ := hR
    unfold RT rsV
    rw [vs_at]
    refine ⟨?_, ?_, ?_, ?_, ?_, ?_, ?_, ?_, ?_, ?_, ?_, ?_, ?_, ?_, ?_, ?_, ?_⟩ <;> simp [uI1, uI2, rsF, vs, rst, nar0, h1, h7, h8, h9, h10, h12, h13, h14, h11, h16]
    · exact i_sub1 _
    · decide +kernel
    · exact h15
  · exact (((OnR.uI (by omega) (by omega)).trans (OnR.uI (by omega) (by omega))).trans (OnR.uI (by omega) (by omega))).trans ((OnR.uI (by omega) (by omega)).trans (OnR.uI (by omega) (by omega)))
theorem und_rec {β : Bw} {L : Lw} (hg : GB β L) {k : Nat} (hk : k < β 0 0 4) (w : Nat) : und β k w = (decide (k = w) || (decide (0 < k) && und β (β 1 0 k - 1) w)) := by
  have h3 := hg.1.2.2.2.1
  obtain ⟨b0, hb⟩ := hg.2.2.2.2.2.1
  unfold und
  apply Bool.eq_iff_iff.mpr
  simp only [Bool.or_eq_true, Bool.and_eq_true, decide_eq_true_eq]
  by_cases c : 0 < k
  · obtain ⟨b1, b2⟩ := hb k c hk
    rcases (by omega : β 1 0 k = 1 ∨ β 1 0 k = 2) with e | e
    · rw [e, show (1 : Nat) - 1 = 0 from rfl, b0]
      omega
    · have hk2 : 1 < β 0 0 4 := by omega
      obtain ⟨d1, d2⟩ := hb 1 (by omega) hk2
      have e1 : β 1 0 1 = 1 := by omega
      rw [e, show (2 : Nat) - 1 = 1 from rfl, e1, show (1 : Nat) - 1 = 0 from rfl, b0]
      omega
  · omega
theorem r_isUnder {M : Mw} {β : Bw} {L : Lw} (hg : GB β L) (h : RBd M β L) {w : Nat} (hw : w < β 0 0 4) : ∀ (f k : Nat), k < f → k < β 0 0 4 → it (fun _ => none) (B_X10_isUnder_2 (nI w) M) f (nI k) = some (if und β k w = true then 1 else 0) := by
  have h3 := hg.1.2.2.2.1
  intro f
  induction f with
  | zero => intro k hk; omega
  | succ f ih =>
    intro k hk hkW
    rw [it_succ]
    generalize it (fun _ => none) (B_X10_isUnder_2 (nI w) M) f = K at ih ⊢
    unfold B_X10_isUnder_2 B_X10_isUnder_24
    rw [und_rec hg hkW]
    by_cases c : k = w
    · rw [if_pos (by rw [c]), if_pos (by rw [c])]
      simp [c]
    rw [if_neg (mt (nI_eq (by omega) (by omega)).mp c), if_neg (mt (nI_eq (by omega) (by omega)).mp c)]
    by_cases c0 : 0 < k
    · obtain ⟨b1, b2⟩ := hg.2.2.2.2.2.1.2 k c0 hkW
      have e := h.2.2.2.2.1 k hkW
      have e8 : 8 + nI k = nI (8 + k) := nI_add 8 k
      rw [if_neg (nI_nle c0 (by omega)), e8, if_pos (inb_nI (by omega) (by omega)), clampI (by omega), e]
      simp only [bd_eq]
      have e1 : nI (β 1 0 k) + (-1) = nI (β 1 0 k - 1) := by
        have e2 := pk_m1 (β 1 0 k - 1)
        rw [show β 1 0 k - 1 + 1 = β 1 0 k by omega] at e2
        exact e2
      rw [e1, ih (β 1 0 k - 1) (by omega) (by omega)]
      simp [c, c0]
    · obtain rfl : k = 0 := by omega
      rw [if_pos (by decide +kernel)]
      simp [c]
/-- which sleeps are over -/
def RWk (M : Mw) (wok : Nat → Nat) (I : Nat) : Prop := ∀ i, i < I → ∀ w x : Nat, w < 3 → x ≤ 199 → rowR M i = (5, nI w, nI x, -1, -1) → M.1 84 0 0 i = if x < wok w then 1 else 0
theorem row_kind5 {β : Bw} {L : Lw} {r : Rw} (hg : GB β L) (h : GRow β r) (h5 : r.1 = 5) : ∃ w x : Nat, w < β 0 0 4 ∧ x ≤ 199 ∧ r = (5, nI w, nI x, -1, -1) := by
  rcases h with h | ⟨t, j, m, ht, hj, hm1, hm2, e⟩ | ⟨kd, t, j, n, m, hk, ht, hj, hn, hm1, hm2, e⟩
  · exact h
  · rw [e] at h5
    have h6 : (4 : Int32) = 5 := h5
    exact absurd h6 (by decide)
  · rw [e] at h5
    have h6 : nI kd = 5 := h5
    have h7 := congrArg Int32.toInt h6
    rw [nI_toInt (by omega)] at h7
    have h8 : (5 : Int32).toInt = 5 := by decide
    omega
def wkF (wok : Nat → Nat) (k w n i j : Nat) : Nat := if i < n ∧ j = w then k + 1 else wok j
theorem wkF_in {wok : Nat → Nat} {k w n i j : Nat} (h : i < n) (h2 : j = w) : wkF wok k w n i j = k + 1 := if_pos ⟨h, h2⟩
theorem wkF_out {wok : Nat → Nat} {k w n i j : Nat} (h : ¬ (i < n ∧ j = w)) : wkF wok k w n i j = wok j := if_neg h
theorem r_wakes {M : Mw} {β : Bw} {L : Lw} {wok : Nat → Nat} {I w k : Nat} (hg : GB β L) (h : RBd M β L) (hI : I ≤ 19) (hn : M.1 51 0 0 5 + M.1 51 0 0 6 + M.1 50 0 0 27 = nI I) (hrow : ∀ i, i < I → GRow β (rowR M i)) (hw : w < β 0 0 4) (hk : k ≤ 200) (hR : RWk M wok I) (hmono : wok w ≤ k + 1) :
    ∃ M', F_X10_wakes (nI w) (nI k) M = some M' ∧ RWk M' (fun j => if j = w then k + 1 else wok j) I ∧ Fr (fun κ b => κ = 84 ∧ b = 0) M M' := by
  have h3 := hg.1.2.2.2.1
  have key := it_for (z := fun _ _ => none) (B := B_X10_wakes_2 (nI w) (nI k)) (n := I) (P := fun n M1 => (∀ i, i < I → ∀ w' x : Nat, w' < 3 → x ≤ 199 → rowR M i = (5, nI w', nI x, -1, -1) → M1.1 84 0 0 i = if x < wkF wok k w n i w' then 1 else 0) ∧ Fr (fun κ b => κ = 84 ∧ b = 0) M M1) (Q := fun o => ∃ M', o = some M' ∧ RWk M' (fun j => if j = w then k + 1 else wok j) I ∧ Fr (fun κ b => κ = 84 ∧ b = 0) M M') (fun kk n M1 hn1 hP => by
    obtain ⟨hw1, hF1⟩ := hP
    left
    have e51 : M1.1 51 = M.1 51 := funext fun b' => (hF1 51 b' (by omega)).1
    have e50 : M1.1 50 = M.1 50 := funext fun b' => (hF1 50 b' (by omega)).1
    have hinj : F_X10_injections M1 = some (nI I) := by
      unfold F_X10_injections F_X10_many
      rw [Option.bind_some, e51, e50, hn]
    have o0 : F_X10_of (nI n) 0 M1 = some (M.1 51 0 0 (106 + 5 * n)) := by
      have := r_of (M := M1) (i := n) (p := 0) (by omega) (by omega)
      rw [e51] at this
      exact this
    have o1 : F_X10_of (nI n) 1 M1 = some (M.1 51 0 0 (106 + 5 * n + 1)) := by
      have := r_of (M := M1) (i := n) (p := 1) (by omega) (by omega)
      rw [e51] at this
      exact this
    have o2 : F_X10_of (nI n) 2 M1 = some (M.1 51 0 0 (106 + 5 * n + 2)) := by
      have := r_of (M := M1) (i := n) (p := 2) (by omega) (by omega)
      rw [e51] at this
      exact this
    have hskip : (∀ w' x : Nat, w' < 3 → x ≤ 199 → rowR M n = (5, nI w', nI x, -1, -1) → w' = w → k < x) → (∀ i, i < I → ∀ w' x : Nat, w' < 3 → x ≤ 199 → rowR M i = (5, nI w', nI x, -1, -1) → M1.1 84 0 0 i = if x < wkF wok k w (n + 1) i w' then 1 else 0) := by
      intro hs i hi w' x hw' hx hr
      rw [hw1 i hi w' x hw' hx hr]
      by_cases c : w' = w
      · by_cases c2 : i < n
        · rw [wkF_in c2 c, wkF_in (n := n + 1) (by omega) c]
        · rw [wkF_out (n := n) (fun q => c2 q.1)]
          by_cases c3 : i = n
          · have := hs w' x hw' hx (by rw [← c3]; exact hr) c
            rw [wkF_in (n := n + 1) (by omega) c, if_neg (by rw [c]; omega), if_neg (by omega)]
          · rw [wkF_out (n := n + 1) (fun q => by have := q.1; omega)]
      · rw [wkF_out (n := n) (fun q => c q.2), wkF_out (n := n + 1) (fun q => c q.2)]
    unfold B_X10_wakes_2
    rw [hinj, Option.bind_some, if_neg (nI_ge hn1 (by omega)), o0, Option.bind_some]
    by_cases c5 : M.1 51 0 0 (106 + 5 * n) = 5
    case neg =>
      rw [if_neg c5]
      simp only [bd_eq, nI_1]
      exact ⟨M1, Eq.refl _, hskip (fun w' x _ _ hr _ => absurd (congrArg (fun r : Rw => r.1) hr) c5), hF1⟩
    obtain ⟨w1, x1, hw1', hx1, hr1⟩ := row_kind5 hg (hrow n hn1) c5
    have er1 : M.1 51 0 0 (106 + 5 * n + 1) = nI w1 := congrArg (fun r : Rw => r.2.1) hr1
    have er2 : M.1 51 0 0 (106 + 5 * n + 2) = nI x1 := congrArg (fun r : Rw => r.2.2.1) hr1
    have huniq : ∀ w' x : Nat, w' < 3 → x ≤ 199 → rowR M n = (5, nI w', nI x, -1, -1) → w' = w1 ∧ x = x1 := by
      intro w' x hw' hx hr
      have a1 : nI w' = nI w1 := (congrArg (fun r : Rw => r.2.1) hr).symm.trans er1
      have a2 : nI x = nI x1 := (congrArg (fun r : Rw => r.2.2.1) hr).symm.trans er2
      exact ⟨(nI_eq (by omega) (by omega)).mp a1, (nI_eq (by omega) (by omega)).mp a2⟩
    rw [if_pos c5, o1, Option.bind_some, er1]
    by_cases cw : w1 = w
    case neg =>
      rw [if_neg (mt (nI_eq (by omega) (by omega)).mp cw)]
      simp only [bd_eq, nI_1]
      exact ⟨M1, Eq.refl _, hskip (fun w' x a1 a2 hr e => absurd ((huniq w' x a1 a2 hr).1.symm.trans e) cw), hF1⟩
    rw [if_pos (by rw [cw]), o2, Option.bind_some, er2]
    by_cases cx : k < x1
    · rw [if_pos (nI_lt cx (by omega))]
      simp only [bd_eq, nI_1]
      exact ⟨M1, Eq.refl _, hskip (fun w' x a1 a2 hr e => by rw [(huniq w' x a1 a2 hr).2]; exact cx), hF1⟩
    · rw [if_neg (nI_nlt (by omega) (by omega)), if_pos (inb_nI (by omega) (by omega)), clampI (by omega), nar1]
      simp only [bd_eq, nI_1]
      refine ⟨_, Eq.refl _, fun i hi w' x hw' hx hr => ?_, hF1.trans (Fr.uI ⟨Eq.refl _, Eq.refl _⟩)⟩
      rw [uI1]
      by_cases c3 : i = n
      · subst c3
        obtain ⟨a1, a2⟩ := huniq w' x hw' hx hr
        rw [if_pos ⟨Eq.refl _, Eq.refl _, Eq.refl _, Eq.refl _⟩, wkF_in (n := i + 1) (by omega) (by omega), if_pos (by omega)]
      · rw [if_neg (fun q => c3 q.2.2.2), hw1 i hi w' x hw' hx hr]
        by_cases c : w' = w
        · by_cases c2 : i < n
          · rw [wkF_in c2 c, wkF_in (n := n + 1) (by omega) c]
          · rw [wkF_out (n := n) (fun q => c2 q.1), wkF_out (n := n + 1) (fun q => by have := q.1; omega)]
        · rw [wkF_out (n := n) (fun q => c q.2), wkF_out (n := n + 1) (fun q => c q.2)]) (fun kk M1 hP => by
    obtain ⟨hw1, hF1⟩ := hP
    have e51 : M1.1 51 = M.1 51 := funext fun b' => (hF1 51 b' (by omega)).1
    have e50 : M1.1 50 = M.1 50 := funext fun b' => (hF1 50 b' (by omega)).1
    have hinj : F_X10_injections M1 = some (nI I) := by
      unfold F_X10_injections F_X10_many
      rw [Option.bind_some, e51, e50, hn]
    unfold B_X10_wakes_2
    rw [hinj, Option.bind_some, if_pos (nI_le (Nat.le_refl _) (by omega))]
    refine ⟨M1, Eq.refl _, fun i hi w' x hw' hx hr => ?_, hF1⟩
    have hr2 : rowR M i = (5, nI w', nI x, -1, -1) := by
      unfold rowR at hr ⊢
      rw [← e51]
      exact hr
    rw [hw1 i hi w' x hw' hx hr2]
    by_cases c : w' = w
    · rw [wkF_in hi c]
      simp [c]
    · rw [wkF_out (fun q => c q.2)]
      simp [c]) FU 0 M (Nat.zero_le _) (by unfold FU; omega) ⟨fun i hi w' x hw' hx hr => by
    rw [wkF_out (fun q => Nat.not_lt_zero _ q.1)]
    exact hR i hi w' x hw' hx hr, Fr.rfl⟩
  rw [nI_0] at key
  exact key
