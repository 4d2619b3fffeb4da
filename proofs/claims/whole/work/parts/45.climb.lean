/-! CLIMBING: which tasks are restarted, which watchers wake up -/
abbrev Hw : Type := (Nat → Nat) × (Nat → Nat) × List (Nat × Nat × Nat × Nat) × Nat × Nat × Nat
def dR (β : Bw) (lev task w t : Nat) : Bool := decide (lev = 3) || (decide (lev = 2) && und β (β 4 t 0) w) || (decide (lev = 1) && decide (β 4 t 0 = w)) || decide (task = t + 1)
def dW (β : Bw) (lev w k : Nat) : Bool := decide (lev = 3) || (decide (lev = 2) && und β k w)
def rst (β : Bw) (t k : Nat) : Nat := (k / β 4 t 1 + 1) * β 4 t 1
/-- the first n tasks, as climbing leaves them -/
def clV (β : Bw) (lev task w k : Nat) (V : Vw) (n : Nat) : Vw := (fun t => if t < n ∧ dR β lev task w t = true then rsF (V.1 t) (rst β t k) else V.1 t, V.2)
def clK (β : Bw) (lev w k : Nat) (wok : Nat → Nat) (n : Nat) : Nat → Nat := fun j => if j < n ∧ dW β lev w j = true then k + 1 else wok j
def clH (β : Bw) (lev w k : Nat) (H : Hw) : Hw := (clK β lev w k H.1 (β 0 0 4), H.2.1, H.2.2.1, if lev = 3 then (H.2.2.2.1 + 1, if H.2.2.2.1 + 1 = 3 then k + 1 else H.2.2.2.2.1, 1) else H.2.2.2)
theorem clV_ge {β : Bw} {lev task w k : Nat} {V : Vw} {n t : Nat} (h : n ≤ t) : VE V (clV β lev task w k V n) t := ⟨if_neg (fun q => by omega), Eq.refl _, Eq.refl _, Eq.refl _⟩
theorem clV_0 (β : Bw) (lev task w k : Nat) (V : Vw) (t : Nat) : VE V (clV β lev task w k V 0) t := clV_ge (Nat.zero_le t)
theorem clV_s {β : Bw} {lev task w k : Nat} {V : Vw} {n t : Nat} (h : t ≠ n) : VE (clV β lev task w k V n) (clV β lev task w k V (n + 1)) t := by
  refine ⟨?_, Eq.refl _, Eq.refl _, Eq.refl _⟩
  show (if _ then _ else _) = (if _ then _ else _)
  by_cases c : t < n ∧ dR β lev task w t = true
  · rw [if_pos c, if_pos ⟨by omega, c.2⟩]
  · rw [if_neg c, if_neg (fun q => c ⟨by omega, q.2⟩)]
theorem clV_y {β : Bw} {lev task w k : Nat} {V : Vw} {n : Nat} (h : dR β lev task w n = true) : VE (rsV (clV β lev task w k V n) n (rst β n k)) (clV β lev task w k V (n + 1)) n := by
  refine ⟨?_, Eq.refl _, Eq.refl _, Eq.refl _⟩
  unfold rsV
  rw [vs_at, (clV_ge (Nat.le_refl n)).1]
  exact if_pos ⟨Nat.lt_succ_self n, h⟩
theorem clV_n {β : Bw} {lev task w k : Nat} {V : Vw} {n : Nat} (h : dR β lev task w n ≠ true) : VE (clV β lev task w k V n) (clV β lev task w k V (n + 1)) n := by
  refine ⟨?_, Eq.refl _, Eq.refl _, Eq.refl _⟩
  rw [(clV_ge (Nat.le_refl n)).1]
  exact if_neg (fun q => h q.2)
/-- the class's run, but its tasks -/
def CG (b : Nat) (M : Mw) (β : Bw) (k : Nat) (H : Hw) : Prop :=
  M.1 23 b 0 6 = nI k ∧ M.1 23 b 0 7 = nI H.2.2.2.1 ∧ M.1 23 b 0 5 = nI H.2.2.2.2.1 + (-1) ∧ M.1 23 b 0 8 = nI H.2.2.2.2.2 ∧
  (∀ w, w < β 0 0 4 → M.1 33 b 0 w = nI (H.1 w) + (-1) ∧ M.1 34 b 0 w = nI (H.2.1 w)) ∧
  M.1 26 b 0 1 = nI H.2.2.1.length ∧ ∀ (i : Nat) (r : Nat × Nat × Nat × Nat), H.2.2.1[i]? = some r → M.1 28 b i 0 = nI r.1 ∧ M.1 28 b i 1 = nI r.2.1 ∧ M.1 28 b i 2 = nI r.2.2.1 ∧ M.1 28 b i 3 = nI r.2.2.2
def CTs (b : Nat) (M : Mw) (β : Bw) (L : Lw) (V : Vw) : Prop := ∀ t, t < β 0 0 5 → CT b M β L V t
/-- a run's own cells -/
abbrev SRun (b : Nat) : Nat → Nat → Prop := fun κ b' => 23 ≤ κ ∧ κ ≤ 35 ∧ b' = b
theorem CG.fr {b : Nat} {M M' : Mw} {β : Bw} {k : Nat} {H : Hw} (h : CG b M β k H) (hf : Fr (fun κ b' => κ = 25 ∧ b' = b) M M') : CG b M' β k H := by
  unfold CG at h ⊢
  rw [(hf 23 b (by omega)).1, (hf 33 b (by omega)).1, (hf 34 b (by omega)).1, (hf 26 b (by omega)).1, (hf 28 b (by omega)).1]
  exact h
theorem CBd.run {b : Nat} {M M' : Mw} {β : Bw} {L : Lw} (h : CBd (b + 5) M β L) (hf : Fr (SRun b) M M') : CBd (b + 5) M' β L :=
  h.fr (fun κ hk => (hf κ (b + 5) (fun q => by have := q.1; omega)).1)
theorem c_below {b : Nat} {M : Mw} {β : Bw} {L : Lw} (hg : GB β L) (h : CBd b M β L) {k w : Nat} (hk : k < β 0 0 4) (hw : w < β 0 0 4) : F_X0_isAtOrBelow b (nI k) (nI w) M = some (if und β k w = true then 1 else 0) := by
  have h3 := hg.1.2.2.2.1
  obtain ⟨h8, hb⟩ := hg.2.2.2.2.2.2.1 w hw
  have e := (h.2.2.2.2.1 w hw).2
  unfold F_X0_isAtOrBelow
  rw [if_pos (inb_nI (by omega) (by omega)), clampI (by omega), e]
  have hd : ∀ v, v < 8 → ∀ k, k < 3 → ((nI v &&& (1 <<< (nI k &&& 31)) = 0) ↔ ¬ v.testBit k = true) := by decide +kernel
  have hd2 := hd _ h8 k (by omega)
  rw [hb k hk] at hd2
  by_cases c : und β k w = true
  · rw [if_neg (fun q => (hd2.mp q) c), if_pos c]
  · rw [if_pos (hd2.mpr c), if_neg c]
theorem nI_m1 (a t : Nat) (ha : a < 2 ^ 31) (ht : t < 2 ^ 30) : nI t = nI a + (-1) ↔ a = t + 1 := by
  cases a with
  | zero =>
    constructor
    · intro h
      have h1 := congrArg Int32.toInt h
      rw [nI_toInt (by omega)] at h1
      have h2 : (nI 0 + (-1)).toInt = -1 := by decide +kernel
      omega
    · intro h
      omega
  | succ a =>
    rw [pk_m1, nI_eq (by omega) (by omega)]
    omega
theorem c_climbW {b : Nat} {M : Mw} {β : Bw} {L : Lw} {H : Hw} {k lev w : Nat} (hg : GB β L) (hB : CBd (b + 5) M β L) (hG : CG b M β k H) (hk : k ≤ 200) (hl : lev ≤ 3) (hw : lev = 1 ∨ lev = 2 → w < β 0 0 4) (hH : H.2.2.2.1 ≤ 2) {wI : Int32} (hwI : lev = 1 ∨ lev = 2 → wI = nI w) :
    ∃ M', it (fun _ _ => none) (B_X5_climb_118 b (nI lev) wI) FU 0 M = some M' ∧ CG b M' β k (clH β lev w k H) ∧ Fr (fun κ b' => (κ = 23 ∨ κ = 33) ∧ b' = b) M M' ∧ (∀ j, j ≠ 5 → j ≠ 7 → j ≠ 8 → M'.1 23 b 0 j = M.1 23 b 0 j) := by
  have h3 := hg.1.2.2.2.1
  obtain ⟨g6, g7, g5, g8, gw, gn, gr⟩ := hG
  have key := it_for (z := fun _ _ => none) (B := B_X5_climb_118 b (nI lev) wI) (n := β 0 0 4) (P := fun n M1 => (∀ j, j < β 0 0 4 → M1.1 33 b 0 j = nI (clK β lev w k H.1 n j) + (-1)) ∧ Fr (fun κ b' => κ = 33 ∧ b' = b) M M1) (Q := fun o => ∃ M', o = some M' ∧ CG b M' β k (clH β lev w k H) ∧ Fr (fun κ b' => (κ = 23 ∨ κ = 33) ∧ b' = b) M M' ∧ (∀ j, j ≠ 5 → j ≠ 7 → j ≠ 8 → M'.1 23 b 0 j = M.1 23 b 0 j)) (fun kk n M1 hn hP => by
    obtain ⟨hw1, hF1⟩ := hP
    left
    have hB1 : CBd (b + 5) M1 β L := hB.run (hF1.mono (fun κ b' h => ⟨by omega, by omega, h.2⟩))
    have e04 := hB1.1 4 (by omega)
    have e236 : M1.1 23 b 0 6 = nI k := by rw [(hF1 23 b (by omega)).1]; exact g6
    have hy : dW β lev w n = true → ∃ M', B_X5_climb_153 b kk (nI lev) wI (nI n) M1 = kk (nI (n + 1)) M' ∧ (∀ j, j < β 0 0 4 → M'.1 33 b 0 j = nI (clK β lev w k H.1 (n + 1) j) + (-1)) ∧ Fr (fun κ b' => κ = 33 ∧ b' = b) M M' := by
      intro hd
      unfold B_X5_climb_153
      rw [if_pos (inb_nI (by omega) (by omega)), clampI (by omega), e236]
      simp only [bd_eq, nI_1]
      refine ⟨_, Eq.refl _, fun j hj => ?_, hF1.trans (Fr.uI ⟨Eq.refl _, Eq.refl _⟩)⟩
      rw [uI1]
      by_cases c : j = n
      · subst c
        rw [if_pos ⟨Eq.refl _, Eq.refl _, Eq.refl _, Eq.refl _⟩]
        have e : clK β lev w k H.1 (j + 1) j = k + 1 := if_pos ⟨by omega, hd⟩
        rw [e, pk_m1]
      · rw [if_neg (fun q => c q.2.2.2), hw1 j hj]
        have e : clK β lev w k H.1 (n + 1) j = clK β lev w k H.1 n j := by
          unfold clK
          by_cases c2 : j < n ∧ dW β lev w j = true
          · rw [if_pos c2, if_pos ⟨by omega, c2.2⟩]
          · rw [if_neg c2, if_neg (fun q => c2 ⟨by omega, q.2⟩)]
        rw [e]
    have hno : dW β lev w n ≠ true → ∃ M', kk (nI (n + 1)) M1 = kk (nI (n + 1)) M' ∧ (∀ j, j < β 0 0 4 → M'.1 33 b 0 j = nI (clK β lev w k H.1 (n + 1) j) + (-1)) ∧ Fr (fun κ b' => κ = 33 ∧ b' = b) M M' := by
      intro hd
      refine ⟨M1, Eq.refl _, fun j hj => ?_, hF1⟩
      rw [hw1 j hj]
      have e : clK β lev w k H.1 (n + 1) j = clK β lev w k H.1 n j := by
        unfold clK
        by_cases c2 : j < n ∧ dW β lev w j = true
        · rw [if_pos c2, if_pos ⟨by omega, c2.2⟩]
        · rw [if_neg c2, if_neg (fun q => ?_)]
          by_cases c : j = n
          · subst c
            exact hd q.2
          · exact c2 ⟨by omega, q.2⟩
      rw [e]
    unfold B_X5_climb_118
    rw [e04, if_neg (nI_ge hn (by omega))]
    simp only [bd_eq, nI_1]
    by_cases c3 : lev = 3
    · rw [if_pos (show nI lev = 3 by rw [c3]; rfl)]
      exact hy (by unfold dW; simp [c3])
    rw [if_neg (show ¬ nI lev = 3 from mt (nI_eq (b := 3) (by omega) (by omega)).mp c3)]
    by_cases c2 : lev = 2
    · have hwl := hw (Or.inr c2)
      rw [if_pos (show nI lev = 2 by rw [c2]; rfl), hwI (Or.inr c2), c_below hg hB1 hn hwl, Option.bind_some, ← hwI (Or.inr c2)]
      by_cases cu : und β n w = true
      · rw [if_pos cu, if_neg (by decide)]
        exact hy (by unfold dW; simp [c2, cu])
      · rw [if_neg cu, if_pos rfl]
        exact hno (by unfold dW; simp [c3, cu])
    · rw [if_neg (show ¬ nI lev = 2 from mt (nI_eq (b := 2) (by omega) (by omega)).mp c2)]
      exact hno (by unfold dW; simp [c3, c2])) (fun kk M1 hP => by
    obtain ⟨hw1, hF1⟩ := hP
    have hB1 : CBd (b + 5) M1 β L := hB.run (hF1.mono (fun κ b' h => ⟨by omega, by omega, h.2⟩))
    have e04 := hB1.1 4 (by omega)
    have e23 : M1.1 23 b = M.1 23 b := (hF1 23 b (by omega)).1
    have e34 : M1.1 34 b = M.1 34 b := (hF1 34 b (by omega)).1
    have e26 : M1.1 26 b = M.1 26 b := (hF1 26 b (by omega)).1
    have e28 : M1.1 28 b = M.1 28 b := (hF1 28 b (by omega)).1
    unfold B_X5_climb_118
    rw [e04, if_pos (nI_le (Nat.le_refl _) (by omega))]
    by_cases c3 : lev = 3
    · rw [if_pos (show nI lev = 3 by rw [c3]; rfl)]
      unfold F_X5_endTickByReset
      simp only [bd_eq, uI1, e23, g7]
      simp only [show ¬ (7 = 8) by decide, show ¬ (6 = 7) by decide, show ¬ (6 = 8) by decide, and_false, if_false, and_self, if_true, nI_1, g6, g7, eq_self]
      by_cases cb : H.2.2.2.1 + 1 = 3
      · rw [if_pos (show nI (H.2.2.2.1 + 1) = 3 by rw [cb]; rfl), Option.bind_some]
        refine ⟨_, Eq.refl _, ⟨?_, ?_, ?_, ?_, fun j hj => ?_, ?_, fun i r hr => ?_⟩, ?_, fun j h5 h7 h8 => ?_⟩
        · simp [uI1, e23, g6]
        · simp [uI1, clH, c3]
        · simp [uI1, clH, c3, cb, pk_m1]
        · simp [uI1, clH, c3]
          decide +kernel
        · refine ⟨?_, ?_⟩
          · simp [uI1, clH, hw1 j hj]
          · simp [uI1, clH, e34, (gw j hj).2]
        · simp [uI1, clH, e26, gn]
        · simp [uI1, e28]
          exact gr i r hr
        · exact ((hF1.mono (fun κ b' h => ⟨Or.inr h.1, h.2⟩)).trans (Fr.uI ⟨Or.inl rfl, rfl⟩)).trans ((Fr.uI ⟨Or.inl rfl, rfl⟩).trans (Fr.uI ⟨Or.inl rfl, rfl⟩))
        · simp [uI1, h5, h7, h8, e23]
      · rw [if_neg (show ¬ nI (H.2.2.2.1 + 1) = 3 from mt (nI_eq (b := 3) (by omega) (by omega)).mp cb), Option.bind_some]
        refine ⟨_, Eq.refl _, ⟨?_, ?_, ?_, ?_, fun j hj => ?_, ?_, fun i r hr => ?_⟩, ?_, fun j h5 h7 h8 => ?_⟩
        · simp [uI1, e23, g6]
        · simp [uI1, clH, c3]
        · simp [uI1, clH, c3, cb, e23, g5]
        · simp [uI1, clH, c3]
          decide +kernel
        · refine ⟨?_, ?_⟩
          · simp [uI1, clH, hw1 j hj]
          · simp [uI1, clH, e34, (gw j hj).2]
        · simp [uI1, clH, e26, gn]
        · simp [uI1, e28]
          exact gr i r hr
        · exact ((hF1.mono (fun κ b' h => ⟨Or.inr h.1, h.2⟩)).trans (Fr.uI ⟨Or.inl rfl, rfl⟩)).trans (Fr.uI ⟨Or.inl rfl, rfl⟩)
        · simp [uI1, h7, h8, e23]
    · rw [if_neg (show ¬ nI lev = 3 from mt (nI_eq (b := 3) (by omega) (by omega)).mp c3)]
      refine ⟨M1, Eq.refl _, ⟨?_, ?_, ?_, ?_, fun j hj => ?_, ?_, fun i r hr => ?_⟩, hF1.mono (fun κ b' h => ⟨Or.inr h.1, h.2⟩), fun j h5 h7 h8 => by rw [e23]⟩
      · rw [e23, g6]
      · rw [e23, g7]
        simp [clH, c3]
      · rw [e23, g5]
        simp [clH, c3]
      · rw [e23, g8]
        simp [clH, c3]
      · exact ⟨by simp [clH, hw1 j hj], by rw [e34]; exact (gw j hj).2⟩
      · rw [e26]
        exact gn
      · rw [e28]
        exact gr i r hr) FU 0 M (Nat.zero_le _) (by unfold FU; omega) ⟨fun j hj => by
    rw [(gw j hj).1]
    have e : clK β lev w k H.1 0 j = H.1 j := if_neg (fun q => Nat.not_lt_zero _ q.1)
    rw [e], Fr.rfl⟩
  rw [nI_0] at key
  exact key
theorem c_climb {b : Nat} {M : Mw} {β : Bw} {L : Lw} {V : Vw} {H : Hw} {k lev task w : Nat} (hg : GB β L) (hB : CBd (b + 5) M β L) (hT : CTs b M β L V) (hG : CG b M β k H) (hk : k ≤ 200) (hl : lev ≤ 3) (ht : task ≤ 5) (hw : lev = 1 ∨ lev = 2 → w < β 0 0 4) (hH : H.2.2.2.1 ≤ 2) {wI : Int32} (hwI : lev = 1 ∨ lev = 2 → wI = nI w) :
    ∃ M', F_X5_climb b (nI lev) (nI task + (-1)) wI M = some M' ∧ CTs b M' β L (clV β lev task w k V (β 0 0 5)) ∧ CG b M' β k (clH β lev w k H) ∧ Fr (SRun b) M M' ∧ (∀ κ, κ ≠ 25 → κ ≠ 33 → κ ≠ 23 → M'.1 κ b = M.1 κ b) ∧ (∀ j, j ≠ 5 → j ≠ 7 → j ≠ 8 → M'.1 23 b 0 j = M.1 23 b 0 j) := by
  have h3 := hg.1.2.2.2.1
  have h5 := hg.1.2.2.2.2
  have key := it_for (z := fun _ _ => none) (B := B_X5_climb_3 b (nI lev) (nI task + (-1)) wI) (n := β 0 0 5) (P := fun n M1 => CTs b M1 β L (clV β lev task w k V n) ∧ Fr (fun κ b' => κ = 25 ∧ b' = b) M M1) (Q := fun o => ∃ M', o = some M' ∧ CTs b M' β L (clV β lev task w k V (β 0 0 5)) ∧ CG b M' β k (clH β lev w k H) ∧ Fr (SRun b) M M' ∧ (∀ κ, κ ≠ 25 → κ ≠ 33 → κ ≠ 23 → M'.1 κ b = M.1 κ b) ∧ (∀ j, j ≠ 5 → j ≠ 7 → j ≠ 8 → M'.1 23 b 0 j = M.1 23 b 0 j)) (fun kk n M1 hn hP => by
    obtain ⟨hT1, hF1⟩ := hP
    left
    have hB1 : CBd (b + 5) M1 β L := hB.run (hF1.mono (fun κ b' h => ⟨by omega, by omega, h.2⟩))
    have e05 := hB1.1 5 (by omega)
    have e40 := hB1.2.2.1 n hn 0 (by omega)
    have e41 := hB1.2.2.1 n hn 1 (by omega)
    obtain ⟨g0, g4, g60, -⟩ := hg.2.2.2.1 n hn
    have e236 : M1.1 23 b 0 6 = nI k := by rw [(hF1 23 b (by omega)).1]; exact hG.1
    have h69 : ∃ M', B_X5_climb_69 b kk (nI lev) (nI task + (-1)) wI (nI n) M1 = kk (nI (n + 1)) M' ∧ CT b M' β L (rsV (clV β lev task w k V n) n (rst β n k)) n ∧ On25 b n M1 M' := by
      unfold B_X5_climb_69
      rw [if_pos (inb_nI (by omega) (by omega)), clampI (by omega), e41]
      simp only [bd_eq]
      rw [if_pos (show (1 : Int32) < nI (β 4 n 1) from nI_lt (a := 1) (by omega) (by omega)), if_pos (inb_nI (by omega) (by omega)), if_neg (nI_ne0 (by omega) (by omega)), e236, pk_div (by omega) (by omega) (by omega), nI_1, pk_mul]
      obtain ⟨M', e, hc, ho⟩ := c_restart (hT1 n hn) (rst β n k)
      unfold rst at e
      rw [e, Option.bind_some, nI_1]
      exact ⟨M', Eq.refl _, hc, ho⟩
    have hdo : dR β lev task w n = true → ∃ M', B_X5_climb_69 b kk (nI lev) (nI task + (-1)) wI (nI n) M1 = kk (nI (n + 1)) M' ∧ CTs b M' β L (clV β lev task w k V (n + 1)) ∧ Fr (fun κ b' => κ = 25 ∧ b' = b) M M' := by
      intro hd
      obtain ⟨M', e, hc, ho⟩ := h69
      refine ⟨M', e, fun t htT => ?_, hF1.trans ho.fr⟩
      by_cases c : t = n
      · subst c
        exact hc.to (Eq.refl _) (Eq.refl _) (Eq.refl _) (clV_y hd)
      · obtain ⟨o1, o2, o3⟩ := ho 25 b t (fun q => c q.2.2)
        exact (hT1 t htT).to o1 o2 o3 (clV_s c)
    have hno : dR β lev task w n ≠ true → ∃ M', kk (nI (n + 1)) M1 = kk (nI (n + 1)) M' ∧ CTs b M' β L (clV β lev task w k V (n + 1)) ∧ Fr (fun κ b' => κ = 25 ∧ b' = b) M M' := by
      intro hd
      refine ⟨M1, Eq.refl _, fun t htT => ?_, hF1⟩
      by_cases c : t = n
      · subst c
        exact (hT1 t htT).to (Eq.refl _) (Eq.refl _) (Eq.refl _) (clV_n hd)
      · exact (hT1 t htT).to (Eq.refl _) (Eq.refl _) (Eq.refl _) (clV_s c)
    have h63 : (lev = 3 ∨ (lev = 2 ∧ und β (β 4 n 0) w = true) ∨ (lev = 1 ∧ β 4 n 0 = w)) = False → ∃ M', B_X5_climb_63 b kk (nI lev) (nI task + (-1)) wI (nI n) M1 = kk (nI (n + 1)) M' ∧ CTs b M' β L (clV β lev task w k V (n + 1)) ∧ Fr (fun κ b' => κ = 25 ∧ b' = b) M M' := by
      intro hf
      unfold B_X5_climb_63
      by_cases c : task = n + 1
      · rw [if_pos ((nI_m1 task n (by omega) (by omega)).mpr c)]
        exact hdo (by unfold dR; simp [c])
      · rw [if_neg (mt (nI_m1 task n (by omega) (by omega)).mp c)]
        simp only [bd_eq, nI_1]
        apply hno
        unfold dR
        have hf2 : ¬ (lev = 3 ∨ (lev = 2 ∧ und β (β 4 n 0) w = true) ∨ (lev = 1 ∧ β 4 n 0 = w)) := fun q => by rw [hf] at q; exact q
        simp
        refine ⟨⟨⟨fun q => hf2 (Or.inl q), fun q => ?_⟩, fun q q2 => hf2 (Or.inr (Or.inr ⟨q, q2⟩))⟩, c⟩
        cases hu : und β (β 4 n 0) w with
        | true => exact absurd (Or.inr (Or.inl ⟨q, hu⟩)) hf2
        | false => rfl
    have h52 : (lev = 3 ∨ (lev = 2 ∧ und β (β 4 n 0) w = true)) = False → ∃ M', B_X5_climb_52 b kk (nI lev) (nI task + (-1)) wI (nI n) (nI (β 4 n 0)) M1 = kk (nI (n + 1)) M' ∧ CTs b M' β L (clV β lev task w k V (n + 1)) ∧ Fr (fun κ b' => κ = 25 ∧ b' = b) M M' := by
      intro hf
      have hf2 : ¬ (lev = 3 ∨ (lev = 2 ∧ und β (β 4 n 0) w = true)) := fun q => by rw [hf] at q; exact q
      unfold B_X5_climb_52
      by_cases c : lev = 1
      · have hwl := hw (Or.inl c)
        rw [if_pos (show nI lev = 1 by rw [c]; rfl), hwI (Or.inl c)]
        by_cases c2 : β 4 n 0 = w
        · rw [if_pos (by rw [c2])]
          rw [← hwI (Or.inl c)]
          exact hdo (by unfold dR; simp [c, c2])
        · rw [if_neg (mt (nI_eq (by omega) (by omega)).mp c2), ← hwI (Or.inl c)]
          exact h63 (eq_false (fun q => by rcases q with q | q | q <;> first | exact hf2 (Or.inl q) | exact hf2 (Or.inr q) | exact c2 q.2))
      · rw [if_neg (show ¬ nI lev = 1 from mt (nI_eq (b := 1) (by omega) (by omega)).mp c)]
        exact h63 (eq_false (fun q => by rcases q with q | q | q <;> first | exact hf2 (Or.inl q) | exact hf2 (Or.inr q) | exact c q.1))
    unfold B_X5_climb_3
    rw [e05, if_neg (nI_ge hn (by omega)), if_pos (inb_nI (by omega) (by omega)), clampI (by omega), e40]
    simp only [bd_eq]
    by_cases c3 : lev = 3
    · rw [if_pos (show nI lev = 3 by rw [c3]; rfl)]
      exact hdo (by unfold dR; simp [c3])
    rw [if_neg (show ¬ nI lev = 3 from mt (nI_eq (b := 3) (by omega) (by omega)).mp c3)]
    by_cases c2 : lev = 2
    · have hwl := hw (Or.inr c2)
      rw [if_pos (show nI lev = 2 by rw [c2]; rfl), hwI (Or.inr c2), c_below hg hB1 g0 hwl, Option.bind_some, ← hwI (Or.inr c2)]
      by_cases cu : und β (β 4 n 0) w = true
      · rw [if_pos cu, if_neg (by decide)]
        exact hdo (by unfold dR; simp [c2, cu])
      · rw [if_neg cu, if_pos rfl]
        exact h52 (eq_false (fun q => by rcases q with q | q <;> first | exact c3 q | exact cu q.2))
    · rw [if_neg (show ¬ nI lev = 2 from mt (nI_eq (b := 2) (by omega) (by omega)).mp c2)]
      exact h52 (eq_false (fun q => by rcases q with q | q <;> first | exact c3 q | exact c2 q.1))) (fun kk M1 hP => by
    obtain ⟨hT1, hF1⟩ := hP
    have hB1 : CBd (b + 5) M1 β L := hB.run (hF1.mono (fun κ b' h => ⟨by omega, by omega, h.2⟩))
    have e05 := hB1.1 5 (by omega)
    obtain ⟨M', e, hG', hF', hj'⟩ := c_climbW hg hB1 (hG.fr hF1) hk hl hw hH hwI
    unfold B_X5_climb_3
    rw [e05, if_pos (nI_le (Nat.le_refl _) (by omega))]
    refine ⟨M', e, fun t ht => ?_, hG', ?_, fun κ k1 k2 k3 => ?_, fun j j1 j2 j3 => ?_⟩
    · obtain ⟨o1, o2, o3⟩ := hF' 25 b (by omega)
      exact (hT1 t ht).to (by rw [o1]) (by rw [o2]) (by rw [o3]) VE.rfl
    · exact (hF1.mono (fun κ b' h => ⟨by omega, by omega, h.2⟩)).trans (hF'.mono (fun κ b' h => ⟨by omega, by omega, h.2⟩))
    · rw [(hF' κ b (by omega)).1, (hF1 κ b (by omega)).1]
    · rw [hj' j j1 j2 j3, (hF1 23 b (by omega)).1]) FU 0 M (Nat.zero_le _) (by unfold FU; omega) ⟨fun t htT => (hT t htT).to (Eq.refl _) (Eq.refl _) (Eq.refl _) (clV_0 β lev task w k V t), Fr.rfl⟩
  rw [nI_0] at key
  exact key
