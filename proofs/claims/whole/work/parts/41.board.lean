/-! THE BOARD: its numbers β κ i j (nodes, watchers, .. as class cells have them; over by one more), its injections L as rows of five -/
abbrev Bw : Type := Nat → Nat → Nat → Nat
abbrev Rw : Type := Int32 × Int32 × Int32 × Int32 × Int32
abbrev Lw : Type := List Rw
abbrev row5 (f : Nat → Int32) : Rw := (f 0, f 1, f 2, f 3, f 4)
/-- whether a watcher is another one, or below it (there are three at most) -/
def und (β : Bw) (k w : Nat) : Bool := decide (k = w ∨ (0 < k ∧ (β 1 0 k = w + 1 ∨ (1 < β 1 0 k ∧ β 1 0 (β 1 0 k - 1) = w + 1))))
def GRow (β : Bw) (r : Rw) : Prop :=
  (∃ w x : Nat, w < β 0 0 4 ∧ x ≤ 199 ∧ r = (5, nI w, nI x, -1, -1)) ∨ (∃ t j m : Nat, t < β 0 0 5 ∧ j ≤ 50 ∧ 1 ≤ m ∧ m ≤ 9 ∧ r = (4, nI t, nI j, -1, nI m)) ∨ (∃ k t j n m : Nat, k < 4 ∧ t < β 0 0 5 ∧ j ≤ 50 ∧ n < β 4 t 6 ∧ 1 ≤ m ∧ m ≤ 9 ∧ r = (nI k, nI t, nI j, nI n, nI m))
/-- a good board: its numbers are in bounds -/
def GB (β : Bw) (L : Lw) : Prop :=
  (β 0 0 0 ≤ 200 ∧ β 0 0 1 ≤ 50 ∧ β 0 0 2 ≤ 9 ∧ β 0 0 4 ≤ 3 ∧ β 0 0 5 ≤ 5) ∧
  (0 < β 0 0 0 → 20 ≤ β 0 0 0 ∧ 5 ≤ β 0 0 1) ∧ (0 < β 0 0 5 → 0 < β 0 0 0 ∧ 0 < β 0 0 4) ∧
  (∀ t, t < β 0 0 5 → β 4 t 0 < β 0 0 4 ∧ 4 ≤ β 4 t 1 ∧ β 4 t 1 ≤ 60 ∧ β 4 t 2 ≤ 99 ∧ β 4 t 2 < β 4 t 3 ∧ β 4 t 3 ≤ 120 ∧ β 4 t 4 ≤ 20 ∧ β 4 t 5 ≤ 40 ∧ 1 ≤ β 4 t 6 ∧ β 4 t 6 ≤ 6) ∧
  (∀ t n, t < β 0 0 5 → n < β 4 t 6 → 1 ≤ β 6 t n ∧ β 6 t n ≤ 9 ∧ β 8 t n < 64 ∧ ∀ k, (β 8 t n).testBit k = true → n < k ∧ k < β 4 t 6) ∧
  (β 1 0 0 = 0 ∧ ∀ w, 0 < w → w < β 0 0 4 → 1 ≤ β 1 0 w ∧ β 1 0 w ≤ w) ∧
  (∀ w, w < β 0 0 4 → β 2 0 w < 8 ∧ ∀ k, k < β 0 0 4 → (β 2 0 w).testBit k = und β k w) ∧
  (L.length ≤ 19 ∧ ∀ r ∈ L, GRow β r)
/-- the class's board b -/
def CBd (b : Nat) (M : Mw) (β : Bw) (L : Lw) : Prop :=
  (∀ j, (j < 8 ∧ j ≠ 6 ∧ j ≠ 7) → M.1 0 b 0 j = nI (β 0 0 j)) ∧ (∃ a c : Nat, M.1 0 b 0 6 = nI a ∧ M.1 0 b 0 7 = nI c ∧ a + c = L.length) ∧
  (∀ t, t < β 0 0 5 → ∀ j, j < 7 → M.1 4 b t j = nI (β 4 t j)) ∧
  (∀ t, t < β 0 0 5 → ∀ n, n < β 4 t 6 → M.1 6 b t n = nI (β 6 t n) ∧ M.1 8 b t n = nI (β 8 t n)) ∧
  (∀ w, w < β 0 0 4 → M.1 1 b 0 w = nI (β 1 0 w) + (-1) ∧ M.1 2 b 0 w = nI (β 2 0 w)) ∧
  (∀ t, t < β 0 0 5 → ∀ j, j < 2 → M.1 10 b t j = nI (β 10 t j)) ∧
  (∀ i, i < L.length → L[i]? = some (row5 (M.1 12 b i)))
theorem CBd.fr {b : Nat} {M M' : Mw} {β : Bw} {L : Lw} (h : CBd b M β L) (hf : ∀ κ, κ ≤ 12 → M'.1 κ b = M.1 κ b) : CBd b M' β L := by
  unfold CBd at h ⊢
  rw [hf 0 (by omega), hf 4 (by omega), hf 6 (by omega), hf 8 (by omega), hf 1 (by omega), hf 2 (by omega), hf 10 (by omega), hf 12 (by omega)]
  exact h
/-- the same, with its two counts of injections -/
def CBs (b : Nat) (M : Mw) (β : Bw) (L : Lw) : Prop := CBd b M β L ∧ M.1 0 b 0 6 = nI (β 0 0 6) ∧ M.1 0 b 0 7 = nI (β 0 0 7) ∧ β 0 0 6 + β 0 0 7 = L.length
theorem CBs.d {b : Nat} {M : Mw} {β : Bw} {L : Lw} (h : CBs b M β L) : CBd b M β L := h.1
theorem CBs.fr {b : Nat} {M M' : Mw} {β : Bw} {L : Lw} (h : CBs b M β L) (hf : ∀ κ, κ ≤ 12 → M'.1 κ b = M.1 κ b) : CBs b M' β L := ⟨h.1.fr hf, by rw [hf 0 (by omega)]; exact h.2.1, by rw [hf 0 (by omega)]; exact h.2.2.1, h.2.2.2⟩
theorem CBs.c {b : Nat} {M : Mw} {β : Bw} {L : Lw} (h : CBs b M β L) (j : Nat) (hj : j < 8) : M.1 0 b 0 j = nI (β 0 0 j) := by
  by_cases c6 : j = 6
  · rw [c6]; exact h.2.1
  by_cases c7 : j = 7
  · rw [c7]; exact h.2.2.1
  exact h.1.1 j ⟨hj, c6, c7⟩
theorem CBs.mk' {b : Nat} {M : Mw} {β : Bw} {L : Lw} (h : (∀ j, j < 8 → M.1 0 b 0 j = nI (β 0 0 j)) ∧ β 0 0 6 + β 0 0 7 = L.length ∧
  (∀ t, t < β 0 0 5 → ∀ j, j < 7 → M.1 4 b t j = nI (β 4 t j)) ∧
  (∀ t, t < β 0 0 5 → ∀ n, n < β 4 t 6 → M.1 6 b t n = nI (β 6 t n) ∧ M.1 8 b t n = nI (β 8 t n)) ∧
  (∀ w, w < β 0 0 4 → M.1 1 b 0 w = nI (β 1 0 w) + (-1) ∧ M.1 2 b 0 w = nI (β 2 0 w)) ∧
  (∀ t, t < β 0 0 5 → ∀ j, j < 2 → M.1 10 b t j = nI (β 10 t j)) ∧
  (∀ i, i < L.length → L[i]? = some (row5 (M.1 12 b i)))) : CBs b M β L :=
  ⟨⟨fun j q => h.1 j q.1, ⟨_, _, h.1 6 (by omega), h.1 7 (by omega), h.2.1⟩, h.2.2⟩, h.1 6 (by omega), h.1 7 (by omega), h.2.1⟩
theorem CBs.st {b : Nat} {M : Mw} {β : Bw} {L : Lw} (h : CBs b M β L) : (∀ j, j < 8 → M.1 0 b 0 j = nI (β 0 0 j)) ∧ β 0 0 6 + β 0 0 7 = L.length ∧
  (∀ t, t < β 0 0 5 → ∀ j, j < 7 → M.1 4 b t j = nI (β 4 t j)) ∧
  (∀ t, t < β 0 0 5 → ∀ n, n < β 4 t 6 → M.1 6 b t n = nI (β 6 t n) ∧ M.1 8 b t n = nI (β 8 t n)) ∧
  (∀ w, w < β 0 0 4 → M.1 1 b 0 w = nI (β 1 0 w) + (-1) ∧ M.1 2 b 0 w = nI (β 2 0 w)) ∧
  (∀ t, t < β 0 0 5 → ∀ j, j < 2 → M.1 10 b t j = nI (β 10 t j)) ∧
  (∀ i, i < L.length → L[i]? = some (row5 (M.1 12 b i))) := ⟨h.c, h.2.2.2, h.1.2.2⟩
/-- the kind of the first injection that changes a node of a job -/
def chg (L : Lw) (t job node : Int32) : Int32 := match L with
  | [] => -1
  | r :: L => if r.1 ≠ 5 ∧ r.2.1 = t ∧ r.2.2.2.1 = node ∧ r.2.2.1 ≤ job ∧ job < r.2.2.1 + r.2.2.2.2 then r.1 else chg L t job node
theorem chg_hit {L : Lw} {r : Rw} {t job node : Int32} (h : r.1 ≠ 5 ∧ r.2.1 = t ∧ r.2.2.2.1 = node ∧ r.2.2.1 ≤ job ∧ job < r.2.2.1 + r.2.2.2.2) : chg (r :: L) t job node = r.1 := if_pos h
theorem chg_miss {L : Lw} {r : Rw} {t job node : Int32} (h : ¬ (r.1 ≠ 5 ∧ r.2.1 = t ∧ r.2.2.2.1 = node ∧ r.2.2.1 ≤ job ∧ job < r.2.2.1 + r.2.2.2.2)) : chg (r :: L) t job node = chg L t job node := if_neg h
theorem chg_hitF {L : Lw} {f : Nat → Int32} {t job node : Int32} (h : f 0 ≠ 5 ∧ f 1 = t ∧ f 3 = node ∧ f 2 ≤ job ∧ job < f 2 + f 4) : chg (row5 f :: L) t job node = f 0 := chg_hit h
theorem chg_missF {L : Lw} {f : Nat → Int32} {t job node : Int32} (h : ¬ (f 0 ≠ 5 ∧ f 1 = t ∧ f 3 = node ∧ f 2 ≤ job ∧ job < f 2 + f 4)) : chg (row5 f :: L) t job node = chg L t job node := chg_miss h
theorem chg_hitT {L : Lw} {a b c d e : Int32} {t job node : Int32} (h : a ≠ 5 ∧ b = t ∧ d = node ∧ c ≤ job ∧ job < c + e) : chg ((a, b, c, d, e) :: L) t job node = a := chg_hit h
theorem chg_missT {L : Lw} {a b c d e : Int32} {t job node : Int32} (h : ¬ (a ≠ 5 ∧ b = t ∧ d = node ∧ c ≤ job ∧ job < c + e)) : chg ((a, b, c, d, e) :: L) t job node = chg L t job node := chg_miss h
theorem drop_row {L : Lw} {i : Nat} {r : Rw} (h : L[i]? = some r) : L.drop i = r :: L.drop (i + 1) := by
  obtain ⟨h1, h2⟩ := List.getElem?_eq_some_iff.mp h
  rw [List.drop_eq_getElem_cons h1, h2]
theorem c_chg {b : Nat} {M : Mw} {β : Bw} {L : Lw} (hL : L.length ≤ 19) (h : CBd b M β L) (t job node : Int32) : F_X0_changeAt b t job node M = some (chg L t job node) := by
  obtain ⟨-, ⟨ca, cc, h6, h7, hl⟩, -, -, -, -, hr⟩ := h
  have hn : M.1 0 b 0 6 + M.1 0 b 0 7 = nI L.length := by rw [h6, h7, nI_add, hl]
  have key : it (fun _ => none) (B_X0_changeAt_3 b t job node M) FU (nI 0) = some (chg L t job node) := it_forN (n := L.length) (P := fun i => chg (L.drop i) t job node = chg L t job node) (Q := fun o => o = some (chg L t job node)) (fun k i hi hP => by
    unfold B_X0_changeAt_3
    rw [hn, if_neg (nI_ge hi (by omega)), if_pos (inb_nI (by omega) (by omega)), clampI (by omega)]
    simp only [bd_eq, nI_1]
    rw [drop_row (hr i hi)] at hP
    clear hr
    generalize M.1 12 b i = f at hP ⊢
    by_cases c1 : f 0 = 5
    · rw [if_pos c1]
      rw [chg_missF (fun q => q.1 c1)] at hP
      exact Or.inl ⟨rfl, hP⟩
    rw [if_neg c1]
    by_cases c2 : f 1 = t
    case neg =>
      rw [if_neg c2]
      rw [chg_missF (fun q => c2 q.2.1)] at hP
      exact Or.inl ⟨rfl, hP⟩
    rw [if_pos c2]
    by_cases c3 : f 3 = node
    case neg =>
      rw [if_neg c3]
      rw [chg_missF (fun q => c3 q.2.2.1)] at hP
      exact Or.inl ⟨rfl, hP⟩
    rw [if_pos c3]
    by_cases c4 : job < f 2
    · rw [if_pos c4]
      rw [chg_missF (fun q => absurd q.2.2.2.1 (Int32.not_le.mpr c4))] at hP
      exact Or.inl ⟨rfl, hP⟩
    rw [if_neg c4]
    by_cases c5 : f 2 + f 4 ≤ job
    · rw [if_pos c5]
      rw [chg_missF (fun q => Int32.not_lt.mpr c5 q.2.2.2.2)] at hP
      exact Or.inl ⟨rfl, hP⟩
    rw [if_neg c5]
    rw [chg_hitF ⟨c1, c2, c3, Int32.not_lt.mp c4, Int32.not_le.mp c5⟩] at hP
    exact Or.inr (by rw [hP])) (fun k hP => by
    unfold B_X0_changeAt_3
    rw [hn, if_pos (nI_le (Nat.le_refl _) (by omega))]
    rw [List.drop_length] at hP
    rw [← hP]
    rfl) FU 0 (Nat.zero_le _) (by unfold FU; omega) (by rw [List.drop_zero])
  rw [nI_0] at key
  unfold F_X0_changeAt
  exact key
