/-! WHAT HOLDS BETWEEN THE CALLS -/
def FOx (x : UInt32) : Prop := x.toNat ≤ 1065353216
def FSx (n : Nat) (d : UInt64) : Prop := d.toNat ≤ (FP.i2d (nI n)).toNat
/-- the costs and ways of a task: node by node from the last one on -/
def vN (β : Bw) (t w n : Nat) (g : Nat → Nat) : Nat := match w with
  | 0 => β 6 t n + (match scl (β 8 t n) with | [] => 0 | x :: l => l.foldl (fun a k => min a (g k)) (g x))
  | 1 => β 6 t n + (scl (β 8 t n)).foldl (fun a k => max a (g k)) 0
  | _ => if scl (β 8 t n) = [] then 1 else (scl (β 8 t n)).foldl (fun a k => a + g k) 0
def bst (β : Bw) (t w : Nat) : Nat → Nat → Nat
  | 0 => fun _ => 0
  | d + 1 => fun n => if n = β 4 t 6 - 1 - d then vN β t w n (bst β t w d) else bst β t w d n
def goN (β : Bw) (t w : Nat) : Nat := bst β t w (β 4 t 6) 0
/-- the reference's board, as told -/
def RWd (f : Nat → Int32) (β : Bw) (L : Lw) : Prop :=
  (f 0 = nI (β 0 0 0) ∧ f 1 = nI (β 0 0 1) ∧ f 2 = nI (β 0 0 2) ∧ f 3 = nI (β 0 0 4) ∧ f 4 = nI (β 0 0 5) ∧ f 5 = nI (β 0 0 6) ∧ f 6 = nI (β 0 0 7) ∧ f 7 = nI (β 0 0 3)) ∧
  (∀ t, t < β 0 0 5 → ∀ j, j < 7 → f (11 + 7 * t + j) = nI (β 4 t j)) ∧
  (∀ t, t < β 0 0 5 → ∀ n, n < β 4 t 6 → f (46 + 2 * (6 * t + n)) = nI (β 6 t n) ∧ ∃ s : Nat, s < 64 ∧ f (46 + 2 * (6 * t + n) + 1) = nI s ∧ ∀ k, s.testBit k = decide (k < n ∧ (β 8 t k).testBit n = true)) ∧
  (∀ w, w < β 0 0 4 → f (8 + w) = nI (β 1 0 w) + (-1)) ∧
  (∀ i, i < L.length → L[i]? = some (row5 (fun p => f (106 + 5 * i + p))))
/-- a board between the calls -/
def Gx (β : Bw) (L : Lw) : Prop :=
  GB β L ∧ β 0 0 6 ≤ 8 ∧ β 0 0 7 ≤ 10 ∧ β 0 0 6 + β 0 0 7 = L.length ∧ (β 0 0 3 = 0 → β 0 0 0 = 0 ∧ β 0 0 1 = 0 ∧ β 0 0 2 = 0 ∧ β 0 0 4 = 0 ∧ β 0 0 5 = 0 ∧ L = []) ∧ (0 < β 0 0 3 → 20 ≤ β 0 0 0 ∧ 5 ≤ β 0 0 1) ∧ β 0 0 3 ≤ 1000 ∧
  (∀ t, t < β 0 0 5 → β 10 t 0 = goN β t 0 ∧ β 10 t 1 = goN β t 1)
/-- how soon something is caught (one more; 0: never) -/
def cau (b who : Nat) (sl : Bool) : List (Nat × Nat × Nat × Nat) → Nat
  | [] => 0
  | r :: R => if b ≤ r.1 ∧ r.2.2.1 = who ∧ decide (6 ≤ r.2.1) = sl then r.1 - b + 1 else cau b who sl R
/-- one injection more -/
def exR (kd t j n : Nat) : Rw := (nI kd, nI t, nI j, if kd = 4 then -1 else nI n, 1)
def exC (β : Bw) (L : Lw) (t kd j n : Nat) : Nat := cau ((rn β L (β 0 0 0)).2.2.1 t j) t false (rcs β (L ++ [exR kd t j n]) (β 0 0 0))
def exN (β : Bw) (t kd : Nat) : Nat := if kd = 4 then 1 else β 4 t 6
/-- greatest (one more), and how many uncaught: of one job, of all -/
def exJ (β : Bw) (L : Lw) (t kd j : Nat) (p : Nat × Nat) : Nat → Nat × Nat
  | 0 => p
  | n + 1 => (max (exJ β L t kd j p n).1 (exC β L t kd j n), (exJ β L t kd j p n).2 + (if exC β L t kd j n = 0 then 1 else 0))
def exA (β : Bw) (L : Lw) (t kd : Nat) : Nat → Nat × Nat
  | 0 => (0, 0)
  | j + 1 => exJ β L t kd j (exA β L t kd j) (exN β t kd)
def exT (β : Bw) (L : Lw) (t kd : Nat) : Nat × Nat := exA β L t kd (min 51 ((rn β L (β 0 0 0)).1.1.1 t 1))
def TrC (M : Mw) (β : Bw) (L : Lw) : Prop := Zz 1 M ∧ ∀ t, t < β 0 0 5 → ∀ kd, kd < 5 → M.1 40 0 t kd = -1 ∨ (M.1 40 0 t kd = nI (exT β L t kd).2 ∧ M.1 38 0 t kd = nI (exT β L t kd).1 + (-1))
/-- the tape, the fault, the images, the law's scratch -/
def ITp (M : Mw) : Prop := (∃ S : Nat, S ≤ 1000 ∧ M.1 15 0 0 1 = nI S ∧ M.1 50 0 0 5 = nI S ∧ ∀ j, j < S → M.1 16 0 0 j = M.1 54 0 0 j &&& 255 ∧ (M.1 54 0 0 j).toInt8.toInt32 = M.1 54 0 0 j) ∧ M.1 13 0 0 2 = M.1 50 0 0 12 ∧ M.1 13 0 0 3 = M.1 50 0 0 13 ∧
  (∀ k, k < 3 → (M.1 43 0 0 k = 0 ∧ M.1 53 0 0 k = 0) ∨ ∃ (β : Bw) (L : Lw), M.1 43 0 0 k = 1 ∧ M.1 53 0 0 k = 1 ∧ Gx β L ∧ CBs (k + 2) M β L ∧ RWd (fun i => M.1 52 0 0 (201 * k + i)) β L) ∧
  M.1 21 0 0 1 = -1 ∧ M.1 21 0 0 2 = 0
def IBd (M : Mw) (β : Bw) (L : Lw) : Prop := Gx β L ∧ CBs 1 M β L ∧ RWd (M.1 51 0 0) β L
def InvB (M : Mw) (β : Bw) (L : Lw) : Prop := ITp M ∧ IBd M β L ∧ CRn 0 M β L (β 0 0 0) ∧ (∃ k, k ≤ β 0 0 0 ∧ CRn 1 M β L k) ∧ TrC M β L
def Inv (M : Mw) : Prop := ∃ (β : Bw) (L : Lw), InvB M β L
/-- cells that nothing is said of -/
abbrev SIx : Nat → Nat → Prop := fun κ b => (κ ≤ 12 ∧ (b = 7 ∨ b = 0)) ∨ (23 ≤ κ ∧ κ ≤ 35 ∧ b = 2) ∨ κ = 14 ∨ (17 ≤ κ ∧ κ ≤ 20) ∨ κ = 22 ∨ κ = 50 ∨ 55 ≤ κ
def OnI (M M' : Mw) : Prop := Fr SIx M M' ∧ M'.1 50 0 0 5 = M.1 50 0 0 5 ∧ M'.1 50 0 0 12 = M.1 50 0 0 12 ∧ M'.1 50 0 0 13 = M.1 50 0 0 13
theorem OnI.rfl {M : Mw} : OnI M M := ⟨Fr.rfl, Eq.refl _, Eq.refl _, Eq.refl _⟩
theorem OnI.trans {M M1 M2 : Mw} (h : OnI M M1) (h2 : OnI M1 M2) : OnI M M2 := ⟨h.1.trans h2.1, h2.2.1.trans h.2.1, h2.2.2.1.trans h.2.2.1, h2.2.2.2.trans h.2.2.2⟩
theorem OnT.i {M M' : Mw} (h : OnT M M') : OnI M M' := ⟨h.1.mono (fun κ _ q => by omega), h.2 5 (by decide) (by decide) (by decide) (by decide), h.2 12 (by decide) (by decide) (by decide) (by decide), h.2 13 (by decide) (by decide) (by decide) (by decide)⟩
theorem CRn.fr {b : Nat} {M M' : Mw} {β : Bw} {L : Lw} {k : Nat} (h : CRn b M β L k) (h1 : ∀ κ, κ ≤ 12 → M'.1 κ (b + 5) = M.1 κ (b + 5)) (h2 : ∀ κ, 23 ≤ κ → κ ≤ 35 → M'.1 κ b = M.1 κ b ∧ M'.2.1 κ b = M.2.1 κ b ∧ M'.2.2 κ b = M.2.2 κ b) : CRn b M' β L k := by
  obtain ⟨a1, a2, ⟨x, a3⟩, a4, a5, a6, a7⟩ := h
  have e23 := (h2 23 (by decide) (by decide)).1
  refine ⟨a1.fr h1, fun t ht => ?_, ⟨x, a3.w e23 (h2 33 (by decide) (by decide)).1 (h2 34 (by decide) (by decide)).1 (h2 26 (by decide) (by decide)).1 (h2 28 (by decide) (by decide)).1⟩, a4.fr (by rw [e23]) (h2 31 (by decide) (by decide)).1 (h2 32 (by decide) (by decide)).1, a5.same (h2 30 (by decide) (by decide)).1 (fun _ => Eq.refl _), by rw [e23]; exact a6, by rw [e23]; exact a7⟩
  obtain ⟨o1, o2, o3⟩ := h2 25 (by decide) (by decide)
  exact (a2 t ht).to (by rw [o1]) (by rw [o2]) (by rw [o3]) VE.rfl
theorem ITp.i {M M' : Mw} (h : ITp M) (ho : OnI M M') : ITp M' := by
  obtain ⟨⟨S, s1, s2, s3, s4⟩, f1, f2, im, l1, l2⟩ := h
  obtain ⟨hF, e5, e12, e13⟩ := ho
  have e : ∀ κ, 13 ≤ κ → κ ≤ 54 → ¬ (23 ≤ κ ∧ κ ≤ 35) → κ ≠ 14 → ¬ (17 ≤ κ ∧ κ ≤ 20) → κ ≠ 22 → κ ≠ 50 → M'.1 κ = M.1 κ := fun κ a b c d e f g => hF.k1 (fun b' q => by omega)
  refine ⟨⟨S, s1, by rw [e 15 (by decide) (by decide) (by decide) (by decide) (by decide) (by decide) (by decide)]; exact s2, by rw [e5]; exact s3, fun j hj => by rw [e 16 (by decide) (by decide) (by decide) (by decide) (by decide) (by decide) (by decide), e 54 (by decide) (by decide) (by decide) (by decide) (by decide) (by decide) (by decide)]; exact s4 j hj⟩, ?_, ?_, fun k hk => ?_, ?_, ?_⟩
  · rw [e 13 (by decide) (by decide) (by decide) (by decide) (by decide) (by decide) (by decide), e12]; exact f1
  · rw [e 13 (by decide) (by decide) (by decide) (by decide) (by decide) (by decide) (by decide), e13]; exact f2
  · rw [e 43 (by decide) (by decide) (by decide) (by decide) (by decide) (by decide) (by decide), e 53 (by decide) (by decide) (by decide) (by decide) (by decide) (by decide) (by decide), e 52 (by decide) (by decide) (by decide) (by decide) (by decide) (by decide) (by decide)]
    rcases im k hk with q | ⟨β, L, q1, q2, q3, q4, q5⟩
    · exact Or.inl q
    · exact Or.inr ⟨β, L, q1, q2, q3, q4.fr (fun κ hκ => (hF κ (k + 2) (fun q => by omega)).1), q5⟩
  · rw [e 21 (by decide) (by decide) (by decide) (by decide) (by decide) (by decide) (by decide)]; exact l1
  · rw [e 21 (by decide) (by decide) (by decide) (by decide) (by decide) (by decide) (by decide)]; exact l2
theorem IBd.i {M M' : Mw} {β : Bw} {L : Lw} (h : IBd M β L) (ho : OnI M M') : IBd M' β L := by
  obtain ⟨h1, h2, h3⟩ := h
  refine ⟨h1, h2.fr (fun κ hκ => (ho.1 κ 1 (fun q => by omega)).1), ?_⟩
  rw [ho.1.k1 (κ := 51) (fun b q => by omega)]
  exact h3
theorem InvB.i {M M' : Mw} {β : Bw} {L : Lw} (h : InvB M β L) (ho : OnI M M') : InvB M' β L := by
  obtain ⟨h1, h2, h3, ⟨k, hk, h4⟩, h5⟩ := h
  refine ⟨h1.i ho, h2.i ho, h3.fr (fun κ hκ => (ho.1 κ 5 (fun q => by omega)).1) (fun κ a b => ho.1 κ 0 (fun q => by omega)), ⟨k, hk, h4.fr (fun κ hκ => (ho.1 κ 6 (fun q => by omega)).1) (fun κ a b => ho.1 κ 1 (fun q => by omega))⟩, h5.1.fr (ho.1 25 1 (fun q => by omega)).1, fun t ht kd hkd => ?_⟩
  rw [ho.1.k1 (κ := 40) (fun b q => by omega), ho.1.k1 (κ := 38) (fun b q => by omega)]
  exact h5.2 t ht kd hkd
theorem Inv.i {M M' : Mw} (h : Inv M) (ho : OnI M M') : Inv M' := by
  obtain ⟨β, L, h⟩ := h
  exact ⟨β, L, h.i ho⟩
/-- the view moves on -/
theorem InvB.view {M M' : Mw} {β : Bw} {L : Lw} {k : Nat} (h : InvB M β L) (hk : k ≤ β 0 0 0) (hF : Fr (SRun 1) M M') (hv : CRn 1 M' β L k) (hz : Zz 1 M') : InvB M' β L := by
  obtain ⟨⟨⟨S, s1, s2, s3, s4⟩, f1, f2, im, l1, l2⟩, ⟨b1, b2, b3⟩, h3, -, h5⟩ := h
  have e : ∀ κ, ¬ (23 ≤ κ ∧ κ ≤ 35) → M'.1 κ = M.1 κ := fun κ a => hF.k1 (fun b' q => a ⟨q.1, q.2.1⟩)
  refine ⟨⟨⟨S, s1, by rw [e 15 (by decide)]; exact s2, by rw [e 50 (by decide)]; exact s3, fun j hj => by rw [e 16 (by decide), e 54 (by decide)]; exact s4 j hj⟩, ?_, ?_, fun k hk => ?_, ?_, ?_⟩, ⟨b1, b2.fr (fun κ hκ => by rw [e κ (by omega)]), by rw [e 51 (by decide)]; exact b3⟩, h3.fr (fun κ hκ => by rw [e κ (by omega)]) (fun κ a b => hF κ 0 (fun q => by have := q.2.2; omega)), ⟨k, hk, hv⟩, hz, fun t ht kd hkd => ?_⟩
  · rw [e 13 (by decide), e 50 (by decide)]; exact f1
  · rw [e 13 (by decide), e 50 (by decide)]; exact f2
  · rw [e 43 (by decide), e 53 (by decide), e 52 (by decide)]
    rcases im k hk with q | ⟨β, L, q1, q2, q3, q4, q5⟩
    · exact Or.inl q
    · exact Or.inr ⟨β, L, q1, q2, q3, q4.fr (fun κ hκ => by rw [e κ (by omega)]), q5⟩
  · rw [e 21 (by decide)]; exact l1
  · rw [e 21 (by decide)]; exact l2
  · rw [e 40 (by decide), e 38 (by decide)]
    exact h5.2 t ht kd hkd
/-! the reference, as told -/
theorem Gx.len {β : Bw} {L : Lw} (h : Gx β L) : L.length ≤ 18 := by
  obtain ⟨-, h6, h7, hl, -⟩ := h
  omega
theorem lrf_told {M : Mw} {L : Lw} {I : Nat} (h23 : M.1 50 0 0 23 = -1) (hI : I ≤ 1000) (h : ∀ i, i < I → L[i]? = some (rowR M i)) (hl : L.length = I) : LRf M 0 I = L := by
  unfold LRf
  rw [List.filter_eq_self.mpr (fun k hk => by
    have := List.mem_range'_1.mp hk
    rw [h23]
    exact decide_eq_true (nI_nm1 (by omega)))]
  apply List.ext_getElem?
  intro i
  rw [List.getElem?_map]
  by_cases c : i < I
  · rw [h i c, List.getElem?_range' (by omega)]
    show some (rowR M (0 + 1 * i)) = _
    rw [Nat.zero_add, Nat.one_mul]
  · have e1 : L[i]? = none := List.getElem?_eq_none (by omega)
    have e2 : (List.range' 0 (I - 0))[i]? = none := List.getElem?_eq_none (by rw [List.length_range']; omega)
    rw [e1, e2]
    rfl
theorem rbd_told {M : Mw} {β : Bw} {L : Lw} (hx : Gx β L) (hw : RWd (M.1 51 0 0) β L) (h23 : M.1 50 0 0 23 = -1) (h24 : M.1 50 0 0 24 = -1) (h27 : M.1 50 0 0 27 = 0) : RBd M β L := by
  obtain ⟨⟨w0, w1, w2, w3, w4, w5, w6, w7⟩, wt, wn, ww, wi⟩ := hw
  have hT5 := hx.1.1.2.2.2.2
  have hlen := hx.len
  have hll := hx.2.2.2.1
  have ne : ∀ t, t < β 0 0 5 → ¬ nI t = M.1 50 0 0 24 := fun t ht => by rw [h24]; exact nI_nm1 (by omega)
  refine ⟨⟨w0, w1, w2, w3, w4⟩, fun t ht j hj _ _ => wt t ht j hj, fun t ht => ?_, wn, ww, ⟨L.length, by omega, ?_, lrf_told h23 (by omega) wi rfl, fun i hi => ?_⟩⟩
  · rw [if_neg (ne t ht), if_neg (ne t ht)]
    exact ⟨wt t ht 2 (by omega), wt t ht 3 (by omega)⟩
  · rw [w5, w6, h27, nI_add, hll, Int32.add_zero]
  · exact hx.1.2.2.2.2.2.2.2.2 _ (List.mem_of_getElem? (wi i hi))
theorem r_asTold (M : Mw) : ∃ M', F_X10_asTold M = some M' ∧ M'.1 50 0 0 23 = -1 ∧ M'.1 50 0 0 24 = -1 ∧ M'.1 50 0 0 27 = 0 ∧ Fr (fun κ _ => κ = 50) M M' ∧ (∀ j, j ≠ 23 → j ≠ 24 → j ≠ 27 → M'.1 50 0 0 j = M.1 50 0 0 j) := by
  refine ⟨_, rfl, ?_, ?_, ?_, ?_, fun j a b c => ?_⟩
  · simp [uI1]
  · simp [uI1]
  · simp [uI1]
  · exact ((Fr.uI (S := fun κ _ => κ = 50) rfl).trans (Fr.uI (S := fun κ _ => κ = 50) rfl)).trans (Fr.uI (S := fun κ _ => κ = 50) rfl)
  · simp [uI1, a, b, c]
