/-! THE CLASS'S PROBE: the trial's board, its run from where the view stands -/
theorem grow_ex {β : Bw} {kd t j n : Nat} (hk : kd < 5) (ht : t < β 0 0 5) (hj : j ≤ 50) (hn : kd ≠ 4 → n < β 4 t 6) : GRow β (exR kd t j n) := by
  unfold GRow exR
  by_cases c : kd = 4
  · right
    left
    refine ⟨t, j, 1, ht, hj, Nat.le_refl 1, by omega, ?_⟩
    rw [if_pos c, c]
    rfl
  · right
    right
    refine ⟨kd, t, j, n, 1, by omega, ht, hj, hn c, Nat.le_refl 1, by omega, ?_⟩
    rw [if_neg c]
    rfl
theorem GB.ex {β : Bw} {L : Lw} (h : GB β L) (hl : L.length ≤ 18) {kd t j n : Nat} (hk : kd < 5) (ht : t < β 0 0 5) (hj : j ≤ 50) (hn : kd ≠ 4 → n < β 4 t 6) : GB β (L ++ [exR kd t j n]) := by
  obtain ⟨g1, g2, g3, g4, g5, g6, g7, g8, g9⟩ := h
  refine ⟨g1, g2, g3, g4, g5, g6, g7, ?_, fun r hr => ?_⟩
  · rw [List.length_append]
    show L.length + 1 ≤ 19
    omega
  · rcases List.mem_append.mp hr with q | q
    · exact g9 r q
    · rw [List.mem_singleton.mp q]
      exact grow_ex hk ht hj hn
def C7 (M : Mw) (β : Bw) (L : Lw) : Prop :=
  (∀ j, (j < 8 ∧ j ≠ 6 ∧ j ≠ 7) → M.1 0 7 0 j = nI (β 0 0 j)) ∧ (∃ a c : Nat, M.1 0 7 0 6 = nI a ∧ M.1 0 7 0 7 = nI c ∧ a + c = L.length + 1) ∧
  (∀ t, t < β 0 0 5 → ∀ j, j < 7 → M.1 4 7 t j = nI (β 4 t j)) ∧
  (∀ t, t < β 0 0 5 → ∀ n, n < β 4 t 6 → M.1 6 7 t n = nI (β 6 t n) ∧ M.1 8 7 t n = nI (β 8 t n)) ∧
  (∀ w, w < β 0 0 4 → M.1 1 7 0 w = nI (β 1 0 w) + (-1) ∧ M.1 2 7 0 w = nI (β 2 0 w)) ∧
  (∀ t, t < β 0 0 5 → ∀ j, j < 2 → M.1 10 7 t j = nI (β 10 t j)) ∧
  (∀ i, i < L.length → L[i]? = some (row5 (M.1 12 7 i)))
theorem C7.fr {M M' : Mw} {β : Bw} {L : Lw} (h : C7 M β L) (hf : ∀ κ, κ ≤ 12 → M'.1 κ 7 = M.1 κ 7) : C7 M' β L := by
  unfold C7 at h ⊢
  rw [hf 0 (by omega), hf 4 (by omega), hf 6 (by omega), hf 8 (by omega), hf 1 (by omega), hf 2 (by omega), hf 10 (by omega), hf 12 (by omega)]
  exact h
theorem C7.of {M : Mw} {β : Bw} {L : Lw} (h : CBd 7 M β L) : C7 (uIw M 0 7 0 7 (M.1 0 7 0 7 + 1)) β L := by
  obtain ⟨a1, ⟨a, c, h6, h7, hac⟩, a3, a4, a5, a6, a7⟩ := h
  refine ⟨fun j hj => ?_, ⟨a, c + 1, ?_, ?_, by omega⟩, fun t ht j hj => ?_, fun t ht n hn => ?_, fun w hw => ?_, fun t ht j hj => ?_, fun i hi => ?_⟩
  · rw [uI1, if_neg (fun q => hj.2.2 q.2.2.2)]
    exact a1 j hj
  · rw [uI1, if_neg (fun q => absurd q.2.2.2 (by decide))]
    exact h6
  · rw [uI1, if_pos ⟨rfl, rfl, rfl, rfl⟩, h7, nI_1]
  · rw [uI_k (by decide)]
    exact a3 t ht j hj
  · rw [uI_k (by decide), uI_k (by decide)]
    exact a4 t ht n hn
  · rw [uI_k (by decide), uI_k (by decide)]
    exact a5 w hw
  · rw [uI_k (by decide)]
    exact a6 t ht j hj
  · rw [uI_k (by decide)]
    exact a7 i hi
theorem row4_ex {kd t j n : Nat} (hk : kd < 5) : row4 (nI kd) (nI t) (nI j) (nI n) 1 = exR kd t j n := by
  have k5 : ¬ nI kd = 5 := exR_5 (t := t) (j := j) (n := n) hk
  unfold row4 exR
  rw [if_neg k5]
  by_cases c : kd = 4
  · rw [if_pos (Or.inl (by rw [c]; rfl)), if_pos c]
  · rw [if_neg (fun q => ?_), if_neg c]
    rcases q with q | q
    · exact c ((nI_eq (a := kd) (b := 4) (by omega) (by omega)).mp q)
    · exact k5 q
theorem C7.set {M : Mw} {β : Bw} {L : Lw} (h : C7 M β L) (hl : L.length ≤ 18) {kd t j n : Nat} (hk : kd < 5) : ∃ M', F_X0_setInjection (2 + 5) (nI L.length) (nI kd) (nI t) (nI j) (nI n) 1 M = some M' ∧ CBd 7 M' β (L ++ [exR kd t j n]) ∧ C7 M' β L ∧ Fr (fun κ b' => κ = 12 ∧ b' = 7) M M' := by
  obtain ⟨M', q1, q2, q3, q4⟩ := c_setInj (b := 7) (i := L.length) (M := M) (by omega) (nI kd) (nI t) (nI j) (nI n) 1
  have e : ∀ κ, κ ≠ 12 → M'.1 κ 7 = M.1 κ 7 := fun κ hκ => (q4 κ 7 (fun q => hκ q.1)).1
  rw [row4_ex hk] at q2
  obtain ⟨a1, a2, a3, a4, a5, a6, a7⟩ := h
  have hlen : (L ++ [exR kd t j n]).length = L.length + 1 := by
    rw [List.length_append]
    rfl
  have b7 : ∀ i, i < L.length → L[i]? = some (row5 (M'.1 12 7 i)) := fun i hi => by
    rw [q3 i (by omega)]
    exact a7 i hi
  refine ⟨M', q1, ⟨?_, ?_, ?_, ?_, ?_, ?_, fun i hi => ?_⟩, ⟨?_, ?_, ?_, ?_, ?_, ?_, b7⟩, q4⟩
  · rw [e 0 (by decide)]; exact a1
  · rw [e 0 (by decide), hlen]; exact a2
  · rw [e 4 (by decide)]; exact a3
  · rw [e 6 (by decide), e 8 (by decide)]; exact a4
  · rw [e 1 (by decide), e 2 (by decide)]; exact a5
  · rw [e 10 (by decide)]; exact a6
  · rw [hlen] at hi
    by_cases c : i < L.length
    · rw [List.getElem?_append_left c]
      exact b7 i c
    · obtain rfl : i = L.length := by omega
      rw [q2, List.getElem?_append_right (Nat.le_refl _), Nat.sub_self]
      rfl
  · rw [e 0 (by decide)]; exact a1
  · rw [e 0 (by decide)]; exact a2
  · rw [e 4 (by decide)]; exact a3
  · rw [e 6 (by decide), e 8 (by decide)]; exact a4
  · rw [e 1 (by decide), e 2 (by decide)]; exact a5
  · rw [e 10 (by decide)]; exact a6
def acT (β : Bw) (a c : Nat) : Bw := fun κ i j => if κ = 0 ∧ i = 0 ∧ j = 6 then a else if κ = 0 ∧ i = 0 ∧ j = 7 then c else β κ i j
theorem GB.acT {β : Bw} {L : Lw} (h : GB β L) (a c : Nat) : GB (acT β a c) L := ⟨h.1, h.2.1, h.2.2.1, h.2.2.2.1, h.2.2.2.2.1, h.2.2.2.2.2.1, h.2.2.2.2.2.2.1, h.2.2.2.2.2.2.2⟩
theorem acT_j {β : Bw} {a c j : Nat} (h6 : j ≠ 6) (h7 : j ≠ 7) : acT β a c 0 0 j = β 0 0 j := by
  unfold acT
  rw [if_neg (fun q => h6 q.2.2), if_neg (fun q => h7 q.2.2)]
theorem CBd.any {b : Nat} {M : Mw} {β : Bw} {L : Lw} (h : CBd b M β L) : ∃ a c, CBs b M (acT β a c) L := by
  obtain ⟨a1, ⟨a, c, h6, h7, hac⟩, a3⟩ := h
  exact ⟨a, c, ⟨fun j hj => by rw [acT_j hj.2.1 hj.2.2]; exact a1 j hj, ⟨a, c, h6, h7, hac⟩, a3⟩, h6, h7, hac⟩
theorem CBd.back {b a c : Nat} {M : Mw} {β : Bw} {L : Lw} (h : CBd b M (acT β a c) L) : CBd b M β L := by
  obtain ⟨a1, a2, a3⟩ := h
  exact ⟨fun j hj => by rw [← acT_j (β := β) (a := a) (c := c) hj.2.1 hj.2.2]; exact a1 j hj, a2, a3⟩
theorem c_copy7 {M : Mw} {β : Bw} {L : Lw} (hg : GB β L) (h : CBd 5 M β L) : ∃ M', F_X0_copyFrom (2 + 5) (0 + 5) M = some M' ∧ CBd 7 M' β L ∧ Fr (fun κ b' => κ ≤ 12 ∧ b' = 7) M M' := by
  obtain ⟨a, c, h2⟩ := h.any
  obtain ⟨M', q1, q2, q3⟩ := c_copy (b := 7) (b1 := 5) (by decide) (hg.acT a c) h2
  exact ⟨M', q1, q2.d.back, q3⟩
/-! a task's state, copied -/
theorem ex_bd {a : Mw} {f : Mw → Option Mw} {P R : Mw → Prop} (ha : P a) (hf : ∀ M2, P M2 → ∃ M', f M2 = some M' ∧ R M') : ∃ M', bd a f = some M' ∧ R M' := hf a ha
def Qc (b i b1 i1 : Nat) (M : Mw) (k : Nat) (M1 : Mw) : Prop := On25 b i M M1 ∧ (∀ f, f < k → f ≠ 11 → f ≤ 14 → M1.1 25 b i f = M.1 25 b1 i1 f) ∧ (11 < k → M1.2.1 25 b i 11 = M.2.1 25 b1 i1 11) ∧ (15 < k → M1.2.1 25 b i 15 = M.2.1 25 b1 i1 15) ∧ (16 < k → M1.2.2 25 b i 16 = M.2.2 25 b1 i1 16)
theorem qc_I {b i b1 i1 j : Nat} {M M1 : Mw} (hne : b1 ≠ b) (hj : j ≤ 14) (hj2 : j ≠ 11) (h : Qc b i b1 i1 M j M1) : Qc b i b1 i1 M (j + 1) (uIw M1 25 b i j (M1.1 25 b1 i1 j)) := by
  obtain ⟨h1, h2, h3, h4, h5⟩ := h
  obtain ⟨o1, o2, o3⟩ := h1 25 b1 i1 (fun q => hne q.2.1)
  refine ⟨h1.trans On25.uI, fun f hf hf2 hf3 => ?_, fun q => ?_, fun q => by omega, fun q => by omega⟩
  · rw [uI1]
    by_cases c : f = j
    · rw [if_pos ⟨rfl, rfl, rfl, c⟩, o1, c]
    · rw [if_neg (fun q => c q.2.2.2)]
      exact h2 f (by omega) hf2 hf3
  · rw [uI2]
    exact h3 (by omega)
theorem qc_F {b i b1 i1 : Nat} {M M1 : Mw} (hne : b1 ≠ b) (h : Qc b i b1 i1 M 11 M1) : Qc b i b1 i1 M 12 (uFw M1 25 b i 11 (M1.2.1 25 b1 i1 11)) := by
  obtain ⟨h1, h2, h3, h4, h5⟩ := h
  obtain ⟨o1, o2, o3⟩ := h1 25 b1 i1 (fun q => hne q.2.1)
  refine ⟨h1.trans On25.uF, fun f hf hf2 hf3 => ?_, fun _ => ?_, fun q => by omega, fun q => by omega⟩
  · rw [uF1]
    exact h2 f (by omega) hf2 hf3
  · rw [uF2, if_pos ⟨rfl, rfl, rfl, rfl⟩, o2]
theorem qc_G {b i b1 i1 : Nat} {M M1 : Mw} (hne : b1 ≠ b) (h : Qc b i b1 i1 M 15 M1) : Qc b i b1 i1 M 16 (uFw M1 25 b i 15 (M1.2.1 25 b1 i1 15)) := by
  obtain ⟨h1, h2, h3, h4, h5⟩ := h
  obtain ⟨o1, o2, o3⟩ := h1 25 b1 i1 (fun q => hne q.2.1)
  refine ⟨h1.trans On25.uF, fun f hf hf2 hf3 => ?_, fun _ => ?_, fun _ => ?_, fun q => by omega⟩
  · rw [uF1]
    exact h2 f (by omega) hf2 hf3
  · rw [uF2, if_neg (fun q => absurd q.2.2.2 (by decide))]
    exact h3 (by omega)
  · rw [uF2, if_pos ⟨rfl, rfl, rfl, rfl⟩, o2]
theorem qc_D {b i b1 i1 : Nat} {M M1 : Mw} (hne : b1 ≠ b) (h : Qc b i b1 i1 M 16 M1) : Qc b i b1 i1 M 17 (uDw M1 25 b i 16 (M1.2.2 25 b1 i1 16)) := by
  obtain ⟨h1, h2, h3, h4, h5⟩ := h
  obtain ⟨o1, o2, o3⟩ := h1 25 b1 i1 (fun q => hne q.2.1)
  refine ⟨h1.trans On25.uD, fun f hf hf2 hf3 => ?_, fun _ => ?_, fun _ => ?_, fun _ => ?_⟩
  · rw [uD1]
    exact h2 f (by omega) hf2 hf3
  · rw [uD2]
    exact h3 (by omega)
  · rw [uD2]
    exact h4 (by omega)
  · rw [uD3, if_pos ⟨rfl, rfl, rfl, rfl⟩, o3]
theorem c_copyT {b i b1 i1 : Nat} {M : Mw} (hne : b1 ≠ b) (hz : bz (M.1 25 b1 i1 9) = true) : ∃ M', F_X7_copyFrom b i b1 i1 M = some M' ∧ Qc b i b1 i1 M 17 M' := by
  have h0 : Qc b i b1 i1 M 0 M := ⟨On25.rfl, fun f hf => by omega, fun q => by omega, fun q => by omega, fun q => by omega⟩
  unfold F_X7_copyFrom
  refine ex_bd (P := Qc b i b1 i1 M 1) (qc_I hne (by decide) (by decide) h0) (fun M1 h1 => ?_)
  refine ex_bd (P := Qc b i b1 i1 M 2) (qc_I hne (by decide) (by decide) h1) (fun M2 h2 => ?_)
  refine ex_bd (P := Qc b i b1 i1 M 3) (qc_I hne (by decide) (by decide) h2) (fun M3 h3 => ?_)
  refine ex_bd (P := Qc b i b1 i1 M 4) (qc_I hne (by decide) (by decide) h3) (fun M4 h4 => ?_)
  refine ex_bd (P := Qc b i b1 i1 M 5) (qc_I hne (by decide) (by decide) h4) (fun M5 h5 => ?_)
  refine ex_bd (P := Qc b i b1 i1 M 6) (qc_I hne (by decide) (by decide) h5) (fun M6 h6 => ?_)
  refine ex_bd (P := Qc b i b1 i1 M 7) (qc_I hne (by decide) (by decide) h6) (fun M7 h7 => ?_)
  refine ex_bd (P := Qc b i b1 i1 M 8) (qc_I hne (by decide) (by decide) h7) (fun M8 h8 => ?_)
  refine ex_bd (P := Qc b i b1 i1 M 9) (qc_I hne (by decide) (by decide) h8) (fun M9 h9 => ?_)
  rw [if_pos (show bz (M9.1 25 b1 i1 9) = true by rw [(h9.1 25 b1 i1 (fun q => hne q.2.1)).1]; exact hz)]
  refine ex_bd (P := Qc b i b1 i1 M 10) (qc_I hne (by decide) (by decide) h9) (fun M10 h10 => ?_)
  refine ex_bd (P := Qc b i b1 i1 M 11) (qc_I hne (by decide) (by decide) h10) (fun M11 h11 => ?_)
  refine ex_bd (P := Qc b i b1 i1 M 12) (qc_F hne h11) (fun M12 h12 => ?_)
  refine ex_bd (P := Qc b i b1 i1 M 13) (qc_I hne (by decide) (by decide) h12) (fun M13 h13 => ?_)
  refine ex_bd (P := Qc b i b1 i1 M 14) (qc_I hne (by decide) (by decide) h13) (fun M14 h14 => ?_)
  refine ex_bd (P := Qc b i b1 i1 M 15) (qc_I hne (by decide) (by decide) h14) (fun M15 h15 => ?_)
  refine ex_bd (P := Qc b i b1 i1 M 16) (qc_G hne h15) (fun M16 h16 => ?_)
  refine ex_bd (P := Qc b i b1 i1 M 17) (qc_D hne h16) (fun M17 h17 => ?_)
  exact ⟨M17, rfl, h17⟩
theorem CT.cp {b b1 : Nat} {M M1 : Mw} {β : Bw} {L L' : Lw} {V : Vw} {t : Nat} (h : CT b1 M β L V t) (hq : Qc b t b1 t M 17 M1) (hc : 0 < V.1 t 2 → chV L' V t = chV L V t) : CT b M1 β L' V t := by
  obtain ⟨h0, h1, h2, h3, h5, h6, h7, h8, h9, h10, h12, h13, h14, h11, h15, h16⟩ := h
  obtain ⟨-, g, f11, f15, d16⟩ := hq
  have e : ∀ f, f ≠ 11 → f ≤ 14 → M1.1 25 b t f = M.1 25 b1 t f := fun f a c => g f (by omega) a c
  unfold CT
  rw [e 0 (by decide) (by decide), e 1 (by decide) (by decide), e 2 (by decide) (by decide), e 3 (by decide) (by decide), e 4 (by decide) (by decide), e 5 (by decide) (by decide), e 6 (by decide) (by decide), e 7 (by decide) (by decide), e 8 (by decide) (by decide), e 9 (by decide) (by decide), e 10 (by decide) (by decide), e 12 (by decide) (by decide), e 13 (by decide) (by decide), e 14 (by decide) (by decide), f11 (by decide), f15 (by decide), d16 (by decide)]
  exact ⟨h0, h1, h2, fun q => by rw [hc q]; exact h3 q, h5, h6, h7, h8, h9, h10, h12, h13, h14, h11, h15, h16⟩
