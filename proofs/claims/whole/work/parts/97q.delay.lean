/-! THE TRIAL RUNS ON -/
theorem cau_app {b who : Nat} {sl : Bool} {R X : List (Nat × Nat × Nat × Nat)} (h : cau b who sl R ≠ 0) : cau b who sl (R ++ X) = cau b who sl R := by
  induction R with
  | nil => exact absurd rfl h
  | cons r R ih =>
    have h' : (if b ≤ r.1 ∧ r.2.2.1 = who ∧ decide (6 ≤ r.2.1) = sl then r.1 - b + 1 else cau b who sl R) ≠ 0 := h
    show (if b ≤ r.1 ∧ r.2.2.1 = who ∧ decide (6 ≤ r.2.1) = sl then r.1 - b + 1 else cau b who sl (R ++ X)) = (if b ≤ r.1 ∧ r.2.2.1 = who ∧ decide (6 ≤ r.2.1) = sl then r.1 - b + 1 else cau b who sl R)
    by_cases c : b ≤ r.1 ∧ r.2.2.1 = who ∧ decide (6 ≤ r.2.1) = sl
    · rw [if_pos c, if_pos c]
    · rw [if_neg c] at h'
      rw [if_neg c, if_neg c, ih h']
theorem cau_old {b who : Nat} {sl : Bool} {R : List (Nat × Nat × Nat × Nat)} (h : ∀ r ∈ R, r.1 < b) : cau b who sl R = 0 := by
  induction R with
  | nil => rfl
  | cons r R ih =>
    show (if b ≤ r.1 ∧ r.2.2.1 = who ∧ decide (6 ≤ r.2.1) = sl then r.1 - b + 1 else cau b who sl R) = 0
    have := h r List.mem_cons_self
    rw [if_neg (fun q => by omega), ih (fun q hq => h q (List.mem_cons_of_mem r hq))]
theorem cau_le {b who k : Nat} {sl : Bool} {R : List (Nat × Nat × Nat × Nat)} (h : ∀ r ∈ R, r.1 < k) : cau b who sl R ≤ k := by
  induction R with
  | nil => exact Nat.zero_le _
  | cons r R ih =>
    show (if b ≤ r.1 ∧ r.2.2.1 = who ∧ decide (6 ≤ r.2.1) = sl then r.1 - b + 1 else cau b who sl R) ≤ k
    have := h r List.mem_cons_self
    by_cases c : b ≤ r.1 ∧ r.2.2.1 = who ∧ decide (6 ≤ r.2.1) = sl
    · rw [if_pos c]; omega
    · rw [if_neg c]
      exact ih (fun q hq => h q (List.mem_cons_of_mem r hq))
theorem tkK_len {β : Bw} {L : Lw} {k : Nat} {s : Vw × Hw} {K : List (Nat × Nat)} : (tkK β L k s K).length ≤ K.length + 1 := by
  unfold tkK
  by_cases c : tkO β L k s = 0
  · rw [if_pos c]; exact Nat.le_succ _
  · rw [if_neg c]; exact wkK_len
theorem BF.len {β : Bw} {L : Lw} {FO FM : UInt32 → Prop} {FS : Nat → UInt64 → Prop} (h : BF β L FO FM FS) {k : Nat} (hk : k ≤ 200) : (rcs β L k).length ≤ 90 := by
  have hi : ∃ k', k' ≤ k ∧ IVS β L FO FM FS k' (k' / β 0 0 1) (rn β L k).1 := by
    obtain ⟨i1, i2, -⟩ := h.ir hk
    by_cases c : (rn β L k).1.2.2.2.2.2.1 = 0
    · exact ⟨k, Nat.le_refl k, i1 c⟩
    · exact i2 c
  obtain ⟨k', h1, h2⟩ := hi
  obtain ⟨⟨D, hS⟩, -⟩ := h2.1
  exact hS.len h.1 (div_cy h.2.2.2.1 (by omega))
theorem c_delayNext {M : Mw} {β : Bw} {L' : Lw} {t B : Nat} {FO FM : UInt32 → Prop} {FS : Nat → UInt64 → Prop} (hBF : BF β L' FO FM FS) (ht : t < 5) (hBH : B ≤ β 0 0 0) (h0 : cau B t false (rcs β L' B) = 0) {A : Nat → Nat → Nat} {l j : Nat} (h : CRun 2 M β L' B (rn β L' B) [] A l j) :
    ∃ M', F_X5_delayOfNext 2 (nI t) (nI B) M = some (nI (cau B t false (rcs β L' (β 0 0 0))) + (-1), M') ∧ Fr (SRun 2) M M' := by
  obtain ⟨hg, hF, hlow, hY, hO, hS⟩ := id hBF
  have hH : β 0 0 0 ≤ 200 := hg.1.1
  have enow : M.1 23 2 0 6 = nI B := by
    obtain ⟨x, hG⟩ := h.2.2.1
    exact hG.1
  unfold F_X5_delayOfNext
  rw [enow, bd_eq]
  exact it_for (z := fun _ _ => none) (B := B_X5_delayOfNext_5 2 (nI t) (nI B)) (n := β 0 0 0)
    (P := fun k M1 => (∃ K A l j, CRun 2 M1 β L' k (rn β L' k) K A l j ∧ K.length ≤ k) ∧ cau B t false (rcs β L' k) = 0 ∧ Fr (SRun 2) M M1)
    (Q := fun o => ∃ M', o = some (nI (cau B t false (rcs β L' (β 0 0 0))) + (-1), M') ∧ Fr (SRun 2) M M')
    (fun kk k M1 hk hP => by
      obtain ⟨⟨K, A, l, j, p1, pK⟩, p2, p3⟩ := hP
      obtain ⟨x, hG⟩ := id p1.2.2.1
      have e5 : M1.1 23 2 0 5 = nI (rn β L' k).1.2.2.2.2.2.1 + (-1) := hG.2.2.1
      have hir := hBF.ir (show k ≤ 200 by omega)
      unfold B_X5_delayOfNext_5
      rw [p1.1.1 0 (by omega), if_neg (nI_ge hk (by omega)), e5]
      by_cases c : (rn β L' k).1.2.2.2.2.2.1 = 0
      · rw [if_pos (show nI (rn β L' k).1.2.2.2.2.2.1 + (-1) = -1 by rw [c]; decide)]
        obtain ⟨M3, t1, t2, t3⟩ := c_step hg hF hlow hY (by omega) (div_cy hY (by omega)) c (hir.1 c) pK p1
        have t2' : CRun 2 M3 β L' (k + 1) (rn β L' (k + 1)) (tkK β L' k (rn β L' k).1 K) (beA β k (rn β L' k).1.1 A (β 0 0 5)) (tkO β L' k (rn β L' k).1) (j + (if tkO β L' k (rn β L' k).1 = 0 then 1 else 0)) := t2
        obtain ⟨x3, hG3⟩ := id t2'.2.2.1
        have hd := c_delayR (sl := false) (tick := B) (who := t) hG3.2.2.2.2.2.1 hG3.2.2.2.2.2.2 (hBF.len (show k + 1 ≤ 200 by omega)) hg (show k + 1 ≤ 200 by omega) (by omega) (by omega)
        rw [if_neg (by decide)] at hd
        rw [t1, Option.bind_some, hd, Option.bind_some]
        by_cases z : cau B t false (rcs β L' (k + 1)) = 0
        · left
          rw [if_pos (show nI (cau B t false (rcs β L' (k + 1))) + (-1) = -1 by rw [z]; decide), bd_eq, nI_1]
          exact ⟨M3, rfl, ⟨_, _, _, _, t2', Nat.le_trans tkK_len (by omega)⟩, z, p3.trans t3⟩
        · right
          have hle : cau B t false (rcs β L' (k + 1)) ≤ k + 1 := cau_le (fun r hr => (rcs_g hg (k + 1) r hr).2)
          rw [if_neg (nI_m1n z (by omega))]
          obtain ⟨X, e, hX⟩ := rcs_d (L := L') hg (k + 1) (β 0 0 0 - (k + 1))
          rw [show k + 1 + (β 0 0 0 - (k + 1)) = β 0 0 0 by omega] at e
          rw [e, cau_app z]
          exact ⟨M3, rfl, p3.trans t3⟩
      · right
        obtain ⟨k', k1, k2'⟩ := hir.2.1 c
        have hb := k2'.1.2.2.2.2.2
        rw [if_neg (nI_m1n c (by omega))]
        have e := rn_halt c (β 0 0 0 - k)
        rw [show k + (β 0 0 0 - k) = β 0 0 0 by omega] at e
        have e' : rcs β L' (β 0 0 0) = rcs β L' k := by
          unfold rcs
          rw [e]
        rw [e', p2]
        exact ⟨M1, congrArg (fun v => some (v, M1)) (show (-1 : Int32) = nI 0 + (-1) by decide), p3⟩)
    (fun kk M1 hP => by
      obtain ⟨⟨K, A, l, j, p1, pK⟩, p2, p3⟩ := hP
      unfold B_X5_delayOfNext_5
      rw [p1.1.1 0 (by omega), if_pos (Int32.le_refl _), p2]
      exact ⟨M1, congrArg (fun v => some (v, M1)) (show (-1 : Int32) = nI 0 + (-1) by decide), p3⟩)
    FU B M hBH (by unfold FU; omega) ⟨⟨[], A, l, j, h, Nat.zero_le _⟩, h0, Fr.rfl⟩
theorem m1_max {g c : Nat} (hg : g < 1000) (hc : c < 1000) : (if nI g + (-1) < nI c + (-1) then nI c + (-1) else nI g + (-1)) = nI (max g c) + (-1) := by
  have hd : ∀ x : Nat, x < 1000 → (nI x + (-1)).toInt = (x : Int) - 1 := by
    intro x hx
    cases x with
    | zero => decide
    | succ x =>
      rw [pk_m1, nI_toInt (by omega)]
      omega
  have e : (nI g + (-1) < nI c + (-1)) ↔ g < c := by
    rw [Int32.lt_iff_toInt_lt, hd g hg, hd c hc]
    omega
  by_cases z : g < c
  · rw [if_pos (e.mpr z), Nat.max_eq_right (by omega)]
  · rw [if_neg (fun q => z (e.mp q)), Nat.max_eq_left (by omega)]
theorem c_noteD {M : Mw} {t kd g u c : Nat} (ht : t < 5) (hk : kd < 5) (hg : g < 1000) (hc : c < 1000) (h38 : M.1 38 0 t kd = nI g + (-1)) (h40 : M.1 40 0 t kd = nI u) :
    ∃ M', F_X8_noteDelay (nI t) (nI kd) (nI c + (-1)) M = some M' ∧ M'.1 38 0 t kd = nI (max g c) + (-1) ∧ M'.1 40 0 t kd = nI (u + (if c = 0 then 1 else 0)) ∧ Fr (fun κ _ => κ = 38 ∨ κ = 40) M M' ∧ ∀ t' kd', (t' ≠ t ∨ kd' ≠ kd) → M'.1 38 0 t' kd' = M.1 38 0 t' kd' ∧ M'.1 40 0 t' kd' = M.1 40 0 t' kd' := by
  have i1 : inb (nI t) 5 = true := inb_nI ht (by omega)
  have i2 : inb (nI kd) 5 = true := inb_nI hk (by omega)
  have ct : (nI t).toNatClampNeg = t := clampI (by omega)
  have ck : (nI kd).toNatClampNeg = kd := clampI (by omega)
  have k17 : ∀ M1 : Mw, M1.1 38 0 t kd = nI g + (-1) → ∃ M', B_X8_noteDelay_17 (nI t) (nI kd) (nI c + (-1)) M1 = some M' ∧ M'.1 38 0 t kd = nI (max g c) + (-1) ∧ Fr (fun κ _ => κ = 38) M1 M' ∧ ∀ t' kd', (t' ≠ t ∨ kd' ≠ kd) → M'.1 38 0 t' kd' = M1.1 38 0 t' kd' := by
    intro M1 h1
    unfold B_X8_noteDelay_17
    rw [if_pos i1, if_pos i1, if_pos i2, if_pos i2, ct, ck, h1, m1_max hg hc, bd_eq]
    refine ⟨_, rfl, ?_, Fr.uI rfl, fun t' kd' q => ?_⟩
    · rw [uI1, if_pos ⟨rfl, rfl, rfl, rfl⟩]
    · rw [uI1, if_neg (fun z => by omega)]
  unfold F_X8_noteDelay
  by_cases z : c = 0
  · rw [if_pos (show nI c + (-1) = -1 by rw [z]; decide), if_pos i1, if_pos i2, if_pos i2, ct, ck, h40, nI_1, bd_eq, if_pos z]
    obtain ⟨M', q1, q2, q3, q4⟩ := k17 (uIw M 40 0 t kd (nI (u + 1))) (by rw [uI_k (by decide)]; exact h38)
    refine ⟨M', q1, q2, ?_, (Fr.uI (S := fun κ _ => κ = 38 ∨ κ = 40) (Or.inr rfl)).trans (q3.mono (fun κ b q => Or.inl q)), fun t' kd' q => ⟨?_, ?_⟩⟩
    · rw [q3.k1 (fun b => by omega), uI1, if_pos ⟨rfl, rfl, rfl, rfl⟩]
    · rw [q4 t' kd' q, uI_k (by decide)]
    · rw [q3.k1 (fun b => by omega), uI1, if_neg (fun z => by omega)]
  · rw [if_neg (nI_m1n z (by omega)), if_neg z]
    obtain ⟨M', q1, q2, q3, q4⟩ := k17 M h38
    refine ⟨M', q1, q2, ?_, q3.mono (fun κ b q => Or.inl q), fun t' kd' q => ⟨q4 t' kd' q, ?_⟩⟩
    · rw [q3.k1 (fun b => by omega)]; exact h40
    · rw [q3.k1 (fun b => by omega)]
