/-! PATHS AND ANSWERS -/
theorem fol_b {β : Bw} {L : Lw} (hg : GB β L) {t n j : Nat} (ht : t < β 0 0 5) (hn : n < β 4 t 6) : fol β t n j = 0 ∨ (n + 1 < fol β t n j ∧ fol β t n j ≤ β 4 t 6) := by
  obtain ⟨-, -, hv, hbits⟩ := hg.2.2.2.2.1 t n ht hn
  unfold fol
  by_cases c : (scl (β 8 t n)).length = 0
  · rw [if_pos c]; exact Or.inl rfl
  · rw [if_neg c]
    have hlt : j % (scl (β 8 t n)).length < (scl (β 8 t n)).length := Nat.mod_lt _ (by omega)
    obtain ⟨x6, xb, xl⟩ := scl_at _ hv _ hlt
    have := hbits _ xb
    right
    omega
def pthN (β : Bw) (t j : Nat) : Nat → Nat
  | 0 => 1
  | k + 1 => if pthN β t j k = 0 then 0 else fol β t (pthN β t j k - 1) j
theorem pth_b {β : Bw} {L : Lw} (hg : GB β L) {t j : Nat} (ht : t < β 0 0 5) : ∀ k, pthN β t j k = 0 ∨ (k < pthN β t j k ∧ pthN β t j k ≤ β 4 t 6) := by
  obtain ⟨-, -, -, -, -, -, -, -, n1, n6⟩ := hg.2.2.2.1 t ht
  intro k
  induction k with
  | zero => exact Or.inr ⟨Nat.zero_lt_one, n1⟩
  | succ k ih =>
    show (if pthN β t j k = 0 then 0 else fol β t (pthN β t j k - 1) j) = 0 ∨ (k + 1 < (if pthN β t j k = 0 then 0 else fol β t (pthN β t j k - 1) j) ∧ (if pthN β t j k = 0 then 0 else fol β t (pthN β t j k - 1) j) ≤ _)
    by_cases c : pthN β t j k = 0
    · rw [if_pos c]; exact Or.inl rfl
    · rw [if_neg c]
      rcases ih with z | z
      · exact absurd z c
      · have := fol_b hg (j := j) ht (show pthN β t j k - 1 < β 4 t 6 by omega)
        omega
theorem pth_0 {β : Bw} {t j k : Nat} (h : pthN β t j k = 0) : ∀ d, pthN β t j (k + d) = 0 := by
  intro d
  induction d with
  | zero => exact h
  | succ d ih =>
    show (if pthN β t j (k + d) = 0 then 0 else _) = 0
    rw [if_pos ih]
theorem job_cases (p : Int32) (M : Mw) : (F_X9_isJob p M = some 0 ∧ ∀ M', F_X10_in p.toInt64 0 50 M' = some 0) ∨ (∃ j, j ≤ 50 ∧ p = nI j ∧ F_X9_isJob p M = some 1 ∧ ∀ M', F_X10_in p.toInt64 0 50 M' = some 1) := by
  rcases rng_cases p (show 51 < 2 ^ 31 by omega) with ⟨j, hj, rfl⟩ | c
  · right
    refine ⟨j, by omega, rfl, ?_, fun M' => ?_⟩
    · unfold F_X9_isJob
      rw [if_neg (nI_pos (by omega)), if_neg (show ¬ (50 : Int32) < nI j from nI_nlt (a := 50) (by omega) (by omega))]
    · rw [r_in0n (nI j) (n := 50) (by omega) (by decide), if_pos (rng_in hj (by omega))]
  · left
    refine ⟨?_, fun M' => ?_⟩
    · unfold F_X9_isJob
      by_cases y : p < 0
      · rw [if_pos y]
      · rw [if_neg y, if_pos (show (50 : Int32) < p from Int32.not_le.mp (fun z => c ⟨y, (le_pred p (n := 50) (by omega)).mp z⟩))]
    · rw [r_in0n p (n := 50) (by omega) (by decide), if_neg c]
theorem ok_path : ∀ M : Mw, Inv M → ∀ a1 a2 a3 : Int32, ∃ (r1 : Int32) (r2 : Int32), F_X9_path a1 a2 a3 M = some r1 ∧ F_X10_path a1 a2 a3 M = some r2 ∧ r1 = r2 ∧ Inv M := by
  intro M hM a1 a2 a3
  have hInv := hM
  obtain ⟨β, L, h⟩ := hM
  have hx := h.2.1.1
  have hg := hx.1
  have hT5 := hx.1.1.2.2.2.2
  have hrn := h.2.1.2.2.n
  unfold F_X9_path F_X10_path
  rcases task_cases h.2.1 a1 with ⟨t1, t2⟩ | ⟨t, ht, rfl, t1, t2⟩
  · rw [t1, t2 M h.2.1.2.2, Option.bind_some, Option.bind_some, if_pos rfl, if_pos rfl]
    exact ⟨_, _, rfl, rfl, rfl, hInv⟩
  rw [t1, t2 M h.2.1.2.2, Option.bind_some, Option.bind_some, if_neg (show ¬ (1 : Int32) = 0 by decide), if_neg (show ¬ (1 : Int32) = 0 by decide)]
  rcases job_cases a2 M with ⟨u1, u2⟩ | ⟨j, hj, rfl, u1, u2⟩
  · rw [u1, u2, Option.bind_some, Option.bind_some, if_pos rfl, if_pos rfl]
    exact ⟨_, _, rfl, rfl, rfl, hInv⟩
  rw [u1, u2, Option.bind_some, Option.bind_some, if_neg (show ¬ (1 : Int32) = 0 by decide), if_neg (show ¬ (1 : Int32) = 0 by decide)]
  obtain ⟨-, -, -, -, -, -, -, -, n1, n6⟩ := hg.2.2.2.1 t ht
  by_cases c : a3 < 0
  · rw [if_neg (Int32.not_le.mpr c), if_neg (Int32.not_le.mpr c)]
    exact ⟨_, _, rfl, rfl, rfl, hInv⟩
  rw [if_pos (Int32.not_lt.mp c), if_pos (Int32.not_lt.mp c)]
  obtain ⟨m, hm, rfl⟩ := nI_of c
  have hpb := pth_b (β := β) (j := j) hg ht
  have key1 : it (fun _ _ => none) (B_X2_nodeOnWay_6 1 (nI t) (nI j) (nI m) M) FU (nI 0 + 0) (nI 0) = some (nI (pthN β t j m) + (-1)) :=
    it_forA (z := fun _ _ => none) (B := B_X2_nodeOnWay_6 1 (nI t) (nI j) (nI m) M) (n := 8) (P := fun i a => a = nI (pthN β t j i) + (-1) ∧ i ≤ m) (Q := fun o => o = some (nI (pthN β t j m) + (-1)))
      (fun kk i a hi hP => by
        obtain ⟨rfl, him⟩ := hP
        unfold B_X2_nodeOnWay_6
        by_cases ce : m ≤ i
        · right
          rw [if_pos (nI_le ce (by omega)), show i = m by omega]
        rw [if_neg (nI_ge (by omega) (by omega))]
        by_cases cz : pthN β t j i = 0
        · right
          have := pth_0 cz (m - i)
          rw [show i + (m - i) = m by omega] at this
          rw [cz, this, if_pos (show nI 0 + (-1) = -1 by decide)]
        · left
          have hb := hpb i
          obtain ⟨n, hn⟩ : ∃ n, pthN β t j i = n + 1 := ⟨pthN β t j i - 1, by omega⟩
          rw [if_neg (nI_m1n cz (by omega)), hn, pk_m1, c_follower hg h.2.1.2.1.d ht (by omega) (by omega), Option.bind_some, nI_1, bd_eq]
          refine ⟨_, rfl, ?_, by omega⟩
          show _ = nI (if pthN β t j i = 0 then 0 else fol β t (pthN β t j i - 1) j) + (-1)
          rw [if_neg cz, hn]
          rfl)
      (fun kk a hP => by
        obtain ⟨rfl, him⟩ := hP
        have cz : pthN β t j 8 = 0 := by
          have := hpb 8
          omega
        have := pth_0 cz (m - 8)
        rw [show 8 + (m - 8) = m by omega] at this
        unfold B_X2_nodeOnWay_6
        rw [cz, this, if_pos (show nI 0 + (-1) = -1 by decide)]
        by_cases ce : nI m ≤ nI 8
        · rw [if_pos ce]
        · rw [if_neg ce])
      FU 0 (nI 0 + 0) (Nat.zero_le _) (by unfold FU; omega) ⟨by show nI 0 + 0 = nI 1 + (-1); decide, Nat.zero_le _⟩
  have key2 : it (fun _ _ => none) (B_X10_path_33 (nI t) (nI j) (nI m) M) FU (nI 0 + 0) (nI 0) = some (nI (pthN β t j m) + (-1)) :=
    it_forA (z := fun _ _ => none) (B := B_X10_path_33 (nI t) (nI j) (nI m) M) (n := 8) (P := fun i a => pthN β t j i ≠ 0 ∧ a = nI (pthN β t j i - 1) ∧ i ≤ m) (Q := fun o => o = some (nI (pthN β t j m) + (-1)))
      (fun kk i a hi hP => by
        obtain ⟨cz, rfl, him⟩ := hP
        have hb := hpb i
        obtain ⟨n, hn⟩ : ∃ n, pthN β t j i = n + 1 := ⟨pthN β t j i - 1, by omega⟩
        unfold B_X10_path_33
        by_cases ce : m ≤ i
        · right
          rw [if_pos (nI_le ce (by omega)), show m = i by omega, hn, pk_m1]
          rfl
        rw [if_neg (nI_ge (by omega) (by omega)), hn, show n + 1 - 1 = n from rfl]
        show (∃ a', (F_X10_followers (nI t) (nI n) M).bind _ = _ ∧ _) ∨ (F_X10_followers (nI t) (nI n) M).bind _ = _
        rw [r_followersN hg hrn ht (by omega), Option.bind_some]
        obtain ⟨-, -, hv, hbits⟩ := hg.2.2.2.2.1 t n ht (by omega)
        have hl6 := scl_len _ hv
        have ef : pthN β t j (i + 1) = fol β t n j := by
          show (if pthN β t j i = 0 then 0 else fol β t (pthN β t j i - 1) j) = _
          rw [if_neg cz, hn]
          rfl
        by_cases cl : (scl (β 8 t n)).length = 0
        · right
          have e0 : pthN β t j (i + 1) = 0 := by
            rw [ef]
            unfold fol
            rw [if_pos cl]
          have := pth_0 e0 (m - (i + 1))
          rw [show i + 1 + (m - (i + 1)) = m by omega] at this
          rw [if_pos (show nI (scl (β 8 t n)).length = 0 by rw [cl]; rfl), this]
          decide
        · left
          have hlt : j % (scl (β 8 t n)).length < (scl (β 8 t n)).length := Nat.mod_lt _ (by omega)
          rw [if_neg (nI_ne0 (by omega) (by omega)), Option.bind_some, if_neg (nI_ne0 (by omega) (by omega)), pk_rem (by omega) (by omega) (by omega), r_followerN hg hrn ht (by omega) hlt, Option.bind_some, nI_1, bd_eq]
          have efo : fol β t n j = (scl (β 8 t n)).getD (j % (scl (β 8 t n)).length) 0 + 1 := by
            unfold fol
            rw [if_neg cl]
          refine ⟨_, rfl, ?_, ?_, by omega⟩
          · rw [ef, efo]; omega
          · rw [ef, efo]
            rfl)
      (fun kk a hP => by
        have := hpb 8
        have := hP.1
        omega)
      FU 0 (nI 0 + 0) (Nat.zero_le _) (by unfold FU; omega) ⟨by show 1 ≠ 0; decide, by show nI 0 + 0 = nI (1 - 1); decide, Nat.zero_le _⟩
  have e0 : nI 0 + 0 = 0 := by decide
  rw [e0, nI_0] at key1 key2
  unfold F_X2_nodeOnWay
  rw [key1, key2, Option.bind_some]
  exact ⟨_, _, rfl, rfl, rfl, hInv⟩
/-- what a node makes of a question -/
def ansH (h n : Nat) : Nat := (5 * h + n + 1) % 64
theorem ansH_lt (h n : Nat) : ansH h n < 64 := Nat.mod_lt _ (by decide)
theorem i_ans {h n : Nat} (hh : h < 64) (hn : n < 6) : (((5 * nI h) + nI n) + 1) - (((5 * nI h) + nI n) + 1) / 64 * 64 = nI (ansH h n) := by
  rw [show (5 : Int32) = nI 5 from rfl, pk_mul, nI_add, nI_1, show (64 : Int32) = nI 64 from rfl, pk_rem (by omega) (by omega) (by omega)]
  rfl
theorem c_ans {h n : Nat} (hh : h < 64) (hn : n < 6) (M : Mw) : F_X2_behindNode (nI h) (nI n) M = some (nI (ansH h n)) := by
  unfold F_X2_behindNode
  rw [if_neg (by decide), i_ans hh hn]
theorem r_ans {h n : Nat} (hh : h < 64) (hn : n < 6) (M : Mw) : F_X10_answered (nI h) (nI n) M = some (nI (ansH h n)) := by
  unfold F_X10_answered
  rw [if_neg (by decide), i_ans hh hn]
def awN (β : Bw) (t j q : Nat) : Nat → Nat × Nat
  | 0 => (q, 1)
  | k + 1 => if (awN β t j q k).2 = 0 then awN β t j q k else (ansH (awN β t j q k).1 ((awN β t j q k).2 - 1), fol β t ((awN β t j q k).2 - 1) j)
theorem aw_b {β : Bw} {L : Lw} (hg : GB β L) {t j q : Nat} (hq : q < 64) (ht : t < β 0 0 5) : ∀ k, (awN β t j q k).1 < 64 ∧ ((awN β t j q k).2 = 0 ∨ (k < (awN β t j q k).2 ∧ (awN β t j q k).2 ≤ β 4 t 6)) := by
  obtain ⟨-, -, -, -, -, -, -, -, n1, n6⟩ := hg.2.2.2.1 t ht
  intro k
  induction k with
  | zero => exact ⟨hq, Or.inr ⟨Nat.zero_lt_one, n1⟩⟩
  | succ k ih =>
    have e : awN β t j q (k + 1) = if (awN β t j q k).2 = 0 then awN β t j q k else (ansH (awN β t j q k).1 ((awN β t j q k).2 - 1), fol β t ((awN β t j q k).2 - 1) j) := rfl
    rw [e]
    by_cases c : (awN β t j q k).2 = 0
    · rw [if_pos c]
      exact ⟨ih.1, Or.inl c⟩
    · rw [if_neg c]
      refine ⟨ansH_lt _ _, ?_⟩
      have := fol_b hg (j := j) ht (show (awN β t j q k).2 - 1 < β 4 t 6 by omega)
      show fol β t ((awN β t j q k).2 - 1) j = 0 ∨ (k + 1 < fol β t ((awN β t j q k).2 - 1) j ∧ fol β t ((awN β t j q k).2 - 1) j ≤ _)
      omega
theorem aw_0 {β : Bw} {t j q k : Nat} (h : (awN β t j q k).2 = 0) : ∀ d, awN β t j q (k + d) = awN β t j q k := by
  intro d
  induction d with
  | zero => rfl
  | succ d ih =>
    show (if (awN β t j q (k + d)).2 = 0 then awN β t j q (k + d) else _) = _
    rw [ih, if_pos h]
theorem it_gh {β : Type} {z : Int32 → Int32 → Option β} {B : (Int32 → Int32 → Option β) → Int32 → Int32 → Option β} {n : Nat} {P : Nat → Int32 → Int32 → Prop} {Q : Option β → Prop}
    (step : ∀ (k : Int32 → Int32 → Option β) (t : Nat) (a c : Int32), t < n → P t a c → (∃ a' c', B k a c = k a' c' ∧ P (t + 1) a' c') ∨ Q (B k a c))
    (done : ∀ (k : Int32 → Int32 → Option β) (a c : Int32), P n a c → Q (B k a c)) :
    ∀ (f t : Nat) (a c : Int32), t ≤ n → n < t + f → P t a c → Q (it z B f a c) := by
  intro f
  induction f with
  | zero => intro t a c h1 h2; omega
  | succ f ih =>
    intro t a c h1 h2 hP
    rw [it_succ]
    by_cases h : t < n
    · rcases step (it z B f) t a c h hP with ⟨a', c', e, hP'⟩ | hq
      · rw [e]
        exact ih (t + 1) a' c' h (by omega) hP'
      · exact hq
    · obtain rfl : t = n := by omega
      exact done _ a c hP
theorem ques_cases (p : Int32) (M : Mw) : (F_X9_isQuestion p M = some 0 ∧ ∀ M', F_X10_in p.toInt64 0 63 M' = some 0) ∨ (∃ q, q < 64 ∧ p = nI q ∧ F_X9_isQuestion p M = some 1 ∧ ∀ M', F_X10_in p.toInt64 0 63 M' = some 1) := by
  rcases rng_cases p (show 64 < 2 ^ 31 by omega) with ⟨j, hj, rfl⟩ | c
  · right
    refine ⟨j, hj, rfl, ?_, fun M' => ?_⟩
    · unfold F_X9_isQuestion
      rw [if_neg (nI_pos (by omega)), if_neg (show ¬ (64 : Int32) ≤ nI j from nI_ge (b := 64) (by omega) (by omega))]
    · rw [r_in0n (nI j) (n := 63) (by omega) (by decide), if_pos (rng_in hj (by omega))]
  · left
    refine ⟨?_, fun M' => ?_⟩
    · unfold F_X9_isQuestion
      by_cases y : p < 0
      · rw [if_pos y]
      · rw [if_neg y, if_pos (show (64 : Int32) ≤ p from Int32.not_lt.mp (fun z => c ⟨y, z⟩))]
    · rw [r_in0n p (n := 63) (by omega) (by decide), if_neg c]
theorem ok_answer : ∀ M : Mw, Inv M → ∀ a1 a2 a3 : Int32, ∃ (r1 : Int32) (r2 : Int32), F_X9_answer a1 a2 a3 M = some r1 ∧ F_X10_answer a1 a2 a3 M = some r2 ∧ r1 = r2 ∧ Inv M := by
  intro M hM a1 a2 a3
  have hInv := hM
  obtain ⟨β, L, h⟩ := hM
  have hx := h.2.1.1
  have hg := hx.1
  have hT5 := hx.1.1.2.2.2.2
  have hrn := h.2.1.2.2.n
  unfold F_X9_answer F_X10_answer
  rcases task_cases h.2.1 a1 with ⟨t1, t2⟩ | ⟨t, ht, rfl, t1, t2⟩
  · rw [t1, t2 M h.2.1.2.2, Option.bind_some, Option.bind_some, if_pos rfl, if_pos rfl]
    exact ⟨_, _, rfl, rfl, rfl, hInv⟩
  rw [t1, t2 M h.2.1.2.2, Option.bind_some, Option.bind_some, if_neg (show ¬ (1 : Int32) = 0 by decide), if_neg (show ¬ (1 : Int32) = 0 by decide)]
  rcases job_cases a2 M with ⟨u1, u2⟩ | ⟨j, hj, rfl, u1, u2⟩
  · rw [u1, u2, Option.bind_some, Option.bind_some, if_pos rfl, if_pos rfl]
    exact ⟨_, _, rfl, rfl, rfl, hInv⟩
  rw [u1, u2, Option.bind_some, Option.bind_some, if_neg (show ¬ (1 : Int32) = 0 by decide), if_neg (show ¬ (1 : Int32) = 0 by decide)]
  rcases ques_cases a3 M with ⟨u1, u2⟩ | ⟨q, hq, rfl, u1, u2⟩
  · rw [u1, u2, Option.bind_some, Option.bind_some, if_pos rfl, if_pos rfl]
    exact ⟨_, _, rfl, rfl, rfl, hInv⟩
  rw [u1, u2, Option.bind_some, Option.bind_some, if_neg (show ¬ (1 : Int32) = 0 by decide), if_neg (show ¬ (1 : Int32) = 0 by decide)]
  obtain ⟨-, -, -, -, -, -, -, -, n1, n6⟩ := hg.2.2.2.1 t ht
  have hb := aw_b (β := β) (j := j) hg hq ht
  have key1 : it (fun _ _ _ => none) (B_X2_answerOf_9 1 (nI t) (nI j) M) FU (nI q) 0 (nI 0) = some (nI (awN β t j q 6).1) :=
    it_for3N (z := fun _ _ _ => none) (B := B_X2_answerOf_9 1 (nI t) (nI j) M) (n := 6) (P := fun i a c => a = nI (awN β t j q i).1 ∧ c = nI (awN β t j q i).2 + (-1)) (Q := fun o => o = some (nI (awN β t j q 6).1))
      (fun kk i a c hi hP => by
        obtain ⟨rfl, rfl⟩ := hP
        obtain ⟨b1, b2⟩ := hb i
        unfold B_X2_answerOf_9
        rw [if_neg (show ¬ (6 : Int32) ≤ nI i from nI_ge (b := 6) hi (by omega))]
        by_cases cz : (awN β t j q i).2 = 0
        · right
          have := aw_0 cz (6 - i)
          rw [show i + (6 - i) = 6 by omega] at this
          rw [if_pos (show nI (awN β t j q i).2 + (-1) = -1 by rw [cz]; decide), this]
        · left
          obtain ⟨n, hn⟩ : ∃ n, (awN β t j q i).2 = n + 1 := ⟨(awN β t j q i).2 - 1, by omega⟩
          rw [if_neg (nI_m1n cz (by omega)), hn, pk_m1, c_ans b1 (by omega), Option.bind_some, c_follower hg h.2.1.2.1.d ht (by omega) (by omega), Option.bind_some, nI_1, bd_eq]
          have e : awN β t j q (i + 1) = (ansH (awN β t j q i).1 n, fol β t n j) := by
            show (if (awN β t j q i).2 = 0 then awN β t j q i else (ansH (awN β t j q i).1 ((awN β t j q i).2 - 1), fol β t ((awN β t j q i).2 - 1) j)) = _
            rw [if_neg cz, hn]
            rfl
          rw [e]
          exact ⟨_, _, rfl, rfl, rfl⟩)
      (fun kk a c hP => by
        obtain ⟨rfl, rfl⟩ := hP
        unfold B_X2_answerOf_9
        rw [if_pos (show (6 : Int32) ≤ nI 6 by decide)])
      FU 0 (nI q) 0 (Nat.zero_le _) (by unfold FU; omega) ⟨rfl, by show (0 : Int32) = nI 1 + (-1); decide⟩
  have key2 : it (fun _ _ => none) (B_X10_answer_45 (nI t) (nI j) M) FU 0 (nI (ansH q 0)) = some (nI (awN β t j q 6).1) :=
    it_gh (z := fun _ _ => none) (B := B_X10_answer_45 (nI t) (nI j) M) (n := 6) (P := fun i a c => (awN β t j q i).2 ≠ 0 ∧ a = nI ((awN β t j q i).2 - 1) ∧ c = nI (awN β t j q (i + 1)).1) (Q := fun o => o = some (nI (awN β t j q 6).1))
      (fun kk i a c hi hP => by
        obtain ⟨cz, rfl, rfl⟩ := hP
        obtain ⟨b1, b2⟩ := hb i
        obtain ⟨n, hn⟩ : ∃ n, (awN β t j q i).2 = n + 1 := ⟨(awN β t j q i).2 - 1, by omega⟩
        have e : awN β t j q (i + 1) = (ansH (awN β t j q i).1 n, fol β t n j) := by
          show (if (awN β t j q i).2 = 0 then awN β t j q i else (ansH (awN β t j q i).1 ((awN β t j q i).2 - 1), fol β t ((awN β t j q i).2 - 1) j)) = _
          rw [if_neg cz, hn]
          rfl
        unfold B_X10_answer_45
        rw [hn, show n + 1 - 1 = n from rfl]
        show (∃ a' c', (F_X10_followers (nI t) (nI n) M).bind _ = _ ∧ _) ∨ (F_X10_followers (nI t) (nI n) M).bind _ = _
        rw [r_followersN hg hrn ht (by omega), Option.bind_some]
        obtain ⟨-, -, hv, hbits⟩ := hg.2.2.2.2.1 t n ht (by omega)
        have hl6 := scl_len _ hv
        by_cases cl : (scl (β 8 t n)).length = 0
        · right
          have ef : fol β t n j = 0 := by
            unfold fol
            rw [if_pos cl]
          have e0 : (awN β t j q (i + 1)).2 = 0 := by rw [e]; exact ef
          have := aw_0 e0 (6 - (i + 1))
          rw [show i + 1 + (6 - (i + 1)) = 6 by omega] at this
          rw [if_pos (show nI (scl (β 8 t n)).length ≤ 0 by rw [cl]; decide), this]
        · left
          have hlt : j % (scl (β 8 t n)).length < (scl (β 8 t n)).length := Nat.mod_lt _ (by omega)
          obtain ⟨x6, xb, -⟩ := scl_at _ hv _ hlt
          have efo : fol β t n j = (scl (β 8 t n)).getD (j % (scl (β 8 t n)).length) 0 + 1 := by
            unfold fol
            rw [if_neg cl]
          have hb1 := hb (i + 1)
          rw [if_neg (nI_nle (by omega) (by omega)), Option.bind_some, if_neg (nI_ne0 (by omega) (by omega)), pk_rem (by omega) (by omega) (by omega), r_followerN hg hrn ht (by omega) hlt, Option.bind_some, r_ans hb1.1 x6, Option.bind_some]
          have e2 : (awN β t j q (i + 1)).2 = (scl (β 8 t n)).getD (j % (scl (β 8 t n)).length) 0 + 1 := by rw [e]; exact efo
          have e3 : awN β t j q (i + 1 + 1) = (ansH (awN β t j q (i + 1)).1 ((awN β t j q (i + 1)).2 - 1), fol β t ((awN β t j q (i + 1)).2 - 1) j) := by
            show (if (awN β t j q (i + 1)).2 = 0 then _ else _) = _
            rw [if_neg (by omega)]
          refine ⟨_, _, rfl, by omega, ?_, ?_⟩
          · rw [e2]; rfl
          · rw [e3, e2]; rfl)
      (fun kk a c hP => by
        have := (hb 6).2
        have := hP.1
        omega)
      FU 0 0 (nI (ansH q 0)) (Nat.zero_le _) (by unfold FU; omega) ⟨by show 1 ≠ 0; decide, by show (0 : Int32) = nI (1 - 1); decide, by
        show nI (ansH q 0) = nI (if (1 : Nat) = 0 then _ else _ : Nat × Nat).1
        rw [if_neg (by decide)]
        rfl⟩
  rw [nI_0] at key1
  have eq0 : F_X10_answered (nI q) 0 M = some (nI (ansH q 0)) := r_ans hq (n := 0) (by omega) M
  unfold F_X2_answerOf
  rw [key1, Option.bind_some, eq0, Option.bind_some, key2]
  exact ⟨_, _, rfl, rfl, rfl, hInv⟩
