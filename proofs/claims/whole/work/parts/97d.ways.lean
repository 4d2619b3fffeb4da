/-! WAYS: sums -/
def dms (f : Nat → Nat) : Nat → Nat
  | 0 => 0
  | n + 1 => dms f n + f n
theorem dms_c {f g : Nat → Nat} : ∀ n, (∀ i, i < n → f i = g i) → dms f n = dms g n := by
  intro n
  induction n with
  | zero => intro _; rfl
  | succ n ih =>
    intro h
    show dms f n + f n = dms g n + g n
    rw [ih (fun i hi => h i (by omega)), h n (by omega)]
theorem dms_a {f g : Nat → Nat} : ∀ n, dms (fun i => f i + g i) n = dms f n + dms g n := by
  intro n
  induction n with
  | zero => rfl
  | succ n ih =>
    show dms (fun i => f i + g i) n + (f n + g n) = (dms f n + f n) + (dms g n + g n)
    rw [ih]
    omega
theorem dms_m {f : Nat → Nat} {x : Nat} : ∀ n, dms (fun i => x * f i) n = x * dms f n := by
  intro n
  induction n with
  | zero => rfl
  | succ n ih =>
    show dms (fun i => x * f i) n + x * f n = x * (dms f n + f n)
    rw [ih, Nat.mul_add]
theorem dms_0 {f : Nat → Nat} : ∀ n, (∀ i, i < n → f i = 0) → dms f n = 0 := by
  intro n
  induction n with
  | zero => intro _; rfl
  | succ n ih =>
    intro h
    show dms f n + f n = 0
    rw [ih (fun i hi => h i (by omega)), h n (by omega)]
theorem dms_1 {f : Nat → Nat} {x : Nat} : ∀ n, dms (fun i => if i = x then f i else 0) n = if x < n then f x else 0 := by
  intro n
  induction n with
  | zero => rfl
  | succ n ih =>
    show dms (fun i => if i = x then f i else 0) n + (if n = x then f n else 0) = _
    rw [ih]
    by_cases c : n = x
    · rw [if_pos c, if_neg (by omega), if_pos (by omega), c, Nat.zero_add]
    · rw [if_neg c, Nat.add_zero]
      by_cases c2 : x < n
      · rw [if_pos c2, if_pos (by omega)]
      · rw [if_neg c2, if_neg (by omega)]
theorem dms_up {f : Nat → Nat} {m : Nat} : ∀ d, (∀ i, m ≤ i → i < m + d → f i = 0) → dms f (m + d) = dms f m := by
  intro d
  induction d with
  | zero => intro _; rfl
  | succ d ih =>
    intro h
    show dms f (m + d) + f (m + d) = _
    rw [ih (fun i a b => h i a (by omega)), h (m + d) (by omega) (by omega)]
    rfl
theorem dms_sw {f : Nat → Nat → Nat} {m : Nat} : ∀ n, dms (fun i => dms (fun j => f i j) m) n = dms (fun j => dms (fun i => f i j) n) m := by
  intro n
  induction n with
  | zero => exact (dms_0 m (fun _ _ => rfl)).symm
  | succ n ih =>
    show dms (fun i => dms (fun j => f i j) m) n + dms (fun j => f n j) m = dms (fun j => dms (fun i => f i j) n + f n j) m
    rw [ih, dms_a]
/-- how many ways from a node, with a question in hand, end at an answer -/
def wyN (β : Bw) (t a : Nat) : Nat → Nat → Nat → Nat
  | 0 => fun _ _ => 0
  | d + 1 => fun n h => (if β 8 t n = 0 ∧ ansH h n = a then 1 else 0) + dms (fun k => if (β 8 t n).testBit k = true then wyN β t a d k (ansH h n) else 0) 6
theorem wy_st {β : Bw} {L : Lw} (hg : GB β L) {t a : Nat} (ht : t < β 0 0 5) : ∀ d n h, n < β 4 t 6 → β 4 t 6 ≤ n + d → wyN β t a (d + 1) n h = wyN β t a d n h := by
  intro d
  induction d with
  | zero => intro n h h1 h2; omega
  | succ d ih =>
    intro n h h1 h2
    obtain ⟨-, -, hv, hbits⟩ := hg.2.2.2.2.1 t n ht h1
    show (if β 8 t n = 0 ∧ ansH h n = a then 1 else 0) + dms (fun k => if (β 8 t n).testBit k = true then wyN β t a (d + 1) k (ansH h n) else 0) 6 = (if β 8 t n = 0 ∧ ansH h n = a then 1 else 0) + dms (fun k => if (β 8 t n).testBit k = true then wyN β t a d k (ansH h n) else 0) 6
    rw [dms_c 6 (g := fun k => if (β 8 t n).testBit k = true then wyN β t a d k (ansH h n) else 0) (fun k _ => by
      by_cases c : (β 8 t n).testBit k = true
      · show (if (β 8 t n).testBit k = true then wyN β t a (d + 1) k (ansH h n) else 0) = (if (β 8 t n).testBit k = true then wyN β t a d k (ansH h n) else 0)
        have := hbits k c
        rw [if_pos c, if_pos c, ih k _ (by omega) (by omega)]
      · show (if (β 8 t n).testBit k = true then wyN β t a (d + 1) k (ansH h n) else 0) = (if (β 8 t n).testBit k = true then wyN β t a d k (ansH h n) else 0)
        rw [if_neg c, if_neg c])]
theorem wy_st6 {β : Bw} {L : Lw} (hg : GB β L) {t a : Nat} (ht : t < β 0 0 5) {n h : Nat} (hn : n < β 4 t 6) : ∀ e d, β 4 t 6 ≤ n + d → wyN β t a (d + e) n h = wyN β t a d n h := by
  intro e
  induction e with
  | zero => intro d _; rfl
  | succ e ih =>
    intro d hd
    show wyN β t a (d + e + 1) n h = _
    rw [wy_st hg ht (d + e) n h hn (by omega), ih d hd]
theorem scl_0 : ∀ v, v < 64 → ((scl v).length = 0 ↔ v = 0) := by decide +kernel
/-- enough fuel -/
def wyF (β : Bw) (t a n h : Nat) : Nat := wyN β t a 6 n h
theorem wyF_eq {β : Bw} {L : Lw} (hg : GB β L) {t a : Nat} (ht : t < β 0 0 5) {n h : Nat} (hn : n < β 4 t 6) : wyF β t a n h = (if β 8 t n = 0 ∧ ansH h n = a then 1 else 0) + dms (fun k => if (β 8 t n).testBit k = true then wyF β t a k (ansH h n) else 0) 6 := by
  have n6 := (hg.2.2.2.1 t ht).2.2.2.2.2.2.2.2.2
  unfold wyF
  rw [← wy_st hg ht 6 n h hn (by omega)]
  rfl
theorem wyF_eqN {β : Bw} {L : Lw} (hg : GB β L) {t a : Nat} (ht : t < β 0 0 5) {n h : Nat} (hn : n < β 4 t 6) : wyF β t a n h = (if β 8 t n = 0 ∧ ansH h n = a then 1 else 0) + dms (fun k => if (β 8 t n).testBit k = true then wyF β t a k (ansH h n) else 0) (β 4 t 6) := by
  have n6 := (hg.2.2.2.1 t ht).2.2.2.2.2.2.2.2.2
  obtain ⟨-, -, hv, hbits⟩ := hg.2.2.2.2.1 t n ht hn
  rw [wyF_eq hg ht hn]
  congr 1
  have := dms_up (f := fun k => if (β 8 t n).testBit k = true then wyF β t a k (ansH h n) else 0) (m := β 4 t 6) (6 - β 4 t 6) (fun k h1 _ => if_neg (fun z => by have := (hbits k z).2; omega))
  rw [show β 4 t 6 + (6 - β 4 t 6) = 6 by omega] at this
  exact this
theorem fold_dms {g : Nat → Nat} {v : Nat} : ∀ k, (scp v k).foldl (fun a i => a + g i) 0 = dms (fun i => if v.testBit i = true then g i else 0) k := by
  intro k
  induction k with
  | zero => rfl
  | succ k ih =>
    rw [scp_succ]
    show _ = dms (fun i => if v.testBit i = true then g i else 0) k + (if v.testBit k = true then g k else 0)
    by_cases c : v.testBit k = true
    · rw [if_pos c, if_pos c, List.foldl_append, ih]
      rfl
    · rw [if_neg c, if_neg c, ih]
      rfl
theorem wy_sum {β : Bw} {L : Lw} (hg : GB β L) {t : Nat} (ht : t < β 0 0 5) : ∀ d n h, d ≤ β 4 t 6 → n < β 4 t 6 → β 4 t 6 ≤ n + d → dms (fun a => wyN β t a d n h) 64 = bst β t 2 d n := by
  intro d
  induction d with
  | zero => intro n h h0 h1 h2; omega
  | succ d ih =>
    intro n h h0 h1 h2
    show _ = (if n = β 4 t 6 - 1 - d then vN β t 2 n (bst β t 2 d) else bst β t 2 d n)
    by_cases c : n = β 4 t 6 - 1 - d
    · rw [if_pos c]
      obtain ⟨-, -, hv, hbits⟩ := hg.2.2.2.2.1 t n ht h1
      have e1 : dms (fun a => wyN β t a (d + 1) n h) 64 = dms (fun a => if β 8 t n = 0 ∧ ansH h n = a then 1 else 0) 64 + dms (fun k => if (β 8 t n).testBit k = true then bst β t 2 d k else 0) 6 := by
        show dms (fun a => (if β 8 t n = 0 ∧ ansH h n = a then 1 else 0) + dms (fun k => if (β 8 t n).testBit k = true then wyN β t a d k (ansH h n) else 0) 6) 64 = _
        rw [dms_a, dms_sw (f := fun a k => if (β 8 t n).testBit k = true then wyN β t a d k (ansH h n) else 0)]
        congr 1
        refine dms_c 6 (fun k _ => ?_)
        by_cases cb : (β 8 t n).testBit k = true
        · have hb := hbits k cb
          rw [if_pos cb, ← ih k (ansH h n) (by omega) (by omega) (by omega)]
          refine dms_c 64 (fun a _ => ?_)
          rw [if_pos cb]
        · rw [if_neg cb]
          refine dms_0 64 (fun a _ => ?_)
          rw [if_neg cb]
      rw [e1]
      show _ = (if scl (β 8 t n) = [] then 1 else (scl (β 8 t n)).foldl (fun a k => a + bst β t 2 d k) 0)
      rw [fold_dms]
      by_cases ce : β 8 t n = 0
      · have hs : scl (β 8 t n) = [] := List.length_eq_zero_iff.mp ((scl_0 _ hv).mpr ce)
        rw [if_pos hs]
        have e2 : dms (fun a => if β 8 t n = 0 ∧ ansH h n = a then 1 else 0) 64 = 1 := by
          rw [dms_c 64 (g := fun a => if a = ansH h n then 1 else 0) (fun a _ => by
            by_cases z : a = ansH h n
            · rw [if_pos ⟨ce, z.symm⟩, if_pos z]
            · rw [if_neg (fun q => z q.2.symm), if_neg z])]
          rw [dms_1 (f := fun _ => 1), if_pos (ansH_lt _ _)]
        rw [e2, dms_0 6 (fun k _ => by rw [ce, Nat.zero_testBit]; rfl)]
      · have hs : ¬ scl (β 8 t n) = [] := fun q => ce ((scl_0 _ hv).mp (by rw [q]; rfl))
        rw [if_neg hs, dms_0 64 (fun a _ => if_neg (fun q => ce q.1)), Nat.zero_add]
    · rw [if_neg c, ← ih n h (by omega) h1 (by omega)]
      exact dms_c 64 (fun a _ => wy_st hg ht d n h h1 (by omega))
/-! the class's tally -/
theorem v_bit : ∀ v, v < 64 → ∀ k, k < 6 → ((nI v &&& (1 <<< (nI k &&& 31))) = 0 ↔ v.testBit k = false) := by decide +kernel
theorem c_pass {M : Mw} {v h : Nat} {x : Int32} (hv : v < 64) (hh : h < 64) : ∃ M', F_X2_pass (nI v) (nI h) x M = some M' ∧ Fr (fun κ _ => κ = 19 ∨ κ = 20) M M' ∧
    (∀ j, M'.1 20 0 0 j = M.1 20 0 0 j + (if v = 0 ∧ j = h then x else 0)) ∧ (∀ k, k < 6 → ∀ j, M'.1 19 0 k j = M.1 19 0 k j + (if v.testBit k = true ∧ j = h then x else 0)) := by
  have hin : inb (nI h) 64 = true := inb_nI hh (by omega)
  unfold F_X2_pass
  by_cases c : v = 0
  · rw [if_pos (show nI v = 0 by rw [c]; rfl), if_pos hin, if_pos hin, clampI (by omega), bd_eq]
    refine ⟨_, rfl, Fr.uI (Or.inr rfl), fun j => ?_, fun k hk j => ?_⟩
    · rw [uI1]
      by_cases z : j = h
      · rw [if_pos ⟨rfl, rfl, rfl, z⟩, if_pos ⟨c, z⟩, z]
      · rw [if_neg (fun q => z q.2.2.2), if_neg (fun q => z q.2), Int32.add_zero]
    · rw [uI_k (by decide), c, Nat.zero_testBit, if_neg (fun q => absurd q.1 (by decide)), Int32.add_zero]
  · rw [if_neg (nI_ne0 (by omega) (by omega))]
    have key := it_for (z := fun _ _ => none) (B := B_X2_pass_18 (nI v) (nI h) x) (n := 6)
      (P := fun n M1 => Fr (fun κ _ => κ = 19 ∨ κ = 20) M M1 ∧ M1.1 20 = M.1 20 ∧ (∀ k, k < 6 → ∀ j, M1.1 19 0 k j = M.1 19 0 k j + (if k < n ∧ v.testBit k = true ∧ j = h then x else 0)))
      (Q := fun o => ∃ M', o = some M' ∧ Fr (fun κ _ => κ = 19 ∨ κ = 20) M M' ∧ (∀ j, M'.1 20 0 0 j = M.1 20 0 0 j + (if v = 0 ∧ j = h then x else 0)) ∧ (∀ k, k < 6 → ∀ j, M'.1 19 0 k j = M.1 19 0 k j + (if v.testBit k = true ∧ j = h then x else 0)))
      (fun kk n M1 hn hP => by
        obtain ⟨p1, p2, p3⟩ := hP
        left
        unfold B_X2_pass_18
        rw [if_neg (show ¬ (6 : Int32) ≤ nI n from nI_ge (b := 6) hn (by omega))]
        by_cases cb : v.testBit n = true
        · rw [if_neg (fun q => by rw [(v_bit v hv n hn).mp q] at cb; exact absurd cb (by decide)), if_pos (inb_nI hn (by omega)), if_pos hin, if_pos hin, clampI (by omega), clampI (by omega), bd_eq, nI_1, bd_eq]
          refine ⟨_, rfl, p1.trans (Fr.uI (Or.inl rfl)), by rw [uI_k (by decide)]; exact p2, fun k hk j => ?_⟩
          rw [uI1]
          by_cases z : k = n ∧ j = h
          · obtain ⟨rfl, rfl⟩ := z
            rw [if_pos ⟨rfl, rfl, rfl, rfl⟩, p3 k hk j, if_neg (by omega), if_pos ⟨by omega, cb, rfl⟩, Int32.add_zero]
          · rw [if_neg (fun q => z ⟨q.2.2.1, q.2.2.2⟩), p3 k hk j]
            by_cases y : k < n ∧ v.testBit k = true ∧ j = h
            · rw [if_pos y, if_pos ⟨by omega, y.2⟩]
            · rw [if_neg y, if_neg (fun q => y ⟨by
                have h1 := q.1
                by_cases w : k = n
                · exact absurd ⟨w, q.2.2⟩ z
                · omega, q.2⟩)]
        · have cf : v.testBit n = false := by simpa using cb
          rw [if_pos ((v_bit v hv n hn).mpr cf), nI_1, bd_eq]
          refine ⟨M1, rfl, p1, p2, fun k hk j => ?_⟩
          rw [p3 k hk j]
          by_cases y : k < n ∧ v.testBit k = true ∧ j = h
          · rw [if_pos y, if_pos ⟨by omega, y.2⟩]
          · rw [if_neg y, if_neg (fun q => y ⟨by
              have h1 := q.1
              by_cases w : k = n
              · rw [w] at q
                exact absurd q.2.1 cb
              · omega, q.2⟩)])
      (fun kk M1 hP => by
        obtain ⟨p1, p2, p3⟩ := hP
        unfold B_X2_pass_18
        rw [if_pos (show (6 : Int32) ≤ nI 6 by decide)]
        refine ⟨M1, rfl, p1, fun j => ?_, fun k hk j => ?_⟩
        · rw [p2, if_neg (fun q => c q.1), Int32.add_zero]
        · rw [p3 k hk j]
          by_cases y : v.testBit k = true ∧ j = h
          · rw [if_pos ⟨hk, y⟩, if_pos y]
          · rw [if_neg (fun q => y q.2), if_neg y])
      FU 0 M (Nat.zero_le _) (by unfold FU; omega) ⟨Fr.rfl, rfl, fun k hk j => by rw [if_neg (by omega), Int32.add_zero]⟩
    rw [nI_0] at key
    exact key
/-- what is still on its way -/
def TlP (β : Bw) (t q n l : Nat) (M : Mw) : Prop := ∃ (c : Nat → Nat → Nat) (o : Nat → Nat), (∀ k, k < 6 → ∀ h, h < 64 → M.1 19 0 k h = nI (c k h)) ∧ (∀ a, a < 64 → M.1 20 0 0 a = nI (o a)) ∧
  ∀ a, a < 64 → o a + dms (fun h => if l ≤ h then c n h * wyF β t a n h else 0) 64 + dms (fun k => if n < k then dms (fun h => c k h * wyF β t a k h) 64 else 0) (β 4 t 6) = wyF β t a 0 q
theorem tl_step {β : Bw} {L : Lw} (hg : GB β L) {t q n l : Nat} {M : Mw} (ht : t < β 0 0 5) (hn : n < β 4 t 6) (hl : l < 64) (hP : TlP β t q n l M) : ∃ M', F_X2_pass (nI (β 8 t n)) (nI (ansH l n)) (M.1 19 0 n l) M = some M' ∧ Fr (fun κ _ => κ = 19 ∨ κ = 20) M M' ∧ TlP β t q n (l + 1) M' := by
  have n6 := (hg.2.2.2.1 t ht).2.2.2.2.2.2.2.2.2
  obtain ⟨-, -, hv, hbits⟩ := hg.2.2.2.2.1 t n ht hn
  obtain ⟨c, o, h1, h2, h3⟩ := hP
  obtain ⟨M', q1, q2, q3, q4⟩ := c_pass (M := M) (v := β 8 t n) (h := ansH l n) (x := M.1 19 0 n l) hv (ansH_lt _ _)
  refine ⟨M', q1, q2, fun k h => c k h + (if (β 8 t n).testBit k = true ∧ h = ansH l n then c n l else 0), fun a => o a + (if β 8 t n = 0 ∧ a = ansH l n then c n l else 0), fun k hk h hh => ?_, fun a ha => ?_, fun a ha => ?_⟩
  · rw [q4 k hk h, h1 k hk h hh, h1 n (by omega) l hl]
    show _ = nI (c k h + (if (β 8 t n).testBit k = true ∧ h = ansH l n then c n l else 0))
    by_cases y : (β 8 t n).testBit k = true ∧ h = ansH l n
    · rw [if_pos y, if_pos y, nI_add]
    · rw [if_neg y, if_neg y, Int32.add_zero, Nat.add_zero]
  · rw [q3 a, h2 a ha, h1 n (by omega) l hl]
    show _ = nI (o a + (if β 8 t n = 0 ∧ a = ansH l n then c n l else 0))
    by_cases y : β 8 t n = 0 ∧ a = ansH l n
    · rw [if_pos y, if_pos y, nI_add]
    · rw [if_neg y, if_neg y, Int32.add_zero, Nat.add_zero]
  · have hno : (β 8 t n).testBit n = true → False := fun z => by have := (hbits n z).1; omega
    have h3a := h3 a ha
    -- the row of n itself
    have eA : dms (fun h => if l ≤ h then c n h * wyF β t a n h else 0) 64 = dms (fun h => if l + 1 ≤ h then c n h * wyF β t a n h else 0) 64 + c n l * wyF β t a n l := by
      rw [dms_c 64 (g := fun h => (if l + 1 ≤ h then c n h * wyF β t a n h else 0) + (if h = l then c n h * wyF β t a n h else 0)) (fun h _ => by
        by_cases z : h = l
        · rw [if_pos (by omega), if_neg (by omega), if_pos z, Nat.zero_add]
        · rw [if_neg z, Nat.add_zero]
          by_cases z2 : l ≤ h
          · rw [if_pos z2, if_pos (by omega)]
          · rw [if_neg z2, if_neg (by omega)])]
      rw [dms_a, dms_1 (f := fun h => c n h * wyF β t a n h), if_pos hl]
    have eB : dms (fun h => if l + 1 ≤ h then (c n h + (if (β 8 t n).testBit n = true ∧ h = ansH l n then c n l else 0)) * wyF β t a n h else 0) 64 = dms (fun h => if l + 1 ≤ h then c n h * wyF β t a n h else 0) 64 := by
      refine dms_c 64 (fun h _ => ?_)
      rw [if_neg (show ¬ ((β 8 t n).testBit n = true ∧ h = ansH l n) from fun z => hno z.1)]
      rfl
    have eC : dms (fun k => if n < k then dms (fun h => (c k h + (if (β 8 t n).testBit k = true ∧ h = ansH l n then c n l else 0)) * wyF β t a k h) 64 else 0) (β 4 t 6) = dms (fun k => if n < k then dms (fun h => c k h * wyF β t a k h) 64 else 0) (β 4 t 6) + c n l * dms (fun k => if (β 8 t n).testBit k = true then wyF β t a k (ansH l n) else 0) (β 4 t 6) := by
      rw [← dms_m, ← dms_a]
      refine dms_c (β 4 t 6) (fun k _ => ?_)
      by_cases zk : n < k
      · rw [if_pos zk, if_pos zk]
        by_cases zb : (β 8 t n).testBit k = true
        · rw [if_pos zb, dms_c 64 (g := fun h => c k h * wyF β t a k h + (if h = ansH l n then c n l * wyF β t a k h else 0)) (fun h _ => by
            by_cases zh : h = ansH l n
            · rw [if_pos ⟨zb, zh⟩, if_pos zh, Nat.add_mul]
            · rw [if_neg (fun y => zh y.2), if_neg zh, Nat.add_zero, Nat.add_zero])]
          rw [dms_a, dms_1 (f := fun h => c n l * wyF β t a k h), if_pos (ansH_lt _ _)]
        · rw [if_neg zb, Nat.mul_zero, Nat.add_zero]
          refine dms_c 64 (fun h _ => ?_)
          rw [if_neg (fun y => zb y.1), Nat.add_zero]
      · rw [if_neg zk, if_neg zk, if_neg (fun z => zk (hbits k z).1)]
        rfl
    have eW := wyF_eqN hg (a := a) ht (n := n) (h := l) hn
    show o a + (if β 8 t n = 0 ∧ a = ansH l n then c n l else 0) + dms (fun h => if l + 1 ≤ h then (c n h + (if (β 8 t n).testBit n = true ∧ h = ansH l n then c n l else 0)) * wyF β t a n h else 0) 64 + dms (fun k => if n < k then dms (fun h => (c k h + (if (β 8 t n).testBit k = true ∧ h = ansH l n then c n l else 0)) * wyF β t a k h) 64 else 0) (β 4 t 6) = _
    rw [eB, eC]
    rw [eA, eW, Nat.mul_add] at h3a
    have eD : c n l * (if β 8 t n = 0 ∧ ansH l n = a then 1 else 0) = (if β 8 t n = 0 ∧ a = ansH l n then c n l else 0) := by
      by_cases z : β 8 t n = 0 ∧ ansH l n = a
      · rw [if_pos z, if_pos ⟨z.1, z.2.symm⟩, Nat.mul_one]
      · rw [if_neg z, if_neg (fun y => z ⟨y.1, y.2.symm⟩), Nat.mul_zero]
    rw [eD] at h3a
    omega
theorem tl_next {β : Bw} {t q n : Nat} {M : Mw} (hn : n + 1 < β 4 t 6) (hP : TlP β t q n 64 M) : TlP β t q (n + 1) 0 M := by
  obtain ⟨c, o, h1, h2, h3⟩ := hP
  refine ⟨c, o, h1, h2, fun a ha => ?_⟩
  have h3a := h3 a ha
  rw [dms_0 64 (fun h hh => if_neg (by omega)), Nat.add_zero] at h3a
  rw [← h3a, Nat.add_assoc]
  congr 1
  have e1 : dms (fun h => if 0 ≤ h then c (n + 1) h * wyF β t a (n + 1) h else 0) 64 = dms (fun h => c (n + 1) h * wyF β t a (n + 1) h) 64 := dms_c 64 (fun h _ => if_pos (Nat.zero_le _))
  have e2 : dms (fun k => if n < k then dms (fun h => c k h * wyF β t a k h) 64 else 0) (β 4 t 6) = dms (fun k => (if n + 1 < k then dms (fun h => c k h * wyF β t a k h) 64 else 0) + (if k = n + 1 then dms (fun h => c k h * wyF β t a k h) 64 else 0)) (β 4 t 6) := dms_c (β 4 t 6) (fun k _ => by
      by_cases y : k = n + 1
      · rw [if_pos (by omega), if_neg (by omega), if_pos y, Nat.zero_add]
      · rw [if_neg y, Nat.add_zero]
        by_cases y2 : n < k
        · rw [if_pos y2, if_pos (by omega)]
        · rw [if_neg y2, if_neg (by omega)])
  rw [e1, e2, dms_a, dms_1 (f := fun k => dms (fun h => c k h * wyF β t a k h) 64), if_pos hn, Nat.add_comm]
theorem tl_done {β : Bw} {t q n : Nat} {M : Mw} (hn : n + 1 = β 4 t 6) (hP : TlP β t q n 64 M) : ∀ a, a < 64 → M.1 20 0 0 a = nI (wyF β t a 0 q) := by
  obtain ⟨c, o, h1, h2, h3⟩ := hP
  intro a ha
  have h3a := h3 a ha
  rw [dms_0 64 (fun h hh => if_neg (by omega)), dms_0 (β 4 t 6) (fun k hk => if_neg (by omega))] at h3a
  rw [h2 a ha, ← h3a]
  rfl
theorem tl_begin {β : Bw} {t q : Nat} {M : Mw} (hq : q < 64) (hN : 1 ≤ β 4 t 6) (h19 : ∀ k, k < 6 → ∀ h, h < 64 → M.1 19 0 k h = if k = 0 ∧ h = q then 1 else 0) (h20 : ∀ a, a < 64 → M.1 20 0 0 a = 0) : TlP β t q 0 0 M := by
  refine ⟨fun k h => if k = 0 ∧ h = q then 1 else 0, fun _ => 0, fun k hk h hh => ?_, fun a ha => h20 a ha, fun a ha => ?_⟩
  · rw [h19 k hk h hh]
    show _ = nI (if k = 0 ∧ h = q then 1 else 0)
    by_cases c : k = 0 ∧ h = q
    · rw [if_pos c, if_pos c]; rfl
    · rw [if_neg c, if_neg c]; rfl
  · have e1 : dms (fun h => if 0 ≤ h then (if 0 = 0 ∧ h = q then 1 else 0) * wyF β t a 0 h else 0) 64 = wyF β t a 0 q := by
      rw [dms_c 64 (g := fun h => if h = q then wyF β t a 0 h else 0) (fun h _ => by
        rw [if_pos (Nat.zero_le _)]
        by_cases z : h = q
        · rw [if_pos ⟨rfl, z⟩, if_pos z, Nat.one_mul]
        · rw [if_neg (fun y => z y.2), if_neg z, Nat.zero_mul]), dms_1 (f := fun h => wyF β t a 0 h), if_pos hq]
    have e2 : dms (fun k => if 0 < k then dms (fun h => (if k = 0 ∧ h = q then 1 else 0) * wyF β t a k h) 64 else 0) (β 4 t 6) = 0 := dms_0 (β 4 t 6) (fun k _ => by
      by_cases z : 0 < k
      · rw [if_pos z]
        exact dms_0 64 (fun h _ => by rw [if_neg (fun y => by have := y.1; omega), Nat.zero_mul])
      · rw [if_neg z])
    show 0 + dms (fun h => if 0 ≤ h then (if 0 = 0 ∧ h = q then 1 else 0) * wyF β t a 0 h else 0) 64 + dms (fun k => if 0 < k then dms (fun h => (if k = 0 ∧ h = q then 1 else 0) * wyF β t a k h) 64 else 0) (β 4 t 6) = _
    rw [e1, e2]
    omega
theorem c_tally {M : Mw} {β : Bw} {L : Lw} (hg : GB β L) {t q : Nat} (hB : CBd 1 M β L) (ht : t < β 0 0 5) (hq : q < 64) : ∃ M', F_X2_tallyAnswers 1 (nI t) (nI q) M = some M' ∧ Fr (fun κ _ => κ = 19 ∨ κ = 20) M M' ∧ ∀ a, a < 64 → M'.1 20 0 0 a = nI (wyF β t a 0 q) := by
  have hT5 := hg.1.2.2.2.2
  obtain ⟨-, -, -, -, -, -, -, -, n1, n6⟩ := hg.2.2.2.1 t ht
  have hin5 : inb (nI t) 5 = true := inb_nI (by omega) (by omega)
  -- the walk over the nodes
  have hgo : ∀ M0 : Mw, Fr (fun κ _ => κ = 19 ∨ κ = 20) M M0 → TlP β t q 0 0 M0 → ∃ M', it (fun _ _ => none) (B_X2_tallyAnswers_63 1 (nI t)) FU (nI 0) M0 = some M' ∧ Fr (fun κ _ => κ = 19 ∨ κ = 20) M M' ∧ ∀ a, a < 64 → M'.1 20 0 0 a = nI (wyF β t a 0 q) := by
    intro M0 hF0 hT0
    exact it_for (z := fun _ _ => none) (B := B_X2_tallyAnswers_63 1 (nI t)) (n := β 4 t 6)
      (P := fun n M1 => Fr (fun κ _ => κ = 19 ∨ κ = 20) M M1 ∧ ((n < β 4 t 6 → TlP β t q n 0 M1) ∧ (n = β 4 t 6 → ∀ a, a < 64 → M1.1 20 0 0 a = nI (wyF β t a 0 q))))
      (Q := fun o => ∃ M', o = some M' ∧ Fr (fun κ _ => κ = 19 ∨ κ = 20) M M' ∧ ∀ a, a < 64 → M'.1 20 0 0 a = nI (wyF β t a 0 q))
      (fun kk n M1 hn hP => by
        obtain ⟨p1, p2, -⟩ := hP
        left
        unfold B_X2_tallyAnswers_63
        rw [if_pos hin5, clampI (by omega), p1.k1 (κ := 4) (fun b => by omega), hB.2.2.1 t ht 6 (by omega), if_neg (nI_ge hn (by omega))]
        have key := it_for (z := fun _ _ => none) (B := B_X2_tallyAnswers_80 1 kk (nI t) (nI n)) (n := 64)
          (P := fun l M2 => Fr (fun κ _ => κ = 19 ∨ κ = 20) M M2 ∧ TlP β t q n l M2)
          (Q := fun o => ∃ M', o = kk (nI (n + 1)) M' ∧ Fr (fun κ _ => κ = 19 ∨ κ = 20) M M' ∧ ((n + 1 < β 4 t 6 → TlP β t q (n + 1) 0 M') ∧ (n + 1 = β 4 t 6 → ∀ a, a < 64 → M'.1 20 0 0 a = nI (wyF β t a 0 q))))
          (fun k8 l M2 hl hP2 => by
            obtain ⟨r1, r2⟩ := hP2
            left
            obtain ⟨M3, s1, s2, s3⟩ := tl_step hg ht hn hl r2
            have hinn : inb (nI n) 6 = true := inb_nI (by omega) (by omega)
            unfold B_X2_tallyAnswers_80
            rw [if_neg (show ¬ (64 : Int32) ≤ nI l from nI_ge (b := 64) hl (by omega)), if_pos hin5, if_pos hinn, c_ans hl (by omega), Option.bind_some, if_pos hinn, if_pos (inb_nI hl (by omega)), clampI (by omega), clampI (by omega), clampI (by omega), r1.k1 (κ := 8) (fun b => by omega), (hB.2.2.2.1 t ht n hn).2, s1, Option.bind_some, nI_1, bd_eq]
            exact ⟨M3, rfl, r1.trans s2, s3⟩)
          (fun k8 M2 hP2 => by
            obtain ⟨r1, r2⟩ := hP2
            unfold B_X2_tallyAnswers_80
            rw [if_pos (show (64 : Int32) ≤ nI 64 by decide), nI_1, bd_eq]
            exact ⟨M2, rfl, r1, fun hn' => tl_next hn' r2, fun hn' => tl_done hn' r2⟩)
          FU 0 M1 (Nat.zero_le _) (by unfold FU; omega) ⟨p1, p2 hn⟩
        rw [nI_0] at key
        exact key)
      (fun kk M1 hP => by
        obtain ⟨p1, -, p3⟩ := hP
        unfold B_X2_tallyAnswers_63
        rw [if_pos hin5, clampI (by omega), p1.k1 (κ := 4) (fun b => by omega), hB.2.2.1 t ht 6 (by omega), if_pos (Int32.le_refl _)]
        exact ⟨M1, rfl, p1, p3 rfl⟩)
      FU 0 M0 (Nat.zero_le _) (by unfold FU; omega) ⟨hF0, fun _ => hT0, fun hz => by omega⟩
  have key := it_for (z := fun _ _ => none) (B := B_X2_tallyAnswers_3 1 (nI t) (nI q)) (n := 64)
    (P := fun l M1 => Fr (fun κ _ => κ = 19 ∨ κ = 20) M M1 ∧ (∀ a, a < l → M1.1 20 0 0 a = 0) ∧ ∀ k, k < 6 → ∀ h, h < l → M1.1 19 0 k h = 0)
    (Q := fun o => ∃ M', o = some M' ∧ Fr (fun κ _ => κ = 19 ∨ κ = 20) M M' ∧ ∀ a, a < 64 → M'.1 20 0 0 a = nI (wyF β t a 0 q))
    (fun kk l M1 hl hP => by
      obtain ⟨p1, p2, p3⟩ := hP
      left
      unfold B_X2_tallyAnswers_3
      rw [if_neg (show ¬ (64 : Int32) ≤ nI l from nI_ge (b := 64) hl (by omega)), if_pos (inb_nI hl (by omega)), clampI (by omega), bd_eq]
      have key2 := it_for (z := fun _ _ => none) (B := B_X2_tallyAnswers_21 1 kk (nI t) (nI q) (nI l)) (n := 6)
        (P := fun m M2 => Fr (fun κ _ => κ = 19 ∨ κ = 20) M M2 ∧ (∀ a, a < l + 1 → M2.1 20 0 0 a = 0) ∧ (∀ k, k < 6 → ∀ h, h < l → M2.1 19 0 k h = 0) ∧ ∀ k, k < m → M2.1 19 0 k l = 0)
        (Q := fun o => ∃ M', o = kk (nI (l + 1)) M' ∧ Fr (fun κ _ => κ = 19 ∨ κ = 20) M M' ∧ (∀ a, a < l + 1 → M'.1 20 0 0 a = 0) ∧ ∀ k, k < 6 → ∀ h, h < l + 1 → M'.1 19 0 k h = 0)
        (fun k2 m M2 hm hP2 => by
          obtain ⟨r1, r2, r3, r4⟩ := hP2
          left
          unfold B_X2_tallyAnswers_21
          rw [if_neg (show ¬ (6 : Int32) ≤ nI m from nI_ge (b := 6) hm (by omega)), if_pos (inb_nI hm (by omega)), if_pos (inb_nI hl (by omega)), clampI (by omega), clampI (by omega), bd_eq, nI_1, bd_eq]
          refine ⟨_, rfl, r1.trans (Fr.uI (Or.inl rfl)), fun a ha => by rw [uI_k (by decide)]; exact r2 a ha, fun k hk h hh => ?_, fun k hk => ?_⟩
          · rw [uI1, if_neg (fun z => by have := z.2.2.2; omega)]
            exact r3 k hk h hh
          · rw [uI1]
            by_cases z : k = m
            · rw [if_pos ⟨rfl, rfl, z, rfl⟩]
            · rw [if_neg (fun y => z y.2.2.1)]
              exact r4 k (by omega))
        (fun k2 M2 hP2 => by
          obtain ⟨r1, r2, r3, r4⟩ := hP2
          unfold B_X2_tallyAnswers_21
          rw [if_pos (show (6 : Int32) ≤ nI 6 by decide), nI_1, bd_eq]
          refine ⟨M2, rfl, r1, r2, fun k hk h hh => ?_⟩
          by_cases z : h = l
          · rw [z]; exact r4 k hk
          · exact r3 k hk h (by omega))
        FU 0 (uIw M1 20 0 0 l 0) (Nat.zero_le _) (by unfold FU; omega) ⟨p1.trans (Fr.uI (Or.inr rfl)), fun a ha => by
          rw [uI1]
          by_cases z : a = l
          · rw [if_pos ⟨rfl, rfl, rfl, z⟩]
          · rw [if_neg (fun y => z y.2.2.2)]
            exact p2 a (by omega), fun k hk h hh => by rw [uI_k (by decide)]; exact p3 k hk h hh, fun k hk => by omega⟩
      rw [nI_0] at key2
      exact key2)
    (fun kk M1 hP => by
      obtain ⟨p1, p2, p3⟩ := hP
      unfold B_X2_tallyAnswers_3
      rw [if_pos (show (64 : Int32) ≤ nI 64 by decide), if_pos (show inb 0 6 = true by decide), if_pos (inb_nI hq (by omega)), clampI (by omega), bd_eq]
      have e0 : (0 : Int32).toNatClampNeg = 0 := by decide
      rw [e0]
      have := hgo (uIw M1 19 0 0 q 1) (p1.trans (Fr.uI (Or.inl rfl))) (tl_begin hq n1 (fun k hk h hh => by
        rw [uI1]
        by_cases z : k = 0 ∧ h = q
        · rw [if_pos ⟨rfl, rfl, z.1, z.2⟩, if_pos z]
        · rw [if_neg (fun y => z ⟨y.2.2.1, y.2.2.2⟩), if_neg z]
          exact p3 k hk h hh) (fun a ha => by rw [uI_k (by decide)]; exact p2 a ha))
      rw [nI_0] at this
      exact this)
    FU 0 M (Nat.zero_le _) (by unfold FU; omega) ⟨Fr.rfl, fun a ha => by omega, fun k hk h hh => by omega⟩
  rw [nI_0] at key
  unfold F_X2_tallyAnswers
  exact key
