/-! SUCCESSORS: by bits -/
def scp (v k : Nat) : List Nat := (List.range k).filter (fun j => v.testBit j)
abbrev scl (v : Nat) : List Nat := scp v 6
theorem scp_succ (v k : Nat) : scp v (k + 1) = if v.testBit k = true then scp v k ++ [k] else scp v k := by
  unfold scp
  rw [List.range_succ, List.filter_append]
  by_cases c : v.testBit k = true
  · rw [if_pos c]
    simp [c]
  · rw [if_neg c]
    simp [c]
theorem scl_at : ∀ v, v < 64 → ∀ i, i < (scl v).length → (scl v).getD i 0 < 6 ∧ v.testBit ((scl v).getD i 0) = true ∧ (scp v ((scl v).getD i 0)).length = i := by decide +kernel
theorem scp_mono : ∀ v, v < 64 → ∀ x, x < 7 → ∀ t, t ≤ x → (scp v t).length ≤ (scp v x).length := by decide +kernel
theorem scl_len : ∀ v, v < 64 → (scl v).length ≤ 6 := by decide +kernel
theorem scp_top : ∀ v, v < 64 → ∀ N, N < 7 → (∀ k, k < 6 → v.testBit k = true → k < N) → scp v N = scl v := by decide +kernel
/-- the node behind one (one more; 0: none), of a job -/
def fol (β : Bw) (t n j : Nat) : Nat := if (scl (β 8 t n)).length = 0 then 0 else (scl (β 8 t n)).getD (j % (scl (β 8 t n)).length) 0 + 1
def Mz : Mw := (fun _ _ _ _ => 0, fun _ _ _ _ => 0, fun _ _ _ _ => 0)
theorem c_bc : ∀ v, v < 64 → F_J6_bitCount_0f7a4 (nI v) Mz = some (nI (scl v).length) := by decide +kernel
theorem c_f44 : ∀ v, v < 64 → ∀ i, i < (scl v).length → it (fun _ _ => none) (B_X2_follower_44 0 (nI v) Mz) FU (nI i) 0 = some (nI ((scl v).getD i 0)) := by decide +kernel
theorem c_hasTask {b : Nat} {M : Mw} {T : Nat} (hT : M.1 0 b 0 5 = nI T) (h5 : T ≤ 5) (p : Int32) : F_X0_hasTask b p M = some (if ¬ p < 0 ∧ p < nI T then 1 else 0) := by
  unfold F_X0_hasTask
  rw [hT]
  by_cases h : p < 0
  · rw [if_pos h, if_neg (fun q => q.1 h)]
  · rw [if_neg h]
    by_cases h2 : nI T ≤ p
    · rw [if_pos h2, if_neg (fun q => absurd q.2 (Int32.not_lt.mpr h2))]
    · rw [if_neg h2, if_pos ⟨h, Int32.not_le.mp h2⟩]
theorem c_hasTask1 {b : Nat} {M : Mw} {T t : Nat} (hT : M.1 0 b 0 5 = nI T) (h5 : T ≤ 5) (ht : t < T) : F_X0_hasTask b (nI t) M = some 1 := by
  rw [c_hasTask hT h5, if_pos ⟨nI_pos (by omega), nI_lt ht (by omega)⟩]
theorem c_hasNode1 {b : Nat} {M : Mw} {β : Bw} {L : Lw} (hg : GB β L) (h : CBd b M β L) {t n : Nat} (ht : t < β 0 0 5) (hn : n < β 4 t 6) : F_X0_hasNode b (nI t) (nI n) M = some 1 := by
  have hT := h.1 5 (by omega)
  have h5 := hg.1.2.2.2.2
  have h6 := (hg.2.2.2.1 t ht).2.2.2.2.2.2.2.2.2
  have hN := h.2.2.1 t ht 6 (by omega)
  unfold F_X0_hasNode
  rw [c_hasTask1 hT h5 ht, Option.bind_some, if_neg (by decide), if_neg (nI_pos (by omega)), if_pos (inb_nI (by omega) (by omega)), clampI (by omega), hN, if_neg (nI_ge hn (by omega))]
theorem c_follower {b : Nat} {M : Mw} {β : Bw} {L : Lw} (hg : GB β L) (h : CBd b M β L) {t n j : Nat} (ht : t < β 0 0 5) (hn : n < β 4 t 6) (hj : j ≤ 1000) : F_X2_follower b (nI t) (nI n) (nI j) M = some (nI (fol β t n j) + (-1)) := by
  have h5 := hg.1.2.2.2.2
  have h6 := (hg.2.2.2.1 t ht).2.2.2.2.2.2.2.2.2
  obtain ⟨-, -, hv, -⟩ := hg.2.2.2.2.1 t n ht hn
  have e8 := (h.2.2.2.1 t ht n hn).2
  unfold F_X2_follower fol
  rw [c_hasNode1 hg h ht hn, Option.bind_some, if_neg (by decide), if_pos (inb_nI (by omega) (by omega)), if_pos (inb_nI (by omega) (by omega)), clampI (by omega), clampI (by omega), e8]
  simp only [bd_eq]
  generalize hw : β 8 t n = v at hv
  have hb : F_J6_bitCount_0f7a4 (nI v) M = some (nI (scl v).length) := c_bc v hv
  rw [hb, Option.bind_some]
  have hl := scl_len v hv
  generalize hc : (scl v).length = c at hl
  by_cases h0 : c = 0
  · rw [if_pos (by rw [h0]; rfl), if_pos h0]
    decide +kernel
  · have hc0 : ¬ nI c = 0 := nI_ne0 (by omega) (by omega)
    rw [if_neg hc0, if_neg hc0, if_neg h0, pk_rem (by omega) (by omega) (by omega), pk_m1]
    have hlt : j % c < (scl v).length := by rw [hc]; exact Nat.mod_lt _ (by omega)
    exact c_f44 v hv (j % c) hlt
/-- a loop with a sum and a counter -/
theorem it_forA {β : Type} {z : Int32 → Int32 → Option β} {B : (Int32 → Int32 → Option β) → Int32 → Int32 → Option β} {n : Nat} {P : Nat → Int32 → Prop} {Q : Option β → Prop}
    (step : ∀ (k : Int32 → Int32 → Option β) (t : Nat) (a : Int32), t < n → P t a → (∃ a', B k a (nI t) = k a' (nI (t + 1)) ∧ P (t + 1) a') ∨ Q (B k a (nI t)))
    (done : ∀ (k : Int32 → Int32 → Option β) (a : Int32), P n a → Q (B k a (nI n))) :
    ∀ (f t : Nat) (a : Int32), t ≤ n → n < t + f → P t a → Q (it z B f a (nI t)) := by
  intro f
  induction f with
  | zero => intro t a h1 h2; omega
  | succ f ih =>
    intro t a h1 h2 hP
    rw [it_succ]
    by_cases h : t < n
    · rcases step (it z B f) t a h hP with ⟨a', e, hP'⟩ | hq
      · rw [e]
        exact ih (t + 1) a' h (by omega) hP'
      · exact hq
    · obtain rfl : t = n := by omega
      exact done _ a hP
theorem bit_at : ∀ s, s < 64 → ∀ n, n < 6 → ((((nI s) >>> (nI n &&& 31)) &&& 1 = 1) ↔ s.testBit n = true) := by decide +kernel
/-- the nodes alone, as the reference sees them -/
def RNd (M : Mw) (β : Bw) : Prop := (∀ t, t < β 0 0 5 → M.1 51 0 0 (11 + 7 * t + 6) = nI (β 4 t 6)) ∧ (∀ t, t < β 0 0 5 → ∀ n, n < β 4 t 6 → M.1 51 0 0 (46 + 2 * (6 * t + n)) = nI (β 6 t n) ∧ ∃ s : Nat, s < 64 ∧ M.1 51 0 0 (46 + 2 * (6 * t + n) + 1) = nI s ∧ ∀ k, s.testBit k = decide (k < n ∧ (β 8 t k).testBit n = true))
theorem RBd.n {M : Mw} {β : Bw} {L : Lw} (h : RBd M β L) : RNd M β := ⟨fun t ht => h.2.1 t ht 6 (by omega) (by omega) (by omega), h.2.2.2.1⟩
theorem r_nodesN {M : Mw} {β : Bw} {L : Lw} (hg : GB β L) (h : RNd M β) {t : Nat} (ht : t < β 0 0 5) : F_X10_nodesOf (nI t) M = some (nI (β 4 t 6)) := by
  have h5 := hg.1.2.2.2.2
  unfold F_X10_nodesOf
  rw [show (6 : Int32) = nI 6 from rfl, r_told (by omega) (by omega), Option.bind_some, h.1 t ht]
theorem r_behindN {M : Mw} {β : Bw} {L : Lw} (hg : GB β L) (h : RNd M β) {t k n : Nat} (ht : t < β 0 0 5) (hk : k < β 4 t 6) (hn : n < 6) : F_X10_isBehind (nI t) (nI k) (nI n) M = some (if n < k ∧ (β 8 t n).testBit k = true then 1 else 0) := by
  have h5 := hg.1.2.2.2.2
  have h6 := (hg.2.2.2.1 t ht).2.2.2.2.2.2.2.2.2
  obtain ⟨-, s, hs, es, hb⟩ := h.2 t ht k hk
  unfold F_X10_isBehind
  have e : (46 + (2 * ((6 * nI t) + nI k))) + 1 = nI (46 + 2 * (6 * t + k) + 1) := by
    rw [show (46 : Int32) = nI 46 from rfl, show (2 : Int32) = nI 2 from rfl, show (6 : Int32) = nI 6 from rfl, show (1 : Int32) = nI 1 from rfl, pk_mul, nI_add, pk_mul, nI_add, nI_add]
  rw [e, if_pos (inb_nI (by omega) (by omega)), clampI (by omega), es]
  have hbb := hb n
  by_cases c : s.testBit n = true
  · rw [if_pos ((bit_at s hs n hn).mpr c)]
    rw [c] at hbb
    rw [if_pos (of_decide_eq_true hbb.symm)]
  · rw [if_neg (mt (bit_at s hs n hn).mp c)]
    rw [if_neg (fun q => c (by rw [hbb]; exact decide_eq_true q))]
theorem r_followersN {M : Mw} {β : Bw} {L : Lw} (hg : GB β L) (h : RNd M β) {t n : Nat} (ht : t < β 0 0 5) (hn : n < β 4 t 6) : F_X10_followers (nI t) (nI n) M = some (nI (scl (β 8 t n)).length) := by
  have h5 := hg.1.2.2.2.2
  have h6 := (hg.2.2.2.1 t ht).2.2.2.2.2.2.2.2.2
  obtain ⟨-, -, hv, hbits⟩ := hg.2.2.2.2.1 t n ht hn
  unfold F_X10_followers
  simp only [bd_eq, nI_1]
  have hlow : ∀ k, k ≤ n + 1 → scp (β 8 t n) k = [] := by
    intro k hk
    unfold scp
    apply List.filter_eq_nil_iff.mpr
    intro j hj hb
    have := (hbits j hb).1
    have := List.mem_range.mp hj
    omega
  have key := it_forA (z := fun _ _ => none) (B := B_X10_followers_7 (nI t) (nI n) M) (n := β 4 t 6) (P := fun k a => n < k ∧ a = nI (scp (β 8 t n) k).length) (Q := fun o => o = some (nI (scl (β 8 t n)).length)) (fun k i a hi hP => by
    obtain ⟨hP0, rfl⟩ := hP
    left
    unfold B_X10_followers_7
    rw [r_nodesN hg h ht, Option.bind_some, if_neg (nI_ge hi (by omega)), r_behindN hg h ht hi (by omega), Option.bind_some]
    simp only [bd_eq, nI_1]
    rw [scp_succ]
    by_cases c : (β 8 t n).testBit i = true
    · have e1 : (if n < i ∧ (β 8 t n).testBit i = true then (1 : Int32) else 0) = 1 := if_pos ⟨hP0, c⟩
      rw [e1, if_pos c, if_neg (by decide)]
      exact ⟨_, rfl, by omega, by rw [List.length_append]; rfl⟩
    · have e1 : (if n < i ∧ (β 8 t n).testBit i = true then (1 : Int32) else 0) = 0 := if_neg (fun q => c q.2)
      rw [e1, if_neg c, if_pos rfl]
      exact ⟨_, rfl, by omega, Int32.add_zero _⟩) (fun k a hP => by
    obtain ⟨hP0, rfl⟩ := hP
    unfold B_X10_followers_7
    rw [r_nodesN hg h ht, Option.bind_some, if_pos (nI_le (Nat.le_refl _) (by omega)), scp_top _ hv _ (by omega) (fun k _ hb => (hbits k hb).2)]) FU (n + 1) 0 hn (by unfold FU; omega) ⟨by omega, by rw [hlow _ (Nat.le_refl _)]; rfl⟩
  exact key
theorem r_followerN {M : Mw} {β : Bw} {L : Lw} (hg : GB β L) (h : RNd M β) {t n i : Nat} (ht : t < β 0 0 5) (hn : n < β 4 t 6) (hi : i < (scl (β 8 t n)).length) : F_X10_follower (nI t) (nI n) (nI i) M = some (nI ((scl (β 8 t n)).getD i 0)) := by
  have h5 := hg.1.2.2.2.2
  have h6 := (hg.2.2.2.1 t ht).2.2.2.2.2.2.2.2.2
  obtain ⟨-, -, hv, hbits⟩ := hg.2.2.2.2.1 t n ht hn
  have hl6 := scl_len _ hv
  obtain ⟨x6, xb, xl⟩ := scl_at _ hv i hi
  generalize hx : (scl (β 8 t n)).getD i 0 = x at x6 xb xl
  obtain ⟨xn, xN⟩ := hbits x xb
  have hlow : ∀ k, k ≤ n + 1 → scp (β 8 t n) k = [] := by
    intro k hk
    unfold scp
    apply List.filter_eq_nil_iff.mpr
    intro j hj hb
    have := (hbits j hb).1
    have := List.mem_range.mp hj
    omega
  unfold F_X10_follower
  simp only [bd_eq, nI_1]
  have key := it_forA (z := fun _ _ => none) (B := B_X10_follower_8 (nI t) (nI n) M) (n := x) (P := fun k a => n < k ∧ ∃ c : Nat, a = nI c ∧ c + (scp (β 8 t n) k).length = i) (Q := fun o => o = some (nI x)) (fun k j a hj hP => by
    obtain ⟨hP0, c0, rfl, hc⟩ := hP
    left
    unfold B_X10_follower_8 B_X10_follower_24
    rw [r_behindN hg h ht (by omega) (by omega), Option.bind_some]
    simp only [Option.bind_some, bd_eq, nI_1]
    have hm := scp_mono _ hv x (by omega) (j + 1) hj
    rw [scp_succ] at hm ⊢
    by_cases c : (β 8 t n).testBit j = true
    · have e1 : (if n < j ∧ (β 8 t n).testBit j = true then (1 : Int32) else 0) = 1 := if_pos ⟨hP0, c⟩
      rw [if_pos c] at hm ⊢
      rw [e1, if_neg (by decide)]
      rw [List.length_append, xl] at hm
      have hm2 : (scp (β 8 t n) j).length + 1 ≤ i := hm
      rw [if_neg (nI_nle (by omega) (by omega)), if_neg (by decide)]
      refine ⟨_, rfl, by omega, c0 - 1, ?_, ?_⟩
      · rw [show (1 : Int32) = nI 1 from rfl, pk_sub (by omega)]
      · rw [List.length_append]
        show c0 - 1 + ((scp (β 8 t n) j).length + 1) = i
        omega
    · have e1 : (if n < j ∧ (β 8 t n).testBit j = true then (1 : Int32) else 0) = 0 := if_neg (fun q => c q.2)
      rw [if_neg c] at hm ⊢
      rw [e1, if_pos rfl, if_pos rfl]
      exact ⟨_, rfl, by omega, c0, Int32.sub_zero _, hc⟩) (fun k a hP => by
    obtain ⟨hP0, c0, rfl, hc⟩ := hP
    unfold B_X10_follower_8
    rw [r_behindN hg h ht (by omega) (by omega), Option.bind_some]
    have e1 : (if n < x ∧ (β 8 t n).testBit x = true then (1 : Int32) else 0) = 1 := if_pos ⟨xn, xb⟩
    rw [e1, if_neg (by decide), if_pos (by
      rw [show c0 = 0 by omega]
      decide +kernel)]) FU (n + 1) (nI i) (by omega) (by unfold FU; omega) ⟨by omega, i, rfl, by rw [hlow _ (Nat.le_refl _)]; rfl⟩
  exact key
theorem r_nodes {M : Mw} {β : Bw} {L : Lw} (hg : GB β L) (h : RBd M β L) {t : Nat} (ht : t < β 0 0 5) : F_X10_nodesOf (nI t) M = some (nI (β 4 t 6)) := r_nodesN hg h.n ht
theorem r_behind {M : Mw} {β : Bw} {L : Lw} (hg : GB β L) (h : RBd M β L) {t k n : Nat} (ht : t < β 0 0 5) (hk : k < β 4 t 6) (hn : n < 6) : F_X10_isBehind (nI t) (nI k) (nI n) M = some (if n < k ∧ (β 8 t n).testBit k = true then 1 else 0) := r_behindN hg h.n ht hk hn
theorem r_followers {M : Mw} {β : Bw} {L : Lw} (hg : GB β L) (h : RBd M β L) {t n : Nat} (ht : t < β 0 0 5) (hn : n < β 4 t 6) : F_X10_followers (nI t) (nI n) M = some (nI (scl (β 8 t n)).length) := r_followersN hg h.n ht hn
theorem r_follower {M : Mw} {β : Bw} {L : Lw} (hg : GB β L) (h : RBd M β L) {t n i : Nat} (ht : t < β 0 0 5) (hn : n < β 4 t 6) (hi : i < (scl (β 8 t n)).length) : F_X10_follower (nI t) (nI n) (nI i) M = some (nI ((scl (β 8 t n)).getD i 0)) := r_followerN hg h.n ht hn hi
