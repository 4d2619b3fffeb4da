/-! COSTS AND WAYS, the reference -/
theorem it_for3N {β : Type} {z : Int32 → Int32 → Int32 → Option β} {B : (Int32 → Int32 → Int32 → Option β) → Int32 → Int32 → Int32 → Option β} {n : Nat} {P : Nat → Int32 → Int32 → Prop} {Q : Option β → Prop}
    (step : ∀ (k : Int32 → Int32 → Int32 → Option β) (t : Nat) (a c : Int32), t < n → P t a c → (∃ a' c', B k a c (nI t) = k a' c' (nI (t + 1)) ∧ P (t + 1) a' c') ∨ Q (B k a c (nI t)))
    (done : ∀ (k : Int32 → Int32 → Int32 → Option β) (a c : Int32), P n a c → Q (B k a c (nI n))) :
    ∀ (f t : Nat) (a c : Int32), t ≤ n → n < t + f → P t a c → Q (it z B f a c (nI t)) := by
  intro f
  induction f with
  | zero => intro t a c h1 h2; omega
  | succ f ih =>
    intro t a c h1 h2 hP
    rw [it_succ]
    by_cases h : t < n
    · rcases step (it z B f) t a c h hP with ⟨a', c', e, hP'⟩ | hq
      · rw [e]
        exact ih (t + 1) a' c' h (by omega) hP'
      · exact hq
    · obtain rfl : t = n := by omega
      exact done _ a c hP
theorem RWd.n {M : Mw} {β : Bw} {L : Lw} (hw : RWd (M.1 51 0 0) β L) : RNd M β := ⟨fun t ht => hw.2.1 t ht 6 (by omega), hw.2.2.1⟩
theorem RNd.e {M M' : Mw} {β : Bw} (h : RNd M β) (e : M'.1 51 = M.1 51) : RNd M' β := by
  unfold RNd at h ⊢
  rw [e]
  exact h
def agg (w : Nat) (g : Nat → Nat) (s0 : Nat) (l : List Nat) : Nat := match w with
  | 0 => (match l with | [] => s0 | x :: l => l.foldl (fun a k => min a (g k)) (g x))
  | 1 => (match l with | [] => s0 | x :: l => l.foldl (fun a k => max a (g k)) (g x))
  | _ => l.foldl (fun a k => a + g k) s0
theorem agg_app0 {g : Nat → Nat} {s0 k : Nat} : ∀ l : List Nat, agg 0 g s0 (l ++ [k]) = if l = [] then g k else min (agg 0 g s0 l) (g k) := by
  intro l
  cases l with
  | nil => rfl
  | cons x l =>
    rw [if_neg (by intro q; cases q)]
    show (l ++ [k]).foldl (fun a k => min a (g k)) (g x) = _
    rw [List.foldl_append]
    rfl
theorem agg_app1 {g : Nat → Nat} {s0 k : Nat} : ∀ l : List Nat, agg 1 g s0 (l ++ [k]) = if l = [] then g k else max (agg 1 g s0 l) (g k) := by
  intro l
  cases l with
  | nil => rfl
  | cons x l =>
    rw [if_neg (by intro q; cases q)]
    show (l ++ [k]).foldl (fun a k => max a (g k)) (g x) = _
    rw [List.foldl_append]
    rfl
theorem agg_app2 {g : Nat → Nat} {s0 k : Nat} (l : List Nat) : agg 2 g s0 (l ++ [k]) = agg 2 g s0 l + g k := by
  show (l ++ [k]).foldl (fun a k => a + g k) s0 = _
  rw [List.foldl_append]
  rfl
theorem vN_agg {β : Bw} {t w n : Nat} {g : Nat → Nat} (hw : w ≤ 2) : vN β t w n g = (if w = 2 then 0 else β 6 t n) + agg w g (if scl (β 8 t n) = [] ∧ w = 2 then 1 else 0) (scl (β 8 t n)) := by
  rcases (by omega : w = 0 ∨ w = 1 ∨ w = 2) with rfl | rfl | rfl
  · rw [if_neg (by decide), if_neg (fun q => absurd q.2 (by decide))]
    unfold vN agg
    rfl
  · rw [if_neg (by decide), if_neg (fun q => absurd q.2 (by decide))]
    unfold vN agg
    cases scl (β 8 t n) with
    | nil => rfl
    | cons x l =>
      show β 6 t n + l.foldl (fun a k => max a (g k)) (max 0 (g x)) = β 6 t n + l.foldl (fun a k => max a (g k)) (g x)
      rw [Nat.zero_max]
  · rw [if_pos rfl, Nat.zero_add]
    unfold vN agg
    by_cases c : scl (β 8 t n) = []
    · show (if scl (β 8 t n) = [] then 1 else _) = _
      rw [if_pos c, if_pos ⟨c, rfl⟩, c]
      rfl
    · show (if scl (β 8 t n) = [] then 1 else _) = _
      rw [if_neg c, if_neg (fun q => c q.1)]
      rfl
/-- bounds -/
theorem foldmin_le {g : Nat → Nat} : ∀ (l : List Nat) (a : Nat), l.foldl (fun a k => min a (g k)) a ≤ a := by
  intro l
  induction l with
  | nil => intro a; exact Nat.le_refl _
  | cons x l ih => intro a; exact Nat.le_trans (ih _) (Nat.min_le_left _ _)
theorem foldmax_ge {g : Nat → Nat} : ∀ (l : List Nat) (a : Nat), a ≤ l.foldl (fun a k => max a (g k)) a := by
  intro l
  induction l with
  | nil => intro a; exact Nat.le_refl _
  | cons x l ih => intro a; exact Nat.le_trans (Nat.le_max_left _ _) (ih _)
theorem foldmax_le {g : Nat → Nat} {B : Nat} (hg : ∀ k, g k ≤ B) : ∀ (l : List Nat) (a : Nat), a ≤ B → l.foldl (fun a k => max a (g k)) a ≤ B := by
  intro l
  induction l with
  | nil => intro a h; exact h
  | cons x l ih => intro a h; exact ih _ (Nat.max_le.mpr ⟨h, hg x⟩)
theorem bst_le {β : Bw} {t : Nat} (h6 : ∀ n, n < β 4 t 6 → β 6 t n ≤ 9) (hN : 1 ≤ β 4 t 6) : ∀ d, (∀ n, bst β t 1 d n ≤ 9 * d) ∧ (∀ n, bst β t 0 d n ≤ bst β t 1 d n) := by
  intro d
  induction d with
  | zero => exact ⟨fun n => Nat.le_refl _, fun n => Nat.le_refl _⟩
  | succ d ih =>
    obtain ⟨i1, i2⟩ := ih
    refine ⟨fun n => ?_, fun n => ?_⟩
    · show (if n = β 4 t 6 - 1 - d then vN β t 1 n (bst β t 1 d) else bst β t 1 d n) ≤ _
      by_cases c : n = β 4 t 6 - 1 - d
      · rw [if_pos c]
        show β 6 t n + _ ≤ _
        have h1 := h6 n (by omega)
        have h2 := foldmax_le i1 (scl (β 8 t n)) 0 (Nat.zero_le _)
        omega
      · rw [if_neg c]
        have := i1 n
        omega
    · show (if n = β 4 t 6 - 1 - d then vN β t 0 n (bst β t 0 d) else bst β t 0 d n) ≤ (if n = β 4 t 6 - 1 - d then vN β t 1 n (bst β t 1 d) else bst β t 1 d n)
      by_cases c : n = β 4 t 6 - 1 - d
      · rw [if_pos c, if_pos c]
        show β 6 t n + _ ≤ β 6 t n + _
        cases scl (β 8 t n) with
        | nil => exact Nat.le_refl _
        | cons x l =>
          have h1 := foldmin_le (g := bst β t 0 d) l (bst β t 0 d x)
          have h2 := foldmax_ge (g := bst β t 1 d) l (max 0 (bst β t 1 d x))
          have h3 := i2 x
          have h4 := Nat.le_max_right 0 (bst β t 1 d x)
          show β 6 t n + l.foldl (fun a k => min a (bst β t 0 d k)) (bst β t 0 d x) ≤ β 6 t n + l.foldl (fun a k => max a (bst β t 1 d k)) (max 0 (bst β t 1 d x))
          omega
      · rw [if_neg c, if_neg c]
        exact i2 n
theorem goN_b {β : Bw} {L : Lw} (hg : GB β L) {t : Nat} (ht : t < β 0 0 5) : goN β t 0 ≤ goN β t 1 ∧ 1 ≤ goN β t 1 ∧ goN β t 1 ≤ 54 := by
  obtain ⟨-, -, -, -, -, -, -, -, n1, n6⟩ := hg.2.2.2.1 t ht
  have hu := hg.2.2.2.2.1 t
  obtain ⟨b1, b2⟩ := bst_le (β := β) (t := t) (fun n hn => (hu n ht hn).2.1) n1 (β 4 t 6)
  refine ⟨b2 0, ?_, ?_⟩
  · obtain ⟨N, hN⟩ : ∃ N, β 4 t 6 = N + 1 := ⟨β 4 t 6 - 1, by omega⟩
    unfold goN
    rw [hN]
    show 1 ≤ (if 0 = β 4 t 6 - 1 - N then vN β t 1 0 (bst β t 1 N) else bst β t 1 N 0)
    rw [if_pos (by omega)]
    show 1 ≤ β 6 t 0 + _
    have := (hu 0 ht (by omega)).1
    omega
  · have := b1 0
    unfold goN
    omega
theorem r_unitsW {M : Mw} {β : Bw} {L : Lw} (hx : GB β L) (h : RNd M β) {t n : Nat} (ht : t < β 0 0 5) (hn : n < β 4 t 6) : F_X10_unitsOf (nI t) (nI n) M = some (nI (β 6 t n)) := by
  have hT5 := hx.1.2.2.2.2
  have h6 := (hx.2.2.2.1 t ht).2.2.2.2.2.2.2.2.2
  rw [r_units (by omega) (by omega), (h.2 t ht n hn).1]
theorem r_goes {M : Mw} {β : Bw} {L : Lw} (hg : GB β L) (h : RNd M β) {t w : Nat} (ht : t < β 0 0 5) (hw : w ≤ 2) : ∃ M', F_X10_goes (nI t) (nI w) M = some (nI (goN β t w), M') ∧ Fr (fun κ _ => κ = 57) M M' := by
  have hT5 := hg.1.2.2.2.2
  obtain ⟨-, -, -, -, -, -, -, -, n1, n6⟩ := hg.2.2.2.1 t ht
  have hu := hg.2.2.2.2.1 t
  obtain ⟨b1, b2⟩ := bst_le (β := β) (t := t) (fun n hn => (hu n ht hn).2.1) n1 (β 4 t 6)
  have hbd : ∀ d n, d ≤ β 4 t 6 → w ≠ 2 → bst β t w d n ≤ 54 := by
    intro d n hd hw2
    obtain ⟨c1, c2⟩ := bst_le (β := β) (t := t) (fun n hn => (hu n ht hn).2.1) n1 d
    have h1 := c1 n
    have h2 := c2 n
    rcases (by omega : w = 0 ∨ w = 1) with rfl | rfl
    · omega
    · omega
  unfold F_X10_goes
  rw [r_nodesN hg h ht, Option.bind_some, nI_predm (by omega), bd_eq]
  have es : nI (β 4 t 6 - 1) = nI (β 4 t 6) + (-1) := by
    obtain ⟨N, hN⟩ : ∃ N, β 4 t 6 = N + 1 := ⟨β 4 t 6 - 1, by omega⟩
    rw [hN, pk_m1]
    rfl
  rw [es]
  exact it_down (z := fun _ _ => none) (B := B_X10_goes_8 (nI t) (nI w)) (P := fun k M1 => k ≤ β 4 t 6 ∧ Fr (fun κ _ => κ = 57) M M1 ∧ ∀ n, k ≤ n → n < β 4 t 6 → M1.1 57 0 0 n = nI (bst β t w (β 4 t 6 - k) n))
    (Q := fun o => ∃ M', o = some (nI (goN β t w), M') ∧ Fr (fun κ _ => κ = 57) M M')
    (fun kk n M1 hP => by
      obtain ⟨p1, p2, p3⟩ := hP
      left
      have h1 : RNd M1 β := h.e (p2.k1 (fun b => by omega))
      obtain ⟨-, -, hv, hbits⟩ := hu n ht (by omega)
      obtain ⟨d, hd⟩ : ∃ d, d = β 4 t 6 - (n + 1) := ⟨_, rfl⟩
      rw [← hd] at p3
      obtain ⟨S, hS⟩ : ∃ S, S = (if scl (β 8 t n) = [] ∧ w = 2 then 1 else 0 : Nat) := ⟨_, rfl⟩
      have hlow : ∀ k, k ≤ n + 1 → scp (β 8 t n) k = [] := by
        intro k hk
        unfold scp
        apply List.filter_eq_nil_iff.mpr
        intro j hj hb
        have := (hbits j hb).1
        have := List.mem_range.mp hj
        omega
      have h31 : ∃ M', B_X10_goes_31 kk (nI t) (nI w) (nI n) (nI S) M1 = kk (nI n + (-1)) M' ∧ (n ≤ β 4 t 6 ∧ Fr (fun κ _ => κ = 57) M M' ∧ ∀ n', n ≤ n' → n' < β 4 t 6 → M'.1 57 0 0 n' = nI (bst β t w (β 4 t 6 - n) n')) := by
        unfold B_X10_goes_31
        rw [nI_1, bd_eq]
        have key := it_for3N (z := fun _ _ _ => none) (B := B_X10_goes_41 kk (nI t) (nI w) (nI n) M1) (n := β 4 t 6)
          (P := fun k a c => n < k ∧ a = nI (agg w (bst β t w d) S (scp (β 8 t n) k)) ∧ (c = if scp (β 8 t n) k = [] then 1 else 0) ∧ (w ≠ 2 → agg w (bst β t w d) S (scp (β 8 t n) k) ≤ 54))
          (Q := fun o => ∃ M', o = kk (nI n + (-1)) M' ∧ (n ≤ β 4 t 6 ∧ Fr (fun κ _ => κ = 57) M M' ∧ ∀ n', n ≤ n' → n' < β 4 t 6 → M'.1 57 0 0 n' = nI (bst β t w (β 4 t 6 - n) n')))
          (fun k2 k a c hk hP2 => by
            obtain ⟨r1, rfl, rfl, r4⟩ := hP2
            left
            unfold B_X10_goes_41
            rw [r_nodesN hg h1 ht, Option.bind_some, if_neg (nI_ge hk (by omega)), r_behindN hg h1 ht hk (by omega), Option.bind_some, scp_succ]
            by_cases cb : (β 8 t n).testBit k = true
            case neg =>
              rw [show (if n < k ∧ (β 8 t n).testBit k = true then (1 : Int32) else 0) = 0 from if_neg (fun q => cb q.2), if_pos rfl, nI_1, bd_eq, if_neg cb]
              exact ⟨_, _, rfl, by omega, rfl, rfl, r4⟩
            have e57 : M1.1 57 0 0 k = nI (bst β t w d k) := p3 k (by omega) hk
            have hin : inb (nI k) 6 = true := inb_nI (by omega) (by omega)
            have hne : scp (β 8 t n) k ++ [k] ≠ [] := by simp
            rw [show (if n < k ∧ (β 8 t n).testBit k = true then (1 : Int32) else 0) = 1 from if_pos ⟨r1, cb⟩, if_neg (show ¬ (1 : Int32) = 0 by decide), if_pos cb, if_neg hne]
            by_cases cw : w = 2
            · subst cw
              rw [if_pos (show nI 2 = 2 by decide), if_pos hin, clampI (by omega), e57, nI_add, bd_eq, nI_1, bd_eq, agg_app2]
              exact ⟨_, _, rfl, by omega, rfl, rfl, fun q => absurd rfl q⟩
            have hb := hbd d k (by omega) cw
            have h4 := r4 cw
            rw [if_neg (show ¬ nI w = 2 from fun q => cw ((nI_eq (b := 2) (by omega) (by omega)).mp q))]
            by_cases ce : scp (β 8 t n) k = []
            · rw [if_pos ce, if_neg (show ¬ (1 : Int32) = 0 by decide), if_pos hin, clampI (by omega), e57, bd_eq, nI_1, bd_eq]
              rcases (by omega : w = 0 ∨ w = 1) with rfl | rfl
              · rw [agg_app0, if_pos ce]
                exact ⟨_, _, rfl, by omega, rfl, rfl, fun _ => hb⟩
              · rw [agg_app1, if_pos ce]
                exact ⟨_, _, rfl, by omega, rfl, rfl, fun _ => hb⟩
            · rw [if_neg ce, if_pos rfl]
              rcases (by omega : w = 0 ∨ w = 1) with rfl | rfl
              · rw [if_neg (show ¬ nI 0 = 1 by decide), if_pos hin, clampI (by omega), e57, bd_eq, nI_1, bd_eq, agg_app0, if_neg ce]
                refine ⟨_, _, rfl, by omega, ?_, rfl, fun _ => Nat.le_trans (Nat.min_le_right _ _) hb⟩
                by_cases y : bst β t 0 d k < agg 0 (bst β t 0 d) S (scp (β 8 t n) k)
                · rw [if_pos (nI_lt y (by omega)), Nat.min_eq_right (by omega)]
                · rw [if_neg (nI_nlt (by omega) (by omega)), Nat.min_eq_left (by omega)]
              · rw [if_pos (show nI 1 = 1 by decide), if_pos hin, clampI (by omega), e57, bd_eq, nI_1, bd_eq, agg_app1, if_neg ce]
                refine ⟨_, _, rfl, by omega, ?_, rfl, fun _ => Nat.max_le.mpr ⟨h4, hb⟩⟩
                by_cases y : agg 1 (bst β t 1 d) S (scp (β 8 t n) k) < bst β t 1 d k
                · rw [if_pos (nI_lt y (by omega)), Nat.max_eq_right (by omega)]
                · rw [if_neg (nI_nlt (by omega) (by omega)), Nat.max_eq_left (by omega)])
          (fun k2 a c hP2 => by
            obtain ⟨r1, rfl, rfl, r4⟩ := hP2
            unfold B_X10_goes_41
            have hin : inb (nI n) 6 = true := inb_nI (by omega) (by omega)
            rw [r_nodesN hg h1 ht, Option.bind_some, if_pos (Int32.le_refl _), scp_top _ hv _ (by omega) (fun k _ hb => (hbits k hb).2)]
            have hfin : ∀ v : Nat, v = vN β t w n (bst β t w d) → (n ≤ β 4 t 6 ∧ Fr (fun κ _ => κ = 57) M (uIw M1 57 0 0 n (nI v)) ∧ ∀ n', n ≤ n' → n' < β 4 t 6 → (uIw M1 57 0 0 n (nI v)).1 57 0 0 n' = nI (bst β t w (β 4 t 6 - n) n')) := by
              intro v hv'
              refine ⟨by omega, p2.trans (Fr.uI rfl), fun n' h1' h2' => ?_⟩
              rw [show β 4 t 6 - n = d + 1 by omega, uI1]
              show _ = nI (if n' = β 4 t 6 - 1 - d then vN β t w n' (bst β t w d) else bst β t w d n')
              by_cases z : n' = n
              · subst z
                rw [if_pos ⟨rfl, rfl, rfl, rfl⟩, if_pos (by omega), hv']
              · rw [if_neg (fun q => z q.2.2.2), if_neg (by omega)]
                exact p3 n' (by omega) h2'
            by_cases cw : w = 2
            · subst cw
              rw [if_pos (show nI 2 = 2 by decide), if_pos hin, clampI (by omega), bd_eq, bd_eq]
              refine ⟨_, rfl, hfin _ ?_⟩
              rw [vN_agg (by omega), if_pos rfl, Nat.zero_add, ← hS]
            · rw [if_neg (show ¬ nI w = 2 from fun q => cw ((nI_eq (b := 2) (by omega) (by omega)).mp q)), r_unitsW hg h1 ht (by omega), Option.bind_some, if_pos hin, clampI (by omega), nI_add, bd_eq, bd_eq]
              refine ⟨_, rfl, hfin _ ?_⟩
              rw [vN_agg hw, if_neg cw, ← hS, Nat.add_comm])
          FU (n + 1) (nI S) 1 (by omega) (by unfold FU; omega) ⟨by omega, by
            rw [hlow _ (Nat.le_refl _)]
            rcases (by omega : w = 0 ∨ w = 1 ∨ w = 2) with rfl | rfl | rfl <;> rfl, by rw [hlow _ (Nat.le_refl _), if_pos rfl], fun hw2 => by
            rw [hlow _ (Nat.le_refl _)]
            have : S = 0 := by rw [hS, if_neg (fun q => hw2 q.2)]
            rw [this]
            rcases (by omega : w = 0 ∨ w = 1) with rfl | rfl
            · show 0 ≤ 54; omega
            · show 0 ≤ 54; omega⟩
        exact key
      unfold B_X10_goes_8 B_X10_goes_30
      rw [if_neg (nI_pos (by omega)), r_followersN hg h1 ht (by omega), Option.bind_some]
      have hlen6 := scl_len (β 8 t n) hv
      by_cases ce : scl (β 8 t n) = []
      · rw [if_pos (show nI (scl (β 8 t n)).length = 0 by rw [ce]; rfl)]
        by_cases cw : w = 2
        · rw [if_pos (show nI w = 2 by rw [cw]; rfl)]
          have : S = 1 := by rw [hS, if_pos ⟨ce, cw⟩]
          rw [this] at h31
          exact h31
        · rw [if_neg (show ¬ nI w = 2 from fun q => cw ((nI_eq (b := 2) (by omega) (by omega)).mp q))]
          have : S = 0 := by rw [hS, if_neg (fun q => cw q.2)]
          rw [this] at h31
          exact h31
      · have hlen : 0 < (scl (β 8 t n)).length := List.length_pos_iff.mpr ce
        rw [if_neg (nI_ne0 hlen (by omega))]
        have : S = 0 := by rw [hS, if_neg (fun q => ce q.1)]
        rw [this] at h31
        exact h31)
    (fun kk M1 hP => by
      obtain ⟨p1, p2, p3⟩ := hP
      unfold B_X10_goes_8
      rw [if_pos (by decide), p3 0 (Nat.le_refl _) (by omega), Nat.sub_zero]
      exact ⟨M1, rfl, p2⟩)
    FU (β 4 t 6) M (by unfold FU; omega) ⟨Nat.le_refl _, Fr.rfl, fun n h1 h2 => by omega⟩
theorem oni_k {M M' : Mw} {κ0 : Nat} (h : Fr (fun κ _ => κ = κ0) M M') (h1 : 55 ≤ κ0 ∨ κ0 = 14 ∨ (17 ≤ κ0 ∧ κ0 ≤ 20) ∨ κ0 = 22) : OnI M M' := by
  have e : M'.1 50 = M.1 50 := h.k1 (fun b => by omega)
  exact ⟨h.mono (fun κ b q => by omega), by rw [e], by rw [e], by rw [e]⟩
theorem ok_cost : ∀ M : Mw, Inv M → ∀ a1 a2 : Int32, ∃ (r1 : Int32) (r2 : Int32 × Mw), F_X9_cost a1 a2 M = some r1 ∧ F_X10_cost a1 a2 M = some r2 ∧ r1 = r2.1 ∧ Inv r2.2 := by
  intro M hM a1 a2
  obtain ⟨β, L, h⟩ := hM
  have hx := h.2.1.1
  have hT5 := hx.1.1.2.2.2.2
  unfold F_X9_cost F_X10_cost
  rcases task_cases h.2.1 a1 with ⟨t1, t2⟩ | ⟨t, ht, rfl, t1, t2⟩
  · rw [t1, t2 M h.2.1.2.2, Option.bind_some, Option.bind_some, if_pos rfl, if_pos rfl]
    exact ⟨_, _, rfl, rfl, rfl, β, L, h⟩
  rw [t1, t2 M h.2.1.2.2, Option.bind_some, Option.bind_some, if_neg (show ¬ (1 : Int32) = 0 by decide), if_neg (show ¬ (1 : Int32) = 0 by decide), r_in0n a2 (n := 1) (by omega) (by decide), Option.bind_some]
  rcases rng_cases a2 (show 2 < 2 ^ 31 by omega) with ⟨w, hw, rfl⟩ | c
  · obtain ⟨M', q1, q2⟩ := r_goes hx.1 h.2.1.2.2.n ht (show w ≤ 2 by omega)
    rw [if_neg (nI_pos (by omega)), if_pos (show nI w ≤ 1 from nI_le (b := 1) (by omega) (by omega)), if_pos (inb_nI (by omega) (by omega)), if_pos (inb_nI (by omega) (by omega)), clampI (by omega), clampI (by omega), if_pos (show ¬ nI w < 0 ∧ nI w < nI (1 + 1) from rng_in hw (by omega)), if_neg (show ¬ (1 : Int32) = 0 by decide), q1, Option.bind_some]
    refine ⟨_, (nI (goN β t w), M'), rfl, rfl, ?_, β, L, h.i (oni_k q2 (by omega))⟩
    rw [h.2.1.2.1.d.2.2.2.2.2.1 t ht w (by omega)]
    have hc := hx.2.2.2.2.2.2.2 t ht
    rcases (by omega : w = 0 ∨ w = 1) with rfl | rfl
    · rw [hc.1]
    · rw [hc.2]
  · rw [if_neg (show ¬ (¬ a2 < 0 ∧ a2 < nI (1 + 1)) from c), if_pos rfl]
    have : (if a2 < 0 then some (-2) else (if a2 ≤ 1 then (if inb (nI t) 5 then (if inb a2 2 then some (M.1 10 1 (nI t).toNatClampNeg a2.toNatClampNeg) else none) else none) else some (-2))) = some (-2) := by
      by_cases c1 : a2 < 0
      · rw [if_pos c1]
      · rw [if_neg c1, if_neg (show ¬ a2 ≤ 1 from fun q => c ⟨c1, (le_pred a2 (n := 1) (by omega)).mp q⟩)]
    rw [this]
    exact ⟨_, _, rfl, rfl, rfl, β, L, h⟩
