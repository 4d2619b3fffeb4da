/-! ROOM, AND LOAD -/
theorem it_ghM {β : Type} {z : Int32 → Int32 → Mw → Option β} {B : (Int32 → Int32 → Mw → Option β) → Int32 → Int32 → Mw → Option β} {n : Nat} {P : Nat → Int32 → Int32 → Mw → Prop} {Q : Option β → Prop}
    (step : ∀ (k : Int32 → Int32 → Mw → Option β) (t : Nat) (a c : Int32) (M : Mw), t < n → P t a c M → (∃ a' c' M', B k a c M = k a' c' M' ∧ P (t + 1) a' c' M') ∨ Q (B k a c M))
    (done : ∀ (k : Int32 → Int32 → Mw → Option β) (a c : Int32) (M : Mw), P n a c M → Q (B k a c M)) :
    ∀ (f t : Nat) (a c : Int32) (M : Mw), t ≤ n → n < t + f → P t a c M → Q (it z B f a c M) := by
  intro f
  induction f with
  | zero => intro t a c M h1 h2; omega
  | succ f ih =>
    intro t a c M h1 h2 hP
    rw [it_succ]
    by_cases h : t < n
    · rcases step (it z B f) t a c M h hP with ⟨a', c', M', e, hP'⟩ | hq
      · rw [e]
        exact ih (t + 1) a' c' M' h (by omega) hP'
      · exact hq
    · obtain rfl : t = n := by omega
      exact done _ a c M hP
theorem it_forF {β : Type} {z : UInt32 → Int32 → Option β} {B : (UInt32 → Int32 → Option β) → UInt32 → Int32 → Option β} {n : Nat} {P : Nat → UInt32 → Prop} {Q : Option β → Prop}
    (step : ∀ (k : UInt32 → Int32 → Option β) (t : Nat) (a : UInt32), t < n → P t a → (∃ a', B k a (nI t) = k a' (nI (t + 1)) ∧ P (t + 1) a') ∨ Q (B k a (nI t)))
    (done : ∀ (k : UInt32 → Int32 → Option β) (a : UInt32), P n a → Q (B k a (nI n))) :
    ∀ (f t : Nat) (a : UInt32), t ≤ n → n < t + f → P t a → Q (it z B f a (nI t)) := by
  intro f
  induction f with
  | zero => intro t a h1 h2; omega
  | succ f ih =>
    intro t a h1 h2 hP
    rw [it_succ]
    by_cases h : t < n
    · rcases step (it z B f) t a h hP with ⟨a', e, hP'⟩ | hq
      · rw [e]
        exact ih (t + 1) a' h (by omega) hP'
      · exact hq
    · obtain rfl : t = n := by omega
      exact done _ a hP
/-- costs with something more for one -/
def rxC (β : Bw) (t x : Nat) (j t' : Nat) : Nat := goN β t' j + (if t' = t then x else 0)
theorem gc_rx {β : Bw} {L : Lw} (hg : GB β L) {t x : Nat} (hx : x ≤ 50) : GC β (rxC β t x) := fun t' ht => by
  obtain ⟨a, b, c⟩ := goN_b hg ht
  unfold rxC
  by_cases z : t' = t
  · rw [if_pos z]; omega
  · rw [if_neg z]; omega
def lb0 (β : Bw) : Int32 := lbI (fun t => lwB β (goC β) (rsC β (goC β) id t) t) (β 0 0 5)
def lbX (β : Bw) (t x : Nat) : Int32 := lbI (fun t' => lwB β (rxC β t x) (rsC β (rxC β t x) id t') t') (β 0 0 5)
def rmN (β : Bw) (t : Nat) : Nat → Nat
  | 0 => 0
  | n + 1 => if lb0 β &&& (lbX β t (n + 1) ^^^ (-1)) = 0 then n + 1 else rmN β t n
theorem rmN_le {β : Bw} {t : Nat} : ∀ n, rmN β t n ≤ n := by
  intro n
  induction n with
  | zero => exact Nat.le_refl _
  | succ n ih =>
    show (if _ then n + 1 else rmN β t n) ≤ n + 1
    split
    · exact Nat.le_refl _
    · omega
theorem c_extra {M : Mw} {β : Bw} {L : Lw} (hx : Gx β L) (hB : CBd 1 M β L) {t x : Nat} (ht : t < β 0 0 5) (h1 : M.1 21 0 0 1 = nI t) (h2 : M.1 21 0 0 2 = nI x) : ∀ t', t' < β 0 0 5 → F_X3_costOf 1 (nI t') 0 M = some (nI (rxC β t x 0 t')) ∧ F_X3_costOf 1 (nI t') 1 M = some (nI (rxC β t x 1 t')) := by
  have hT5 := hx.1.1.2.2.2.2
  intro t' ht'
  have hc := hx.2.2.2.2.2.2.2 t' ht'
  have e0 := hB.2.2.2.2.2.1 t' ht' 0 (by omega)
  have e1 := hB.2.2.2.2.2.1 t' ht' 1 (by omega)
  unfold F_X3_costOf rxC
  rw [h1, h2, if_pos (inb_nI (by omega) (by omega)), if_pos (show inb 0 2 = true by decide), if_pos (inb_nI (by omega) (by omega)), if_pos (show inb 1 2 = true by decide), clampI (by omega)]
  have k0 : M.1 10 1 t' ((0 : Int32).toNatClampNeg) = nI (goN β t' 0) := by rw [← hc.1]; exact e0
  have k1 : M.1 10 1 t' ((1 : Int32).toNatClampNeg) = nI (goN β t' 1) := by rw [← hc.2]; exact e1
  rw [k0, k1]
  by_cases z : t' = t
  · rw [if_pos (show nI t' = nI t by rw [z]), if_pos (show nI t' = nI t by rw [z]), if_pos z, nI_add, nI_add]
    exact ⟨rfl, rfl⟩
  · have hz : ¬ nI t' = nI t := fun y => z ((nI_eq (by omega) (by omega)).mp y)
    rw [if_neg hz, if_neg hz, if_neg z, Int32.add_zero, Int32.add_zero]
    exact ⟨rfl, rfl⟩
/-- the law's scratch alone -/
def R21 (M M' : Mw) : Prop := Fr (fun κ _ => κ = 22 ∨ κ = 21) M M' ∧ (∀ b i j, ¬ (b = 0 ∧ i = 0 ∧ (j = 1 ∨ j = 2)) → M'.1 21 b i j = M.1 21 b i j) ∧ M'.2.1 21 = M.2.1 21 ∧ M'.2.2 21 = M.2.2 21
theorem R21.f {M M1 M2 : Mw} (h : R21 M M1) (hF : Fr (fun κ _ => κ = 22) M1 M2) : R21 M M2 := by
  obtain ⟨a, b, c, d⟩ := h
  refine ⟨a.trans (hF.mono (fun κ _ z => Or.inl z)), fun b' i j hn => ?_, ?_, ?_⟩
  · rw [hF.k1 (κ := 21) (fun b => by omega)]
    exact b b' i j hn
  · rw [← c]
    funext b'
    exact (hF 21 b' (by omega)).2.1
  · rw [← d]
    funext b'
    exact (hF 21 b' (by omega)).2.2
theorem R21.u {M M1 : Mw} (h : R21 M M1) (j : Nat) (hj : j = 1 ∨ j = 2) (v : Int32) : R21 M (uIw M1 21 0 0 j v) := by
  obtain ⟨a, b, c, d⟩ := h
  refine ⟨a.trans (Fr.uI (Or.inr rfl)), fun b' i j' hn => ?_, c, d⟩
  rw [uI1, if_neg (fun z => hn ⟨z.2.1, z.2.2.1, by rw [z.2.2.2]; exact hj⟩)]
  exact b b' i j' hn
theorem R21.fin {M M1 : Mw} (h : R21 M M1) (h1 : M1.1 21 0 0 1 = M.1 21 0 0 1) (h2 : M1.1 21 0 0 2 = M.1 21 0 0 2) : Fr (fun κ _ => κ = 22) M M1 := by
  obtain ⟨a, b, c, d⟩ := h
  intro κ b' hκ
  by_cases z : κ = 21
  · subst z
    refine ⟨?_, by rw [c], by rw [d]⟩
    funext i j
    by_cases y : b' = 0 ∧ i = 0 ∧ (j = 1 ∨ j = 2)
    · obtain ⟨rfl, rfl, rfl | rfl⟩ := y
      · exact h1
      · exact h2
    · exact b b' i j y
  · exact a κ b' (by omega)
theorem R21.cb {M M1 : Mw} {β : Bw} {L : Lw} (h : R21 M M1) (hB : CBd 1 M β L) : CBd 1 M1 β L := hB.fr (fun κ hκ => (h.1 κ 1 (by omega)).1)
theorem ok_room : ∀ M : Mw, Inv M → ∀ a1 : Int32, ∃ (r1 : Int32 × Mw) (r2 : Int32 × Mw), F_X9_room a1 M = some r1 ∧ F_X10_room a1 r1.2 = some r2 ∧ r1.1 = r2.1 ∧ Inv r2.2 := by
  intro M hM a1
  obtain ⟨β, L, h⟩ := hM
  have hx := h.2.1.1
  have hg := hx.1
  have hT5 := hx.1.1.2.2.2.2
  rcases task_cases h.2.1 a1 with ⟨t1, t2⟩ | ⟨t, ht, rfl, t1, t2⟩
  · refine ⟨((-2), M), ((-2), M), ?_, ?_, rfl, β, L, h⟩
    · unfold F_X9_room
      rw [t1, Option.bind_some, if_pos rfl]
    · show F_X10_room a1 M = _
      unfold F_X10_room
      rw [t2 M h.2.1.2.2, Option.bind_some, if_pos rfl]
  have h211 : M.1 21 0 0 1 = -1 := h.1.2.2.2.2.1
  have h212 : M.1 21 0 0 2 = 0 := h.1.2.2.2.2.2
  have hB := h.2.1.2.1.d
  have hin : inb (nI t) 5 = true := inb_nI (by omega) (by omega)
  -- the class
  have k1 : ∃ M1, F_X9_room (nI t) M = some (nI (rmN β t 50), M1) ∧ Fr (fun κ _ => κ = 22) M M1 := by
    obtain ⟨M1, q1, q2⟩ := c_lawBits hg (gc_go hg) hB (c_base hx hB h211)
    have hend : ∀ (M2 : Mw) (a : Int32), R21 M M2 → ∃ M3, B_X3_roomOf_56 1 a M2 = some (a, M3) ∧ Fr (fun κ _ => κ = 22) M M3 := by
      intro M2 a hR
      unfold B_X3_roomOf_56
      rw [bd_eq, bd_eq]
      refine ⟨_, rfl, ((hR.u 1 (Or.inl rfl) (-1)).u 2 (Or.inr rfl) 0).fin ?_ ?_⟩
      · rw [uI1, if_neg (fun z => absurd z.2.2.2 (by decide)), uI1, if_pos ⟨rfl, rfl, rfl, rfl⟩, h211]
      · rw [uI1, if_pos ⟨rfl, rfl, rfl, rfl⟩, h212]
    have h0 : R21 M (uIw M1 21 0 0 1 (nI t)) := R21.u (R21.f ⟨Fr.rfl, fun _ _ _ _ => rfl, rfl, rfl⟩ q2) 1 (Or.inl rfl) _
    have key := it_ghM (z := fun _ _ _ => none) (B := B_X3_roomOf_18 1 (lb0 β)) (n := 51)
      (P := fun i a c M2 => R21 M M2 ∧ M2.1 21 0 0 1 = nI t ∧ ((a = 0 ∧ c = nI (50 - i) ∧ i ≤ 50 ∧ rmN β t 50 = rmN β t (50 - i)) ∨ (a = nI (rmN β t 50) ∧ rmN β t 50 ≠ 0)))
      (Q := fun o => ∃ M1, o = some (nI (rmN β t 50), M1) ∧ Fr (fun κ _ => κ = 22) M M1)
      (fun kk i a c M2 hi hP => by
        obtain ⟨p1, p2, p3⟩ := hP
        have h50 := rmN_le (β := β) (t := t) 50
        unfold B_X3_roomOf_18
        rcases p3 with ⟨rfl, rfl, p4, p5⟩ | ⟨rfl, p4⟩
        · by_cases ci : i = 50
          · right
            subst ci
            rw [if_pos (show nI (50 - 50) ≤ 0 by decide)]
            obtain ⟨M3, s1, s2⟩ := hend M2 0 p1
            rw [s1]
            have : rmN β t 50 = 0 := p5
            rw [this]
            exact ⟨M3, rfl, s2⟩
          left
          obtain ⟨x, hx'⟩ : ∃ x, 50 - i = x + 1 := ⟨49 - i, by omega⟩
          rw [hx'] at p5 ⊢
          have p5' : rmN β t 50 = (if lb0 β &&& (lbX β t (x + 1) ^^^ (-1)) = 0 then x + 1 else rmN β t x) := p5
          rw [if_neg (nI_nle (by omega) (by omega)), if_pos rfl, bd_eq]
          have pu := p1.u 2 (Or.inr rfl) (nI (x + 1))
          obtain ⟨M3, s1, s2⟩ := c_lawBits hg (gc_rx hg (show x + 1 ≤ 50 by omega)) (pu.cb hB) (c_extra hx (pu.cb hB) (x := x + 1) ht (by rw [uI1, if_neg (fun z => absurd z.2.2.2 (by decide))]; exact p2) (by rw [uI1, if_pos ⟨rfl, rfl, rfl, rfl⟩]))
          have s1' : F_X3_lawfulBits 1 (uIw M2 21 0 0 2 (nI (x + 1))) = some (lbX β t (x + 1), M3) := s1
          have p2' : M3.1 21 0 0 1 = nI t := by
            rw [s2.k1 (κ := 21) (fun b => by omega), uI1, if_neg (fun z => absurd z.2.2.2 (by decide))]
            exact p2
          rw [s1', Option.bind_some, pk_m1]
          by_cases cx : lb0 β &&& (lbX β t (x + 1) ^^^ (-1)) = 0
          · rw [if_pos cx] at p5'
            rw [if_pos cx, bd_eq]
            exact ⟨_, _, M3, rfl, pu.f s2, p2', Or.inr ⟨by rw [p5'], by omega⟩⟩
          · rw [if_neg cx] at p5'
            rw [if_neg cx, bd_eq]
            exact ⟨_, _, M3, rfl, pu.f s2, p2', Or.inl ⟨rfl, by rw [show 50 - (i + 1) = x by omega], by omega, by rw [show 50 - (i + 1) = x by omega]; exact p5'⟩⟩
        · right
          obtain ⟨M3, s1, s2⟩ := hend M2 (nI (rmN β t 50)) p1
          rw [if_neg (nI_ne0 (by omega) (by omega)), s1]
          by_cases cc : c ≤ 0
          · rw [if_pos cc]; exact ⟨M3, rfl, s2⟩
          · rw [if_neg cc]; exact ⟨M3, rfl, s2⟩)
      (fun kk a c M2 hP => by
        obtain ⟨p1, p2, p3⟩ := hP
        have h50 := rmN_le (β := β) (t := t) 50
        unfold B_X3_roomOf_18
        rcases p3 with ⟨rfl, rfl, p4, p5⟩ | ⟨rfl, p4⟩
        · omega
        · obtain ⟨M3, s1, s2⟩ := hend M2 (nI (rmN β t 50)) p1
          rw [if_neg (nI_ne0 (by omega) (by omega)), s1]
          by_cases cc : c ≤ 0
          · rw [if_pos cc]; exact ⟨M3, rfl, s2⟩
          · rw [if_neg cc]; exact ⟨M3, rfl, s2⟩)
      FU 0 0 50 (uIw M1 21 0 0 1 (nI t)) (Nat.zero_le _) (by unfold FU; omega) ⟨h0, by rw [uI1, if_pos ⟨rfl, rfl, rfl, rfl⟩], Or.inl ⟨rfl, rfl, by omega, rfl⟩⟩
    obtain ⟨M2, r1, r2⟩ := key
    refine ⟨M2, ?_, r2⟩
    unfold F_X9_room F_X3_roomOf
    have q1' : F_X3_lawfulBits 1 M = some (lb0 β, M1) := q1
    rw [t1, Option.bind_some, if_neg (show ¬ (1 : Int32) = 0 by decide), q1', Option.bind_some, bd_eq, bd_eq]
    show (it (fun _ _ _ => none) (B_X3_roomOf_18 1 (lb0 β)) FU 0 50 (uIw M1 21 0 0 1 (nI t))).bind _ = _
    rw [r1, Option.bind_some]
  obtain ⟨M1, q1, q2⟩ := k1
  have h1 := h.i (oni_k q2 (by omega))
  have k2 : ∃ M2, F_X10_room (nI t) M1 = some (nI (rmN β t 50), M2) ∧ Fr (fun κ _ => 57 ≤ κ ∧ κ ≤ 60) M1 M2 := by
    obtain ⟨M4, r1, r2, r3⟩ := r_lays hx h1.2.1.2.2
    unfold F_X10_room
    rw [t2 M1 h1.2.1.2.2, Option.bind_some, if_neg (show ¬ (1 : Int32) = 0 by decide), r1, Option.bind_some, r_lawBits hx (gc_go hg) r3, Option.bind_some, lb_id hT5]
    show ∃ M2, it (fun _ _ _ => none) (B_X10_room_25 (nI t) (lb0 β)) FU 0 1 M4 = _ ∧ _
    have key := it_ghM (z := fun _ _ _ => none) (B := B_X10_room_25 (nI t) (lb0 β)) (n := 50)
      (P := fun i a c M2 => Fr (fun κ _ => 57 ≤ κ ∧ κ ≤ 60) M1 M2 ∧ a = nI (rmN β t i) ∧ c = nI (i + 1))
      (Q := fun o => ∃ M2, o = some (nI (rmN β t 50), M2) ∧ Fr (fun κ _ => 57 ≤ κ ∧ κ ≤ 60) M1 M2)
      (fun kk i a c M2 hi hP => by
        obtain ⟨p1, rfl, rfl⟩ := hP
        left
        have hw2 : RWd (M2.1 51 0 0) β L := by
          rw [p1.k1 (κ := 51) (fun b => by omega)]
          exact h1.2.1.2.2
        obtain ⟨M5, s1, s2, s3, s4⟩ := r_lays hx hw2
        obtain ⟨e59, e58, -, -⟩ := s4 t ht
        obtain ⟨M6, hM6⟩ : ∃ M6, M6 = uIw (uIw M5 58 0 0 t (nI (goC β 1 t + (i + 1)))) 59 0 0 t (nI (goC β 0 t + (i + 1))) := ⟨_, rfl⟩
        have hF6 : Fr (fun κ _ => 57 ≤ κ ∧ κ ≤ 60) M5 M6 := by rw [hM6]; exact (Fr.uI (by omega)).trans (Fr.uI (by omega))
        have hL6 : LwR M6 β L (rxC β t (i + 1)) (fun t => 2 ^ t - 1) := by
          refine ⟨by rw [hF6.k1 (κ := 51) (fun b => by omega)]; exact s3, fun t' ht' => ?_⟩
          obtain ⟨f59, f58, f60, f32⟩ := s4 t' ht'
          refine ⟨?_, ?_, ?_, f32⟩
          · rw [hM6, uI1]
            unfold rxC
            by_cases z : t' = t
            · rw [if_pos ⟨rfl, rfl, rfl, z⟩, if_pos z, z]; rfl
            · rw [if_neg (fun y => z y.2.2.2), if_neg z, uI_k (by decide), f59]; rfl
          · rw [hM6, uI_k (by decide), uI1]
            unfold rxC
            by_cases z : t' = t
            · rw [if_pos ⟨rfl, rfl, rfl, z⟩, if_pos z, z]; rfl
            · rw [if_neg (fun y => z y.2.2.2), if_neg z, f58]; rfl
          · rw [hM6, uI_k (by decide), uI_k (by decide), f60]
        unfold B_X10_room_25
        rw [if_neg (show ¬ (50 : Int32) < nI (i + 1) from nI_nlt (a := 50) (by omega) (by omega)), s1, Option.bind_some, if_pos hin, if_pos hin, clampI (by omega), e58, nI_add, bd_eq, if_pos hin, if_pos hin, uI_k (show 59 ≠ 58 by decide), e59, nI_add, bd_eq, ← hM6, r_lawBits hx (gc_rx hg (show i + 1 ≤ 50 by omega)) hL6, Option.bind_some, lb_id hT5, nI_1, bd_eq, bd_eq]
        show ∃ a' c' M', (if lb0 β &&& (lbX β t (i + 1) ^^^ (-1)) = 0 then _ else _) = _ ∧ _ ∧ a' = nI (if lb0 β &&& (lbX β t (i + 1) ^^^ (-1)) = 0 then i + 1 else rmN β t i) ∧ _
        by_cases cx : lb0 β &&& (lbX β t (i + 1) ^^^ (-1)) = 0
        · rw [if_pos cx, if_pos cx]
          exact ⟨_, _, M6, rfl, (p1.trans s2).trans hF6, rfl, rfl⟩
        · rw [if_neg cx, if_neg cx]
          exact ⟨_, _, M6, rfl, (p1.trans s2).trans hF6, rfl, rfl⟩)
      (fun kk a c M2 hP => by
        obtain ⟨p1, rfl, rfl⟩ := hP
        unfold B_X10_room_25
        rw [if_pos (show (50 : Int32) < nI (50 + 1) by decide)]
        exact ⟨M2, rfl, p1⟩)
      FU 0 0 1 M4 (Nat.zero_le _) (by unfold FU; omega) ⟨r2, rfl, rfl⟩
    exact key
  obtain ⟨M2, r1, r2⟩ := k2
  exact ⟨(nI (rmN β t 50), M1), (nI (rmN β t 50), M2), q1, r1, rfl, β, L, h1.i (oni_lay r2)⟩
theorem ok_load : ∀ M : Mw, Inv M → ∃ (r1 : Int32) (r2 : Int32 × Mw), F_X9_load M = some r1 ∧ F_X10_load M = some r2 ∧ r1 = r2.1 ∧ Inv r2.2 := by
  intro M hM
  obtain ⟨β, L, h⟩ := hM
  have hx := h.2.1.1
  have hg := hx.1
  have hT5 := hx.1.1.2.2.2.2
  have h3 := hx.2.2.2.2.2.2.1
  have hB := h.2.1.2.1
  unfold F_X9_load F_X10_load
  rw [hB.c 3 (by omega), r_isBoard hx h.2.1.2.2, Option.bind_some]
  by_cases hl : 0 < β 0 0 3
  case neg =>
    rw [if_pos (show nI (β 0 0 3) = 0 by rw [show β 0 0 3 = 0 by omega]; decide), if_neg hl, if_pos rfl]
    exact ⟨_, _, rfl, rfl, rfl, β, L, h⟩
  have hcp : ∀ n, n ≤ β 0 0 5 → ∀ i, i < n → goN β i 1 ≤ 54 ∧ 4 ≤ β 4 i 1 ∧ β 4 i 1 ≤ 60 := fun n hn i hi => by
    obtain ⟨-, -, b⟩ := goN_b hg (show i < β 0 0 5 by omega)
    obtain ⟨-, g4, g60, -⟩ := hg.2.2.2.1 i (by omega)
    exact ⟨b, g4, g60⟩
  obtain ⟨M2, r1, r2, r3⟩ := r_lays hx h.2.1.2.2
  obtain ⟨r, x1, x2⟩ := fx_ldbits (fun i => goN β i 1) (fun i => β 4 i 1) (β 0 0 5) hT5 (hcp _ (Nat.le_refl _)) M M2
  have key1 : it (fun _ _ => none) (B_X3_loadOf_4 1 M) FU (ldF (fun i => goN β i 1) (fun i => β 4 i 1) 0) (nI 0) = some (ldF (fun i => goN β i 1) (fun i => β 4 i 1) (β 0 0 5)) := by
    have := it_forF (z := fun _ _ => none) (B := B_X3_loadOf_4 1 M) (n := β 0 0 5) (P := fun i a => a = ldF (fun i => goN β i 1) (fun i => β 4 i 1) i) (Q := fun o => o = some (ldF (fun i => goN β i 1) (fun i => β 4 i 1) (β 0 0 5)))
      (fun kk i a hi hP => by
        subst hP
        left
        obtain ⟨y1, y2⟩ := fx_ld (fun i => goN β i 1) (fun i => β 4 i 1) i (by omega) (fun k hk => hcp (i + 1) (by omega) k (by omega))
        obtain ⟨-, g4, g60, -⟩ := hg.2.2.2.1 i hi
        have hc := hx.2.2.2.2.2.2.2 i hi
        have e10 : M.1 10 1 i 1 = nI (goN β i 1) := by rw [hB.d.2.2.2.2.2.1 i hi 1 (by omega), hc.2]
        unfold B_X3_loadOf_4
        rw [hB.c 5 (by omega), if_neg (nI_ge hi (by omega)), if_pos (inb_nI (by omega) (by omega)), clampI (by omega), hB.d.2.2.1 i hi 1 (by omega), bd_eq, if_neg (nI_nle (by omega) (by omega)), if_pos (inb_nI (by omega) (by omega)), e10, if_pos y1, if_pos (show nf (FP.fadd (ldF (fun i => goN β i 1) (fun i => β 4 i 1) i) (FP.fdiv (FP.i2f (nI (goN β i 1))) (FP.i2f (nI (β 4 i 1))))) = true from y2), bd_eq, nI_1, bd_eq]
        exact ⟨_, rfl, rfl⟩)
      (fun kk a hP => by
        subst hP
        unfold B_X3_loadOf_4
        rw [hB.c 5 (by omega), if_pos (Int32.le_refl _)])
      FU 0 _ (Nat.zero_le _) (by unfold FU; omega) rfl
    exact this
  have key2 : it (fun _ _ => none) (B_X10_load_18 M2) FU (ldF (fun i => goN β i 1) (fun i => β 4 i 1) 0) (nI 0) = some (r, M2) := by
    have := it_forF (z := fun _ _ => none) (B := B_X10_load_18 M2) (n := β 0 0 5) (P := fun i a => a = ldF (fun i => goN β i 1) (fun i => β 4 i 1) i) (Q := fun o => o = some (r, M2))
      (fun kk i a hi hP => by
        subst hP
        left
        obtain ⟨y1, y2⟩ := fx_ld (fun i => goN β i 1) (fun i => β 4 i 1) i (by omega) (fun k hk => hcp (i + 1) (by omega) k (by omega))
        obtain ⟨-, f58, -, -⟩ := r3.2 i hi
        have f58' : M2.1 58 0 0 i = nI (goN β i 1) := f58
        unfold B_X10_load_18
        rw [r3.1.1.2.2.2.2.1, if_neg (nI_ge hi (by omega)), if_pos (inb_nI (by omega) (by omega)), r_per hx r3.1 hi, Option.bind_some, clampI (by omega), f58', if_pos y1, if_pos (show nf (FP.fadd (ldF (fun i => goN β i 1) (fun i => β 4 i 1) i) (FP.fdiv (FP.i2f (nI (goN β i 1))) (FP.i2f (nI (β 4 i 1))))) = true from y2), bd_eq, nI_1, bd_eq]
        exact ⟨_, rfl, rfl⟩)
      (fun kk a hP => by
        subst hP
        unfold B_X10_load_18
        rw [r3.1.1.2.2.2.2.1, if_pos (Int32.le_refl _), x2, Option.bind_some])
      FU 0 _ (Nat.zero_le _) (by unfold FU; omega) rfl
    exact this
  have z0 : ldF (fun i => goN β i 1) (fun i => β 4 i 1) 0 = FP.fconst0 := rfl
  rw [z0, nI_0] at key1 key2
  unfold F_X3_loadOf
  rw [if_neg (nI_ne0 hl (by omega)), bd_eq, key1, Option.bind_some, x1, Option.bind_some, if_pos hl, if_neg (show ¬ (1 : Int32) = 0 by decide), r1, Option.bind_some, bd_eq, key2]
  exact ⟨r, (r, M2), rfl, rfl, rfl, β, L, h.i (oni_lay r2)⟩
