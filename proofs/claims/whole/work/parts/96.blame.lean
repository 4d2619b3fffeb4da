/-! WHOM TO BLAME, and other windows -/
theorem it_for3 {β : Type} {z : Int32 → Int32 → Int32 → Mw → Option β} {B : (Int32 → Int32 → Int32 → Mw → Option β) → Int32 → Int32 → Int32 → Mw → Option β} {n : Nat} {P : Nat → Int32 → Int32 → Mw → Prop} {Q : Option β → Prop}
    (step : ∀ (k : Int32 → Int32 → Int32 → Mw → Option β) (t : Nat) (a c : Int32) (M : Mw), t < n → P t a c M → (∃ a' c' M', B k a c (nI t) M = k a' c' (nI (t + 1)) M' ∧ P (t + 1) a' c' M') ∨ Q (B k a c (nI t) M))
    (done : ∀ (k : Int32 → Int32 → Int32 → Mw → Option β) (a c : Int32) (M : Mw), P n a c M → Q (B k a c (nI n) M)) :
    ∀ (f t : Nat) (a c : Int32) (M : Mw), t ≤ n → n < t + f → P t a c M → Q (it z B f a c (nI t) M) := by
  intro f
  induction f with
  | zero => intro t a c M h1 h2; omega
  | succ f ih =>
    intro t a c M h1 h2 hP
    rw [it_succ]
    by_cases h : t < n
    · rcases step (it z B f) t a c M h hP with ⟨a', c', M', e, hP'⟩ | hq
      · rw [e]
        exact ih (t + 1) a' c' M' h (by omega) hP'
      · exact hq
    · obtain rfl : t = n := by omega
      exact done _ a c M hP
/-- how many records without one -/
def lkN (β : Bw) (L : Lw) (i : Nat) : Nat := (rcs β (L.eraseIdx i) (β 0 0 0)).length
/-- whom (one more; 0: nobody), and the fewest -/
def blN (β : Bw) (L : Lw) : Nat → Nat × Nat
  | 0 => (0, (rcs β L (β 0 0 0)).length)
  | i + 1 => if (blN β L i).2 ≤ lkN β L i then blN β L i else (i + 1, lkN β L i)
theorem blN_le {β : Bw} {L : Lw} : ∀ n, (blN β L n).2 ≤ (rcs β L (β 0 0 0)).length := by
  intro n
  induction n with
  | zero => exact Nat.le_refl _
  | succ n ih =>
    show (if (blN β L n).2 ≤ lkN β L n then blN β L n else (n + 1, lkN β L n)).2 ≤ _
    by_cases c : (blN β L n).2 ≤ lkN β L n
    · rw [if_pos c]; exact ih
    · rw [if_neg c]
      show lkN β L n ≤ _
      omega
theorem bf_len {β : Bw} {L : Lw} {FO FM : UInt32 → Prop} {FS : Nat → UInt64 → Prop} (hBF : BF β L FO FM FS) {k : Nat} (hk : k ≤ 200) : (rcs β L k).length ≤ 90 := by
  obtain ⟨i1, i2, -⟩ := hBF.ir hk
  obtain ⟨k', h1, h2⟩ : ∃ k', k' ≤ k ∧ IVS β L FO FM FS k' (k' / β 0 0 1) (rn β L k).1 := by
    by_cases c : (rn β L k).1.2.2.2.2.2.1 = 0
    · exact ⟨k, Nat.le_refl k, i1 c⟩
    · exact i2 c
  obtain ⟨⟨D, hS⟩, -⟩ := h2.1
  exact hS.len hBF.1 (div_cy hBF.2.2.2.1 (by omega))
theorem ok_blame : ∀ M : Mw, Inv M → ∃ (r1 : Int32 × Mw) (r2 : Int32 × Mw), F_X9_blame M = some r1 ∧ F_X10_blame r1.2 = some r2 ∧ r1.1 = r2.1 ∧ Inv r2.2 := by
  intro M hM
  obtain ⟨β, L, h⟩ := hM
  have hx := h.2.1.1
  have hH := hx.H
  have hlen := hx.len
  by_cases hl : 0 < β 0 0 3
  case neg =>
    rcases r_asks hx h.2.1.2.2 with ⟨q, -⟩ | ⟨-, M2, q1, q2, q3⟩
    · exact absurd q hl
    refine ⟨((-2), M), ((-2), M2), ?_, ?_, rfl, β, L, h.i q2⟩
    · unfold F_X9_blame
      rw [h.2.1.2.1.c 3 (by omega), if_pos (show nI (β 0 0 3) = 0 by rw [show β 0 0 3 = 0 by omega]; decide)]
    · show F_X10_blame M = _
      unfold F_X10_blame
      rw [q1, Option.bind_some, if_pos rfl]
  have hbf := hx.bf hl
  have hlk : ∀ i, lkN β L i ≤ 90 := fun i => bf_len (hbf.gb (hx.1.er i) rfl rfl) hH
  have hle : ∀ n, (blN β L n).2 ≤ 90 := fun n => Nat.le_trans (blN_le n) (bf_len hbf hH)
  have h3 := hx.2.2.2.2.2.2.1
  have k1 : ∃ M1, F_X9_blame M = some (nI (blN β L L.length).1 + (-1), M1) ∧ InvB M1 β L := by
    unfold F_X9_blame
    rw [h.2.1.2.1.c 3 (by omega), if_neg (nI_ne0 hl (by omega)), (whole_rec h.2.2.1).1, bd_eq]
    have key := it_for3 (z := fun _ _ _ _ => none) (B := B_X9_blame_28) (n := L.length) (P := fun n a c M1 => a = nI (blN β L n).1 + (-1) ∧ c = nI (blN β L n).2 ∧ InvB M1 β L)
      (Q := fun o => ∃ M1, o = some (nI (blN β L L.length).1 + (-1), M1) ∧ InvB M1 β L)
      (fun kk n a c M1 hn hP => by
        obtain ⟨rfl, rfl, p3⟩ := hP
        left
        obtain ⟨M2, q1, q2⟩ := c_lack p3.2.1 hn
        have hll := hx.2.2.2.1
        unfold B_X9_blame_28
        rw [p3.2.1.2.1.c 6 (by omega), p3.2.1.2.1.c 7 (by omega), nI_add, hll, if_neg (nI_ge hn (by omega)), q1, Option.bind_some, bd_eq]
        show ∃ a' c' M', (if nI (blN β L n).2 ≤ nI (lkN β L n) then _ else _) = _ ∧ _
        have hn1 := hle n
        have hn2 := hlk n
        by_cases c : (blN β L n).2 ≤ lkN β L n
        · have eb : blN β L (n + 1) = blN β L n := if_pos c
          rw [if_pos (nI_le c (by omega)), bd_eq, nI_1, eb]
          exact ⟨_, _, M2, rfl, rfl, rfl, p3.i q2⟩
        · have eb : blN β L (n + 1) = (n + 1, lkN β L n) := if_neg c
          rw [if_neg (nI_ge (by omega) (by omega)), bd_eq, nI_1, eb]
          exact ⟨_, _, M2, rfl, (pk_m1 n).symm, rfl, p3.i q2⟩)
      (fun kk a c M1 hP => by
        obtain ⟨rfl, rfl, p3⟩ := hP
        have hll := hx.2.2.2.1
        unfold B_X9_blame_28
        rw [p3.2.1.2.1.c 6 (by omega), p3.2.1.2.1.c 7 (by omega), nI_add, hll, if_pos (Int32.le_refl _)]
        exact ⟨M1, rfl, p3⟩)
      FU 0 (-1) (nI (rcs β L (β 0 0 0)).length) M (Nat.zero_le _) (by unfold FU; omega) ⟨by show (-1 : Int32) = nI 0 + (-1); decide, rfl, h⟩
    rw [nI_0] at key
    exact key
  obtain ⟨M1, q1, q2⟩ := k1
  refine ⟨(nI (blN β L L.length).1 + (-1), M1), ?_⟩
  have k2 : ∃ M2, F_X10_blame M1 = some (nI (blN β L L.length).1 + (-1), M2) ∧ InvB M2 β L := by
    rcases r_asks hx q2.2.1.2.2 with ⟨-, M2, s1, s2, s3, s4⟩ | ⟨q, -⟩
    case inr => omega
    unfold F_X10_blame
    rw [s1, Option.bind_some, if_neg (show ¬ (1 : Int32) = 0 by decide)]
    show ∃ M', bd (M2.1 50 0 0 56) _ = _ ∧ _
    rw [(ref_rec s2).1, bd_eq]
    have key := it_for3 (z := fun _ _ _ _ => none) (B := B_X10_blame_19) (n := L.length) (P := fun n a c M1 => a = nI (blN β L n).1 + (-1) ∧ c = nI (blN β L n).2 ∧ InvB M1 β L)
      (Q := fun o => ∃ M1, o = some (nI (blN β L L.length).1 + (-1), M1) ∧ InvB M1 β L)
      (fun kk n a c M1 hn hP => by
        obtain ⟨rfl, rfl, p3⟩ := hP
        left
        have hw := p3.2.1.2.2
        obtain ⟨M2, q1, q2, q3⟩ := r_lack hx hw hn
        have hll := hx.2.2.2.1
        unfold B_X10_blame_19 F_X10_many
        rw [Option.bind_some, hw.1.2.2.2.2.2.1, hw.1.2.2.2.2.2.2.1, nI_add, hll, if_neg (nI_ge hn (by omega)), q1, Option.bind_some, bd_eq]
        show ∃ a' c' M', (if nI (lkN β L n) < nI (blN β L n).2 then _ else _) = _ ∧ _
        have hn1 := hle n
        have hn2 := hlk n
        by_cases c : (blN β L n).2 ≤ lkN β L n
        · have eb : blN β L (n + 1) = blN β L n := if_pos c
          rw [if_neg (nI_nlt c (by omega)), bd_eq, nI_1, eb]
          exact ⟨_, _, M2, rfl, rfl, rfl, p3.i q2⟩
        · have eb : blN β L (n + 1) = (n + 1, lkN β L n) := if_neg c
          rw [if_pos (nI_lt (by omega) (by omega)), bd_eq, nI_1, eb]
          exact ⟨_, _, M2, rfl, (pk_m1 n).symm, rfl, p3.i q2⟩)
      (fun kk a c M1 hP => by
        obtain ⟨rfl, rfl, p3⟩ := hP
        have hw := p3.2.1.2.2
        have hll := hx.2.2.2.1
        unfold B_X10_blame_19 F_X10_many
        rw [Option.bind_some, hw.1.2.2.2.2.2.1, hw.1.2.2.2.2.2.2.1, nI_add, hll, if_pos (Int32.le_refl _)]
        exact ⟨M1, rfl, p3⟩)
      FU 0 (-1) (nI (rcs β L (β 0 0 0)).length) M2 (Nat.zero_le _) (by unfold FU; omega) ⟨by show (-1 : Int32) = nI 0 + (-1); decide, rfl, q2.i s3⟩
    rw [nI_0] at key
    exact key
  obtain ⟨M2, r1, r2⟩ := k2
  exact ⟨(nI (blN β L L.length).1 + (-1), M2), q1, r1, rfl, β, L, r2⟩
/-- another window -/
def wnB (β : Bw) (t p q : Nat) : Bw := fun κ i j => if κ = 4 then (if j = 2 then (if i = t then p else β κ i j) else if j = 3 then (if i = t then q else β κ i j) else β κ i j) else β κ i j
theorem wn2 {β : Bw} {t p q : Nat} : wnB β t p q 4 t 2 = p := by
  show (if t = t then p else β 4 t 2) = p
  rw [if_pos rfl]
theorem wn3 {β : Bw} {t p q : Nat} : wnB β t p q 4 t 3 = q := by
  show (if t = t then q else β 4 t 3) = q
  rw [if_pos rfl]
theorem wn2n {β : Bw} {t p q t' : Nat} (h : t' ≠ t) : wnB β t p q 4 t' 2 = β 4 t' 2 := by
  show (if t' = t then p else β 4 t' 2) = _
  rw [if_neg h]
theorem wn3n {β : Bw} {t p q t' : Nat} (h : t' ≠ t) : wnB β t p q 4 t' 3 = β 4 t' 3 := by
  show (if t' = t then q else β 4 t' 3) = _
  rw [if_neg h]
theorem GB.wn {β : Bw} {L : Lw} (h : GB β L) {t p q : Nat} (hp : p ≤ 99) (hpq : p < q) (hq : q ≤ 120) : GB (wnB β t p q) L := by
  obtain ⟨g1, g2, g3, g4, g5, g6, g7, g8⟩ := h
  refine ⟨g1, g2, g3, fun t' ht' => ?_, g5, g6, g7, g8⟩
  obtain ⟨a1, a2, a3, a4, a5, a6, a7⟩ := g4 t' ht'
  by_cases z : t' = t
  · subst z
    have e2 : wnB β t' p q 4 t' 2 = p := wn2
    have e3 : wnB β t' p q 4 t' 3 = q := wn3
    refine ⟨a1, a2, a3, ?_, ?_, ?_, a7⟩
    · rw [e2]; exact hp
    · rw [e2, e3]; exact hpq
    · rw [e3]; exact hq
  · have e2 : wnB β t p q 4 t' 2 = β 4 t' 2 := wn2n z
    have e3 : wnB β t p q 4 t' 3 = β 4 t' 3 := wn3n z
    refine ⟨a1, a2, a3, ?_, ?_, ?_, a7⟩
    · rw [e2]; exact a4
    · rw [e2, e3]; exact a5
    · rw [e3]; exact a6
theorem wn_self {β : Bw} {t : Nat} : wnB β t (β 4 t 2) (β 4 t 3) = β := by
  funext κ i j
  show (if κ = 4 then (if j = 2 then (if i = t then β 4 t 2 else β κ i j) else if j = 3 then (if i = t then β 4 t 3 else β κ i j) else β κ i j) else β κ i j) = β κ i j
  by_cases a : κ = 4
  · rw [if_pos a]
    by_cases c : j = 2
    · rw [if_pos c]
      by_cases e : i = t
      · rw [if_pos e, a, c, e]
      · rw [if_neg e]
    · rw [if_neg c]
      by_cases c' : j = 3
      · rw [if_pos c']
        by_cases e : i = t
        · rw [if_pos e, a, c', e]
        · rw [if_neg e]
      · rw [if_neg c']
  · rw [if_neg a]
/-- how many records with another window -/
def wdN (β : Bw) (L : Lw) (t p q : Nat) : Nat := (rcs (wnB β t p q) L (β 0 0 0)).length
theorem c_wind {M : Mw} {β : Bw} {L : Lw} {t p q : Nat} (h : IBd M β L) (ht : t < β 0 0 5) (hp : p ≤ 99) (hpq : p < q) (hq : q ≤ 120) : ∃ M', F_X8_recordsWindowed 1 (nI t) (nI p) (nI q) M = some (nI (wdN β L t p q), M') ∧ OnI M M' := by
  have hx := h.1
  have hT5 := hx.1.1.2.2.2.2
  obtain ⟨M1, q1, q2, q3⟩ := c_copy (b := 7) (b1 := 1) (by decide) hx.1 h.2.1
  obtain ⟨M2, hM2⟩ : ∃ M2, M2 = uIw (uIw M1 4 7 t 2 (nI p)) 4 7 t 3 (nI q) := ⟨_, rfl⟩
  have hF2 : Fr (fun κ b => κ = 4 ∧ b = 7) M1 M2 := by rw [hM2]; exact (Fr.uI ⟨rfl, rfl⟩).trans (Fr.uI ⟨rfl, rfl⟩)
  have hB : CBd 7 M2 (wnB β t p q) L := by
    obtain ⟨a1, a2, a3, a4, a5, a6, a7⟩ := q2.d
    have e : ∀ κ, κ ≠ 4 → M2.1 κ 7 = M1.1 κ 7 := fun κ hκ => (hF2 κ 7 (fun z => hκ z.1)).1
    refine ⟨by rw [e 0 (by decide)]; exact a1, by rw [e 0 (by decide)]; exact a2, fun t' ht' j hj => ?_, ?_, ?_, ?_, ?_⟩
    · by_cases z : t' = t
      · subst z
        by_cases z2 : j = 2
        · subst z2
          rw [hM2, uI1, if_neg (fun z => absurd z.2.2.2 (by decide)), uI1, if_pos ⟨rfl, rfl, rfl, rfl⟩]
          exact congrArg nI wn2.symm
        by_cases z3 : j = 3
        · subst z3
          rw [hM2, uI1, if_pos ⟨rfl, rfl, rfl, rfl⟩]
          exact congrArg nI wn3.symm
        · have e' : wnB β t' p q 4 t' j = β 4 t' j := by
            show (if j = 2 then (if t' = t' then p else β 4 t' j) else if j = 3 then (if t' = t' then q else β 4 t' j) else β 4 t' j) = β 4 t' j
            rw [if_neg z2, if_neg z3]
          rw [hM2, uI1, if_neg (fun z => z3 z.2.2.2), uI1, if_neg (fun z => z2 z.2.2.2), e']
          exact a3 t' ht' j hj
      · have e' : wnB β t p q 4 t' j = β 4 t' j := by
          show (if j = 2 then (if t' = t then p else β 4 t' j) else if j = 3 then (if t' = t then q else β 4 t' j) else β 4 t' j) = β 4 t' j
          rw [if_neg z, if_neg z]
          by_cases z2 : j = 2
          · rw [if_pos z2]
          · rw [if_neg z2]
            by_cases z3 : j = 3
            · rw [if_pos z3]
            · rw [if_neg z3]
        rw [hM2, uI1, if_neg (fun y => z y.2.2.1), uI1, if_neg (fun y => z y.2.2.1), e']
        exact a3 t' ht' j hj
    · rw [e 6 (by decide), e 8 (by decide)]; exact a4
    · rw [e 1 (by decide), e 2 (by decide)]; exact a5
    · rw [e 10 (by decide)]; exact a6
    · rw [e 12 (by decide)]; exact a7
  obtain ⟨M3, s1, s2⟩ := c_count (b := 2) ((hx.bf (hx.tp ht)).gb (hx.1.wn hp hpq hq) rfl rfl) hB
  refine ⟨M3, ?_, oni_trial (((q3.mono (fun κ b q => by omega)).trans (hF2.mono (fun κ b q => by omega))).trans (s2.mono (fun κ b q => by omega)))⟩
  unfold F_X8_recordsWindowed
  have q1' : F_X0_copyFrom (2 + 5) 1 M = some M1 := q1
  rw [q1', Option.bind_some, if_pos (inb_nI (by omega) (by omega)), bd_eq, if_pos (inb_nI (by omega) (by omega)), bd_eq, clampI (by omega)]
  show (F_X5_countRecords 2 (uIw (uIw M1 4 7 t 2 (nI p)) 4 7 t 3 (nI q))).bind _ = _
  rw [← hM2, s1, Option.bind_some]
  rfl
theorem r_wind {M : Mw} {β : Bw} {L : Lw} {t p q : Nat} (hx : Gx β L) (hw : RWd (M.1 51 0 0) β L) (ht : t < β 0 0 5) (hp : p ≤ 99) (hpq : p < q) (hq : q ≤ 120) : ∃ M', F_X10_recordsWith (nI t) (nI p) (nI q) M = some (nI (wdN β L t p q), M') ∧ OnI M M' ∧ M'.1 51 = M.1 51 := by
  obtain ⟨M1, q1, q23, q24, q27, qF, qo⟩ := r_asTold M
  have hlen := hx.len
  have hT5 := hx.1.1.2.2.2.2
  obtain ⟨M2, hM2⟩ : ∃ M2, M2 = uIw (uIw (uIw M1 50 0 0 24 (nI t)) 50 0 0 25 (nI p)) 50 0 0 26 (nI q) := ⟨_, rfl⟩
  have hF2 : Fr (fun κ _ => κ = 50) M1 M2 := by rw [hM2]; exact ((Fr.uI (S := fun κ _ => κ = 50) rfl).trans (Fr.uI (S := fun κ _ => κ = 50) rfl)).trans (Fr.uI (S := fun κ _ => κ = 50) rfl)
  have e51 : M2.1 51 = M.1 51 := by rw [hF2.k1 (fun b => by omega), qF.k1 (fun b => by omega)]
  have e50 : ∀ j, j ≠ 24 → j ≠ 25 → j ≠ 26 → M2.1 50 0 0 j = M1.1 50 0 0 j := fun j h1 h2 h3 => by rw [hM2, uI1, if_neg (fun q => h3 q.2.2.2), uI1, if_neg (fun q => h2 q.2.2.2), uI1, if_neg (fun q => h1 q.2.2.2)]
  have e24 : M2.1 50 0 0 24 = nI t := by rw [hM2, uI1, if_neg (fun q => absurd q.2.2.2 (by decide)), uI1, if_neg (fun q => absurd q.2.2.2 (by decide)), uI1, if_pos ⟨rfl, rfl, rfl, rfl⟩]
  have e25 : M2.1 50 0 0 25 = nI p := by rw [hM2, uI1, if_neg (fun q => absurd q.2.2.2 (by decide)), uI1, if_pos ⟨rfl, rfl, rfl, rfl⟩]
  have e26 : M2.1 50 0 0 26 = nI q := by rw [hM2, uI1, if_pos ⟨rfl, rfl, rfl, rfl⟩]
  have hO : OnI M M2 := by
    refine ⟨(qF.mono (fun κ _ q => by omega)).trans (hF2.mono (fun κ _ q => by omega)), ?_, ?_, ?_⟩
    · rw [e50 5 (by decide) (by decide) (by decide), qo 5 (by decide) (by decide) (by decide)]
    · rw [e50 12 (by decide) (by decide) (by decide), qo 12 (by decide) (by decide) (by decide)]
    · rw [e50 13 (by decide) (by decide) (by decide), qo 13 (by decide) (by decide) (by decide)]
  have hB : RBd M2 (wnB β t p q) L := by
    obtain ⟨⟨w0, w1, w2, w3, w4, w5, w6, w7⟩, wt, wn, ww, wi⟩ := hw
    have hrow : ∀ j, j < L.length → L[j]? = some (rowR M2 j) := fun j hj => by
      have := wi j hj
      unfold rowR
      rw [e51]
      exact this
    refine ⟨by rw [e51]; exact ⟨w0, w1, w2, w3, w4⟩, fun t' ht' j hj h2 h3 => ?_, fun t' ht' => ?_, by rw [e51]; exact wn, by rw [e51]; exact ww, ⟨L.length, by omega, ?_, ?_, fun j hj => ?_⟩⟩
    · have e' : wnB β t p q 4 t' j = β 4 t' j := by
        show (if j = 2 then (if t' = t then p else β 4 t' j) else if j = 3 then (if t' = t then q else β 4 t' j) else β 4 t' j) = β 4 t' j
        rw [if_neg h2, if_neg h3]
      rw [e51, e']
      exact wt t' ht' j hj
    · rw [e24, e25, e26, e51]
      by_cases z : t' = t
      · subst z
        rw [if_pos rfl, if_pos rfl]
        exact ⟨congrArg nI wn2.symm, congrArg nI wn3.symm⟩
      · have hz : ¬ nI t' = nI t := fun y => z ((nI_eq (by have h0 : t' < β 0 0 5 := ht'; omega) (by omega)).mp y)
        rw [if_neg hz, if_neg hz, wt t' ht' 2 (by omega), wt t' ht' 3 (by omega)]
        exact ⟨congrArg nI (wn2n z).symm, congrArg nI (wn3n z).symm⟩
    · rw [e51, w5, w6, e50 27 (by decide) (by decide) (by decide), q27, nI_add, hx.2.2.2.1, Int32.add_zero]
    · exact lrf_told (by rw [e50 23 (by decide) (by decide) (by decide)]; exact q23) (by omega) hrow rfl
    · exact (hx.1.wn hp hpq hq).2.2.2.2.2.2.2.2 _ (List.mem_of_getElem? (hrow j hj))
  obtain ⟨M3, t1, t2, t3⟩ := r_runs ((hx.bf (hx.tp ht)).gb (hx.1.wn hp hpq hq) rfl rfl) hB hx.H
  refine ⟨M3, ?_, hO.trans t3.i, by rw [t3.1.k1 (fun b => by omega), e51]⟩
  unfold F_X10_recordsWith
  rw [q1, Option.bind_some, bd_eq, bd_eq, bd_eq, ← hM2, e51, hw.1.1, t1, Option.bind_some, (ref_rec t2).1]
  rfl
