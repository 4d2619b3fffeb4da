theorem ok_with : ∀ M : Mw, Inv M → ∀ a1 a2 a3 : Int32, ∃ (r1 : Int32 × Mw) (r2 : Int32 × Mw), F_X9_with a1 a2 a3 M = some r1 ∧ F_X10_with a1 a2 a3 r1.2 = some r2 ∧ r1.1 = r2.1 ∧ Inv r2.2 := by
  intro M hM a1 a2 a3
  obtain ⟨β, L, h⟩ := hM
  have hx := h.2.1.1
  unfold F_X9_with F_X10_with
  rcases task_cases h.2.1 a1 with ⟨t1, t2⟩ | ⟨t, ht, rfl, t1, t2⟩
  · refine ⟨((-2), M), ((-2), M), ?_, ?_, rfl, β, L, h⟩
    · rw [t1, Option.bind_some, if_pos rfl]
    · rw [t2 M h.2.1.2.2, Option.bind_some, if_pos rfl]
  rw [t1, Option.bind_some, if_neg (show ¬ (1 : Int32) = 0 by decide)]
  have hbad : ¬ (∃ p q : Nat, p ≤ 99 ∧ p < q ∧ q ≤ 120 ∧ a2 = nI p ∧ a3 = nI q) → (if a2 < 0 then some ((-2 : Int32), M) else (if 99 < a2 then some ((-2), M) else (if a3 ≤ a2 then some ((-2), M) else (if a3 ≤ 120 then ((F_X8_recordsWindowed 1 (nI t) a2 a3 M).bind (fun q8 => some (q8.1, q8.2))) else some ((-2), M))))) = some ((-2), M) ∧ (if ¬ a2 < 0 ∧ a2 < nI (99 + 1) then (if a2 + 1 ≤ a3 ∧ a3 ≤ 120 then False else True) else True) := by
    intro hn
    rcases rng_cases a2 (show 100 < 2 ^ 31 by omega) with ⟨p, hp, rfl⟩ | c
    · have hlast : ¬ (nI p + 1 ≤ a3 ∧ a3 ≤ 120) := by
        rintro ⟨y1, y2⟩
        have h0 : ¬ a3 < 0 := fun y => by
          have := Int32.lt_of_le_of_lt y1 y
          rw [nI_1] at this
          exact nI_pos (n := p + 1) (by omega) this
        obtain ⟨q, hq, e⟩ := nI_of h0
        subst e
        rw [nI_1] at y1
        exact hn ⟨p, q, by omega, (nI_leI (by omega) (by omega)).mp y1, (nI_leI (b := 120) (by omega) (by omega)).mp y2, rfl, rfl⟩
      refine ⟨?_, by rw [if_pos (show ¬ nI p < 0 ∧ nI p < nI (99 + 1) from rng_in hp (by omega)), if_neg hlast]; trivial⟩
      rw [if_neg (nI_pos (by omega)), if_neg (show ¬ (99 : Int32) < nI p from nI_nlt (a := 99) (by omega) (by omega))]
      by_cases y : a3 ≤ nI p
      · rw [if_pos y]
      rw [if_neg y]
      by_cases y2 : a3 ≤ 120
      · refine absurd ⟨?_, y2⟩ hlast
        rw [nI_1]
        have h0 : ¬ a3 < 0 := fun z => y (Int32.le_trans (Int32.le_of_lt z) (show nI 0 ≤ nI p from nI_le (by omega) (by omega)))
        obtain ⟨q, hq, e⟩ := nI_of h0
        subst e
        have hpq : ¬ q ≤ p := fun z => y (nI_le z (by omega))
        exact nI_le (by omega) hq
      · rw [if_neg y2]
    · refine ⟨?_, by rw [if_neg (show ¬ (¬ a2 < 0 ∧ a2 < nI (99 + 1)) from c)]; trivial⟩
      by_cases y : a2 < 0
      · rw [if_pos y]
      · have : ¬ a2 < nI (99 + 1) := fun z => c ⟨y, z⟩
        have h99 : (99 : Int32) < a2 := by
          have z : ¬ a2 ≤ nI 99 := fun z => this ((le_pred a2 (by omega)).mp z)
          exact Int32.not_le.mp z
        rw [if_neg y, if_pos h99]
  by_cases hgood : ∃ p q : Nat, p ≤ 99 ∧ p < q ∧ q ≤ 120 ∧ a2 = nI p ∧ a3 = nI q
  · obtain ⟨p, q, hp, hpq, hq, rfl, rfl⟩ := hgood
    obtain ⟨M1, q1, q2⟩ := c_wind h.2.1 ht hp hpq hq
    have h1 := h.i q2
    obtain ⟨M2, r1, r2, r3⟩ := r_wind h1.2.1.1 h1.2.1.2.2 ht hp hpq hq
    refine ⟨(nI (wdN β L t p q), M1), (nI (wdN β L t p q), M2), ?_, ?_, rfl, β, L, h1.i r2⟩
    · rw [if_neg (nI_pos (by omega)), if_neg (show ¬ (99 : Int32) < nI p from nI_nlt (a := 99) (by omega) (by omega)), if_neg (nI_ge (by omega) (by omega)), if_pos (show nI q ≤ 120 from nI_le (b := 120) (by omega) (by omega)), q1, Option.bind_some]
    · show (F_X10_isTask (nI t) M1).bind _ = _
      rw [t2 M1 h1.2.1.2.2, Option.bind_some, if_neg (show ¬ (1 : Int32) = 0 by decide), r_in0n (nI p) (n := 99) (by omega) (by decide), Option.bind_some, if_pos (rng_in (by omega) (by omega)), if_neg (show ¬ (1 : Int32) = 0 by decide), r_inLL (nI q) _ 120 (nI p + 1) 120 rfl (by decide), Option.bind_some, if_pos (show nI p + 1 ≤ nI q ∧ nI q ≤ 120 from ⟨by rw [nI_1]; exact nI_le (by omega) (by omega), nI_le (b := 120) (by omega) (by omega)⟩), if_neg (show ¬ (1 : Int32) = 0 by decide), r1, Option.bind_some]
  · obtain ⟨b1, b2⟩ := hbad hgood
    refine ⟨((-2), M), ((-2), M), b1, ?_, rfl, β, L, h⟩
    show (F_X10_isTask (nI t) M).bind _ = _
    rw [t2 M h.2.1.2.2, Option.bind_some, if_neg (show ¬ (1 : Int32) = 0 by decide), r_in0n a2 (n := 99) (by omega) (by decide), Option.bind_some]
    by_cases c : ¬ a2 < 0 ∧ a2 < nI (99 + 1)
    · rw [if_pos c] at b2
      rw [if_pos c, if_neg (show ¬ (1 : Int32) = 0 by decide), r_inLL a3 _ 120 (a2 + 1) 120 rfl (by decide), Option.bind_some]
      by_cases c2 : a2 + 1 ≤ a3 ∧ a3 ≤ 120
      · rw [if_pos c2] at b2
        exact b2.elim
      · rw [if_neg c2, if_pos rfl]
    · rw [if_neg c, if_pos rfl]
/-- the earliest late bound that is no worse -/
def TgP (β : Bw) (L : Lw) (t q : Nat) : Prop := β 4 t 2 < q ∧ q ≤ β 4 t 3 ∧ wdN β L t (β 4 t 2) q ≤ wdN β L t (β 4 t 2) (β 4 t 3) ∧ ∀ q', β 4 t 2 < q' → q' < q → ¬ wdN β L t (β 4 t 2) q' ≤ wdN β L t (β 4 t 2) (β 4 t 3)
theorem TgP.eq {β : Bw} {L : Lw} {t q q' : Nat} (h : TgP β L t q) (h' : TgP β L t q') : q = q' := by
  rcases Nat.lt_trichotomy q q' with z | z | z
  · exact absurd h.2.2.1 (h'.2.2.2 q h.1 z)
  · exact z
  · exact absurd h'.2.2.1 (h.2.2.2 q' h'.1 z)
def LsP (β : Bw) (L : Lw) (t p : Nat) : Prop := β 4 t 2 ≤ p ∧ p < β 4 t 3 ∧ p ≤ 99 ∧ wdN β L t p (β 4 t 3) ≤ wdN β L t (β 4 t 2) (β 4 t 3) ∧ ∀ p', p < p' → p' < β 4 t 3 → p' ≤ 99 → ¬ wdN β L t p' (β 4 t 3) ≤ wdN β L t (β 4 t 2) (β 4 t 3)
theorem LsP.eq {β : Bw} {L : Lw} {t p p' : Nat} (h : LsP β L t p) (h' : LsP β L t p') : p = p' := by
  rcases Nat.lt_trichotomy p p' with z | z | z
  · exact absurd h'.2.2.2.1 (h.2.2.2.2 p' z h'.2.1 h'.2.2.1)
  · exact z
  · exact absurd h.2.2.2.1 (h'.2.2.2.2 p z h.2.1 h.2.2.1)
theorem wd_self {β : Bw} {L : Lw} {t : Nat} : wdN β L t (β 4 t 2) (β 4 t 3) = (rcs β L (β 0 0 0)).length := by
  unfold wdN
  rw [wn_self]
theorem r_toldW {M : Mw} {β : Bw} {L : Lw} (hx : Gx β L) (hw : RWd (M.1 51 0 0) β L) {t j : Nat} (ht : t < β 0 0 5) (hj : j < 7) : F_X10_toldOf (nI t) (nI j) M = some (nI (β 4 t j)) := by
  have hT5 := hx.1.1.2.2.2.2
  rw [r_told (by omega) (by omega), hw.2.1 t ht j hj]
theorem ok_tight : ∀ M : Mw, Inv M → ∀ a1 : Int32, ∃ (r1 : Int32 × Mw) (r2 : Int32 × Mw), F_X9_tight a1 M = some r1 ∧ F_X10_tight a1 r1.2 = some r2 ∧ r1.1 = r2.1 ∧ Inv r2.2 := by
  intro M hM a1
  obtain ⟨β, L, h⟩ := hM
  have hx := h.2.1.1
  have hT5 := hx.1.1.2.2.2.2
  unfold F_X9_tight F_X10_tight
  rcases task_cases h.2.1 a1 with ⟨t1, t2⟩ | ⟨t, ht, rfl, t1, t2⟩
  · refine ⟨((-2), M), ((-2), M), ?_, ?_, rfl, β, L, h⟩
    · rw [t1, Option.bind_some, if_pos rfl]
    · rw [t2 M h.2.1.2.2, Option.bind_some, if_pos rfl]
  have hl := hx.tp ht
  have hbf := hx.bf hl
  have hH := hx.H
  obtain ⟨a1, a2, a3, g99, g23, g120, -⟩ := hx.1.2.2.2.1 t ht
  have hb : ∀ q, β 4 t 2 < q → q ≤ β 4 t 3 → wdN β L t (β 4 t 2) q ≤ 90 := fun q h1 h2 => bf_len (hbf.gb (hx.1.wn g99 h1 (by omega)) rfl rfl) hH
  have hb0 := hb (β 4 t 3) g23 (Nat.le_refl _)
  have e2 := h.2.1.2.1.d.2.2.1 t ht 2 (by omega)
  have e3 := h.2.1.2.1.d.2.2.1 t ht 3 (by omega)
  rw [t1, Option.bind_some, if_neg (show ¬ (1 : Int32) = 0 by decide), if_pos (inb_nI (by omega) (by omega)), bd_eq, if_pos (inb_nI (by omega) (by omega)), bd_eq, clampI (by omega), e2, e3, nI_1, bd_eq]
  have k1 : ∃ q M1, it (fun _ _ => none) (B_X9_tight_43 (nI t) (nI (β 4 t 2)) (nI (β 4 t 3))) FU (nI (β 4 t 2 + 1)) M = some (nI q, M1) ∧ TgP β L t q ∧ InvB M1 β L :=
    it_for (z := fun _ _ => none) (B := B_X9_tight_43 (nI t) (nI (β 4 t 2)) (nI (β 4 t 3))) (n := β 4 t 3) (P := fun q M1 => (β 4 t 2 < q ∧ ∀ q', β 4 t 2 < q' → q' < q → ¬ wdN β L t (β 4 t 2) q' ≤ wdN β L t (β 4 t 2) (β 4 t 3)) ∧ InvB M1 β L)
      (Q := fun o => ∃ q M1, o = some (nI q, M1) ∧ TgP β L t q ∧ InvB M1 β L)
      (fun kk q M1 hq hP => by
        obtain ⟨⟨p1, p2⟩, p3⟩ := hP
        obtain ⟨M2, q1, q2⟩ := c_wind p3.2.1 ht g99 p1 (show q ≤ 120 by omega)
        have h2 := p3.i q2
        have hq1 := hb q p1 (by omega)
        unfold B_X9_tight_43
        rw [if_neg (nI_ge hq (by omega)), q1, Option.bind_some]
        show (∃ M', (if nI (wdN β L t (β 4 t 2) q) ≤ M2.1 26 0 0 1 then _ else _) = _ ∧ _) ∨ ∃ q' M', (if nI (wdN β L t (β 4 t 2) q) ≤ M2.1 26 0 0 1 then _ else _) = _ ∧ _
        rw [(whole_rec h2.2.2.1).1, ← wd_self (t := t)]
        by_cases c : wdN β L t (β 4 t 2) q ≤ wdN β L t (β 4 t 2) (β 4 t 3)
        · right
          rw [if_pos (nI_le c (by omega))]
          exact ⟨q, M2, rfl, ⟨p1, by omega, c, p2⟩, h2⟩
        · left
          rw [if_neg (nI_ge (by omega) (by omega)), bd_eq, nI_1]
          refine ⟨M2, rfl, ⟨by omega, fun q' z1 z2 => ?_⟩, h2⟩
          by_cases z : q' = q
          · rw [z]; exact c
          · exact p2 q' z1 (by omega))
      (fun kk M1 hP => by
        obtain ⟨⟨p1, p2⟩, p3⟩ := hP
        unfold B_X9_tight_43
        rw [if_pos (Int32.le_refl _)]
        exact ⟨β 4 t 3, M1, rfl, ⟨p1, Nat.le_refl _, Nat.le_refl _, p2⟩, p3⟩)
      FU (β 4 t 2 + 1) M (by omega) (by unfold FU; omega) ⟨⟨by omega, fun q' z1 z2 => by omega⟩, h⟩
  obtain ⟨q, M1, q1, q2, q3⟩ := k1
  rw [q1]
  refine ⟨(nI q, M1), ?_⟩
  show ∃ r2 : Int32 × Mw, _ ∧ (F_X10_isTask (nI t) M1).bind _ = some r2 ∧ _
  rw [t2 M1 q3.2.1.2.2, Option.bind_some, if_neg (show ¬ (1 : Int32) = 0 by decide)]
  rcases r_asks hx q3.2.1.2.2 with ⟨-, M2, s1, s2, s3, s4⟩ | ⟨z, -⟩
  case inr => omega
  have h2 := q3.i s3
  rw [s1, Option.bind_some, if_neg (show ¬ (1 : Int32) = 0 by decide)]
  show ∃ r2 : Int32 × Mw, _ ∧ bd (M2.1 50 0 0 56) _ = some r2 ∧ _
  rw [(ref_rec s2).1, bd_eq]
  show ∃ r2 : Int32 × Mw, _ ∧ (F_X10_toldOf (nI t) (nI 2) M2).bind _ = some r2 ∧ _
  rw [r_toldW hx h2.2.1.2.2 ht (by omega), Option.bind_some, nI_1, bd_eq, ← wd_self (t := t)]
  have k2 : ∃ q M3, it (fun _ _ => none) (B_X10_tight_32 (nI t) (nI (wdN β L t (β 4 t 2) (β 4 t 3)))) FU (nI (β 4 t 2 + 1)) M2 = some (nI q, M3) ∧ TgP β L t q ∧ InvB M3 β L :=
    it_for (z := fun _ _ => none) (B := B_X10_tight_32 (nI t) (nI (wdN β L t (β 4 t 2) (β 4 t 3)))) (n := β 4 t 3 + 1) (P := fun q M1 => (β 4 t 2 < q ∧ ∀ q', β 4 t 2 < q' → q' < q → ¬ wdN β L t (β 4 t 2) q' ≤ wdN β L t (β 4 t 2) (β 4 t 3)) ∧ InvB M1 β L)
      (Q := fun o => ∃ q M1, o = some (nI q, M1) ∧ TgP β L t q ∧ InvB M1 β L)
      (fun kk q M1 hq hP => by
        obtain ⟨⟨p1, p2⟩, p3⟩ := hP
        obtain ⟨M2, q1, q2, -⟩ := r_wind hx p3.2.1.2.2 ht g99 p1 (show q ≤ 120 by omega)
        have h2 := p3.i q2
        have hq1 := hb q p1 (by omega)
        unfold B_X10_tight_32
        rw [show (2 : Int32) = nI 2 from rfl, r_toldW hx p3.2.1.2.2 ht (by omega), Option.bind_some, q1, Option.bind_some]
        show (∃ M', (if nI (wdN β L t (β 4 t 2) q) ≤ nI (wdN β L t (β 4 t 2) (β 4 t 3)) then _ else _) = _ ∧ _) ∨ ∃ q' M', (if nI (wdN β L t (β 4 t 2) q) ≤ nI (wdN β L t (β 4 t 2) (β 4 t 3)) then _ else _) = _ ∧ _
        by_cases c : wdN β L t (β 4 t 2) q ≤ wdN β L t (β 4 t 2) (β 4 t 3)
        · right
          rw [if_pos (nI_le c (by omega))]
          exact ⟨q, M2, rfl, ⟨p1, by omega, c, p2⟩, h2⟩
        · left
          rw [if_neg (nI_ge (by omega) (by omega)), bd_eq, nI_1]
          refine ⟨M2, rfl, ⟨by omega, fun q' z1 z2 => ?_⟩, h2⟩
          by_cases z : q' = q
          · rw [z]; exact c
          · exact p2 q' z1 (by omega))
      (fun kk M1 hP => by
        obtain ⟨⟨p1, p2⟩, p3⟩ := hP
        exact absurd (Nat.le_refl _) (p2 (β 4 t 3) g23 (by omega)))
      FU (β 4 t 2 + 1) M2 (by omega) (by unfold FU; omega) ⟨⟨by omega, fun q' z1 z2 => by omega⟩, h2⟩
  obtain ⟨q', M3, x1, x2, x3⟩ := k2
  rw [x1, x2.eq q2]
  exact ⟨_, rfl, rfl, rfl, β, L, x3⟩
theorem ok_loose : ∀ M : Mw, Inv M → ∀ a1 : Int32, ∃ (r1 : Int32 × Mw) (r2 : Int32 × Mw), F_X9_loose a1 M = some r1 ∧ F_X10_loose a1 r1.2 = some r2 ∧ r1.1 = r2.1 ∧ Inv r2.2 := by
  intro M hM a1
  obtain ⟨β, L, h⟩ := hM
  have hx := h.2.1.1
  have hT5 := hx.1.1.2.2.2.2
  unfold F_X9_loose F_X10_loose
  rcases task_cases h.2.1 a1 with ⟨t1, t2⟩ | ⟨t, ht, rfl, t1, t2⟩
  · refine ⟨((-2), M), ((-2), M), ?_, ?_, rfl, β, L, h⟩
    · rw [t1, Option.bind_some, if_pos rfl]
    · rw [t2 M h.2.1.2.2, Option.bind_some, if_pos rfl]
  have hl := hx.tp ht
  have hbf := hx.bf hl
  have hH := hx.H
  obtain ⟨a1, a2, a3, g99, g23, g120, -⟩ := hx.1.2.2.2.1 t ht
  have hb : ∀ p, p ≤ 99 → p < β 4 t 3 → wdN β L t p (β 4 t 3) ≤ 90 := fun p h1 h2 => bf_len (hbf.gb (hx.1.wn h1 h2 g120) rfl rfl) hH
  have hb0 := hb (β 4 t 2) g99 g23
  have e2 := h.2.1.2.1.d.2.2.1 t ht 2 (by omega)
  have e3 := h.2.1.2.1.d.2.2.1 t ht 3 (by omega)
  obtain ⟨s, hs⟩ : ∃ s, s = min (β 4 t 3 - 1) 99 + 1 := ⟨_, rfl⟩
  have es : nI (min (β 4 t 3 - 1) 99) = nI s + (-1) := by rw [hs, pk_m1]
  have ec : (if 99 < nI (β 4 t 3 - 1) then 99 else nI (β 4 t 3 - 1)) = nI s + (-1) := by
    rw [← es]
    by_cases c : 99 < β 4 t 3 - 1
    · rw [if_pos (show (99 : Int32) < nI (β 4 t 3 - 1) from nI_lt (a := 99) c (by omega)), Nat.min_eq_right (by omega)]
      rfl
    · rw [if_neg (show ¬ (99 : Int32) < nI (β 4 t 3 - 1) from nI_nlt (a := 99) (by omega) (by omega)), Nat.min_eq_left (by omega)]
  have er : (if nI (β 4 t 3 - 1) < 99 then nI (β 4 t 3 - 1) else 99) = nI s + (-1) := by
    rw [← es]
    by_cases c : β 4 t 3 - 1 < 99
    · rw [if_pos (show nI (β 4 t 3 - 1) < (99 : Int32) from nI_lt (b := 99) c (by omega)), Nat.min_eq_left (by omega)]
    · rw [if_neg (show ¬ nI (β 4 t 3 - 1) < (99 : Int32) from nI_nlt (b := 99) (by omega) (by omega)), Nat.min_eq_right (by omega)]
      rfl
  rw [t1, Option.bind_some, if_neg (show ¬ (1 : Int32) = 0 by decide), if_pos (inb_nI (by omega) (by omega)), bd_eq, if_pos (inb_nI (by omega) (by omega)), bd_eq, clampI (by omega), e2, e3, nI_predm (by omega), ec, bd_eq]
  have k1 : ∃ p M1, it (fun _ _ => none) (B_X9_loose_48 (nI t) (nI (β 4 t 2)) (nI (β 4 t 3))) FU (nI s + (-1)) M = some (nI p, M1) ∧ LsP β L t p ∧ InvB M1 β L :=
    it_down (z := fun _ _ => none) (B := B_X9_loose_48 (nI t) (nI (β 4 t 2)) (nI (β 4 t 3))) (P := fun p M1 => (β 4 t 2 < p ∧ p ≤ β 4 t 3 ∧ p ≤ 100 ∧ ∀ p', p ≤ p' → p' < β 4 t 3 → p' ≤ 99 → ¬ wdN β L t p' (β 4 t 3) ≤ wdN β L t (β 4 t 2) (β 4 t 3)) ∧ InvB M1 β L)
      (Q := fun o => ∃ q M1, o = some (nI q, M1) ∧ LsP β L t q ∧ InvB M1 β L)
      (fun kk p M1 hP => by
        obtain ⟨⟨p1, p2, p3, p4⟩, p5⟩ := hP
        unfold B_X9_loose_48
        by_cases ce : p ≤ β 4 t 2
        · right
          have ep : p = β 4 t 2 := by omega
          subst ep
          rw [if_pos (Int32.le_refl _)]
          exact ⟨β 4 t 2, M1, rfl, ⟨Nat.le_refl _, g23, g99, Nat.le_refl _, fun p' z1 z2 z3 => p4 p' (by omega) z2 z3⟩, p5⟩
        obtain ⟨M2, q1, q2⟩ := c_wind p5.2.1 ht (show p ≤ 99 by omega) (show p < β 4 t 3 by omega) g120
        have h2 := p5.i q2
        have hq1 := hb p (by omega) (by omega)
        rw [if_neg (nI_ge (by omega) (by omega)), q1, Option.bind_some]
        show (∃ M', (if nI (wdN β L t p (β 4 t 3)) ≤ M2.1 26 0 0 1 then _ else _) = _ ∧ _) ∨ ∃ q' M', (if nI (wdN β L t p (β 4 t 3)) ≤ M2.1 26 0 0 1 then _ else _) = _ ∧ _
        rw [(whole_rec h2.2.2.1).1, ← wd_self (t := t)]
        by_cases c : wdN β L t p (β 4 t 3) ≤ wdN β L t (β 4 t 2) (β 4 t 3)
        · right
          rw [if_pos (nI_le c (by omega))]
          exact ⟨p, M2, rfl, ⟨by omega, by omega, by omega, c, fun p' z1 z2 z3 => p4 p' (by omega) z2 z3⟩, h2⟩
        · left
          rw [if_neg (nI_ge (by omega) (by omega)), bd_eq]
          refine ⟨M2, rfl, ⟨by omega, by omega, by omega, fun p' z1 z2 z3 => ?_⟩, h2⟩
          by_cases z : p' = p
          · rw [z]; exact c
          · exact p4 p' (by omega) z2 z3)
      (fun kk M1 hP => by
        have := hP.1.1
        omega)
      FU s M (by unfold FU; omega) ⟨⟨by omega, by omega, by omega, fun p' z1 z2 z3 => by omega⟩, h⟩
  obtain ⟨p, M1, q1, q2, q3⟩ := k1
  rw [q1]
  refine ⟨(nI p, M1), ?_⟩
  show ∃ r2 : Int32 × Mw, _ ∧ (F_X10_isTask (nI t) M1).bind _ = some r2 ∧ _
  rw [t2 M1 q3.2.1.2.2, Option.bind_some, if_neg (show ¬ (1 : Int32) = 0 by decide)]
  rcases r_asks hx q3.2.1.2.2 with ⟨-, M2, s1, s2, s3, s4⟩ | ⟨z, -⟩
  case inr => omega
  have h2 := q3.i s3
  rw [s1, Option.bind_some, if_neg (show ¬ (1 : Int32) = 0 by decide)]
  show ∃ r2 : Int32 × Mw, _ ∧ bd (M2.1 50 0 0 56) _ = some r2 ∧ _
  rw [(ref_rec s2).1, bd_eq]
  show ∃ r2 : Int32 × Mw, _ ∧ (F_X10_toldOf (nI t) (nI 3) M2).bind _ = some r2 ∧ _
  rw [r_toldW hx h2.2.1.2.2 ht (by omega), Option.bind_some, nI_predm (by omega), er, bd_eq, ← wd_self (t := t)]
  have k2 : ∃ p M3, it (fun _ _ => none) (B_X10_loose_37 (nI t) (nI (wdN β L t (β 4 t 2) (β 4 t 3)))) FU (nI s + (-1)) M2 = some (nI p, M3) ∧ LsP β L t p ∧ InvB M3 β L :=
    it_down (z := fun _ _ => none) (B := B_X10_loose_37 (nI t) (nI (wdN β L t (β 4 t 2) (β 4 t 3)))) (P := fun p M1 => (β 4 t 2 < p ∧ p ≤ β 4 t 3 ∧ p ≤ 100 ∧ ∀ p', p ≤ p' → p' < β 4 t 3 → p' ≤ 99 → ¬ wdN β L t p' (β 4 t 3) ≤ wdN β L t (β 4 t 2) (β 4 t 3)) ∧ InvB M1 β L)
      (Q := fun o => ∃ q M1, o = some (nI q, M1) ∧ LsP β L t q ∧ InvB M1 β L)
      (fun kk p M1 hP => by
        obtain ⟨⟨p1, p2, p3, p4⟩, p5⟩ := hP
        obtain ⟨M2, q1, q2, -⟩ := r_wind hx p5.2.1.2.2 ht (show p ≤ 99 by omega) (show p < β 4 t 3 by omega) g120
        have h2 := p5.i q2
        have hq1 := hb p (by omega) (by omega)
        unfold B_X10_loose_37
        rw [show (3 : Int32) = nI 3 from rfl, r_toldW hx p5.2.1.2.2 ht (by omega), Option.bind_some, q1, Option.bind_some]
        show (∃ M', (if nI (wdN β L t p (β 4 t 3)) ≤ nI (wdN β L t (β 4 t 2) (β 4 t 3)) then _ else _) = _ ∧ _) ∨ ∃ q' M', (if nI (wdN β L t p (β 4 t 3)) ≤ nI (wdN β L t (β 4 t 2) (β 4 t 3)) then _ else _) = _ ∧ _
        by_cases c : wdN β L t p (β 4 t 3) ≤ wdN β L t (β 4 t 2) (β 4 t 3)
        · right
          rw [if_pos (nI_le c (by omega))]
          exact ⟨p, M2, rfl, ⟨by omega, by omega, by omega, c, fun p' z1 z2 z3 => p4 p' (by omega) z2 z3⟩, h2⟩
        · left
          rw [if_neg (nI_ge (by omega) (by omega)), bd_eq]
          have hpz : p ≠ β 4 t 2 := fun z => c (by rw [z]; exact Nat.le_refl _)
          refine ⟨M2, rfl, ⟨by omega, by omega, by omega, fun p' z1 z2 z3 => ?_⟩, h2⟩
          by_cases z : p' = p
          · rw [z]; exact c
          · exact p4 p' (by omega) z2 z3)
      (fun kk M1 hP => by
        have := hP.1.1
        omega)
      FU s M2 (by unfold FU; omega) ⟨⟨by omega, by omega, by omega, fun p' z1 z2 z3 => by omega⟩, h2⟩
  obtain ⟨p', M3, x1, x2, x3⟩ := k2
  rw [x1, x2.eq q2]
  exact ⟨_, rfl, rfl, rfl, β, L, x3⟩
