/-! A LINE, both sides -/
def ikP (S : Nat) (f : Nat → Nat) (a : Nat) : Nat := if mtP S f a 4 = true then 0 else if mtP S f a 16 = true then 1 else if mtP S f a 13 = true then 2 else if mtP S f a 15 = true then 3 else if mtP S f a 23 = true then 4 else if mtP S f a 14 = true then 5 else 6
def ikV (k : Nat) : Int32 := if k = 6 then -1 else nI k
theorem ikP_le {S : Nat} {f : Nat → Nat} {a : Nat} : ikP S f a ≤ 6 := by
  unfold ikP
  split
  · omega
  split
  · omega
  split
  · omega
  split
  · omega
  split
  · omega
  split
  · omega
  omega
theorem c_injKind {M : Mw} {S a : Nat} {f : Nat → Nat} (h : CS M S f a) : F_X1_injectionKind M = some (ikV (ikP S f a)) := by
  have w : ∀ t, t < 24 → F_X6_isWord t M = some (if mtP S f a t = true then 1 else 0) := fun t ht => c_isWord h.2.1 h.1 h.2.2 ht
  unfold F_X1_injectionKind ikP
  rw [w 4 (by decide), Option.bind_some]
  by_cases c4 : mtP S f a 4 = true
  · rw [if_pos c4, if_pos c4]; rfl
  rw [if_neg c4, if_neg c4, if_pos rfl, w 16 (by decide), Option.bind_some]
  by_cases c16 : mtP S f a 16 = true
  · rw [if_pos c16, if_pos c16]; rfl
  rw [if_neg c16, if_neg c16, if_pos rfl, w 13 (by decide), Option.bind_some]
  by_cases c13 : mtP S f a 13 = true
  · rw [if_pos c13, if_pos c13]; rfl
  rw [if_neg c13, if_neg c13, if_pos rfl, w 15 (by decide), Option.bind_some]
  by_cases c15 : mtP S f a 15 = true
  · rw [if_pos c15, if_pos c15]; rfl
  rw [if_neg c15, if_neg c15, if_pos rfl, w 23 (by decide), Option.bind_some]
  by_cases c23 : mtP S f a 23 = true
  · rw [if_pos c23, if_pos c23]; rfl
  rw [if_neg c23, if_neg c23, if_pos rfl, w 14 (by decide), Option.bind_some]
  by_cases c14 : mtP S f a 14 = true
  · rw [if_pos c14, if_pos c14]; rfl
  rw [if_neg c14, if_neg c14, if_pos rfl]
  rfl
theorem r_kindRead {M : Mw} {S a : Nat} {f : Nat → Nat} (h : RS M S f a) : F_X10_kindRead M = some (ikV (ikP S f a)) := by
  have st : ∀ (n i w : Nat), i ≤ 5 → w < 24 → F_X10_wordOf (nI i) M = some w → it (fun _ => none) (B_X10_kindRead_2 M) (n + 1) (nI i) = if mtP S f a w = true then some (nI i) else it (fun _ => none) (B_X10_kindRead_2 M) n (nI (i + 1)) := by
    intro n i w hi hw e
    rw [it_succ]
    generalize it (fun _ => none) (B_X10_kindRead_2 M) n = kk
    unfold B_X10_kindRead_2
    rw [if_neg (show ¬ (5 : Int32) < nI i from nI_nlt (a := 5) (by omega) (by omega)), e, Option.bind_some, r_is h.2.1 h.1 h.2.2.1 hw h.2.2.2.1, Option.bind_some]
    by_cases c : mtP S f a w = true
    · rw [if_pos c, if_pos c, if_neg (by decide)]
    · rw [if_neg c, if_neg c, if_pos rfl, bd_eq, nI_1]
  have s6 : ∀ n, it (fun _ => none) (B_X10_kindRead_2 M) (n + 1) (nI 6) = some (-1) := by
    intro n
    rw [it_succ]
    generalize it (fun _ => none) (B_X10_kindRead_2 M) n = kk
    unfold B_X10_kindRead_2
    rw [if_pos (by decide)]
  obtain ⟨n, hn⟩ : ∃ n, FU = n + 7 := ⟨FU - 7, by unfold FU; omega⟩
  unfold F_X10_kindRead ikP
  rw [hn, show (0 : Int32) = nI 0 from rfl, show n + 7 = (n + 6) + 1 from rfl, st _ 0 4 (by decide) (by decide) rfl]
  by_cases c4 : mtP S f a 4 = true
  · rw [if_pos c4, if_pos c4]; rfl
  rw [if_neg c4, if_neg c4, show n + 6 = (n + 5) + 1 from rfl, st _ 1 16 (by decide) (by decide) rfl]
  by_cases c16 : mtP S f a 16 = true
  · rw [if_pos c16, if_pos c16]; rfl
  rw [if_neg c16, if_neg c16, show n + 5 = (n + 4) + 1 from rfl, st _ 2 13 (by decide) (by decide) rfl]
  by_cases c13 : mtP S f a 13 = true
  · rw [if_pos c13, if_pos c13]; rfl
  rw [if_neg c13, if_neg c13, show n + 4 = (n + 3) + 1 from rfl, st _ 3 15 (by decide) (by decide) rfl]
  by_cases c15 : mtP S f a 15 = true
  · rw [if_pos c15, if_pos c15]; rfl
  rw [if_neg c15, if_neg c15, show n + 3 = (n + 2) + 1 from rfl, st _ 4 23 (by decide) (by decide) rfl]
  by_cases c23 : mtP S f a 23 = true
  · rw [if_pos c23, if_pos c23]; rfl
  rw [if_neg c23, if_neg c23, show n + 2 = (n + 1) + 1 from rfl, st _ 5 14 (by decide) (by decide) rfl]
  by_cases c14 : mtP S f a 14 = true
  · rw [if_pos c14, if_pos c14]; rfl
  rw [if_neg c14, if_neg c14, s6]
  rfl
theorem LnO.wrap {S a : Nat} {f : Nat → Nat} {Mc Mr : Mw} {oc : Option (Int32 × Mw)} {or : Option Mw} (h : LnO S f Mc Mr a oc or) : LnO S f Mc Mr a (oc.bind (fun q => if bz q.1 then some (q.1, q.2) else none)) or := by
  rcases h with ⟨Mc', Mr', β, L, a', h1, h2⟩ | ⟨e, pl, Mc', Mr', h1, h2⟩
  · left
    rw [h1, Option.bind_some, if_pos (show bz 1 = true by decide)]
    exact ⟨Mc', Mr', β, L, a', rfl, h2⟩
  · right
    rw [h1, Option.bind_some, if_pos (show bz 0 = true by decide)]
    exact ⟨e, pl, Mc', Mr', rfl, h2⟩
theorem ln_line {S a : Nat} {f : Nat → Nat} {Mc Mr : Mw} {β : Bw} {L : Lw} (hk : Lk S f Mc Mr β L a) (hla : β 0 0 3 ≤ a) (hm : kdP S f a ≠ 4) : LnO S f Mc Mr a (F_X1_readLine Mc) (F_X10_readText Mr) := by
  obtain ⟨hc, h132, h133, hC, hr, hR, hg⟩ := id hk
  have w : ∀ t, t < 24 → F_X6_isWord t Mc = some (if mtP S f a t = true then 1 else 0) := fun t ht => c_isWord hc.2.1 hc.1 hc.2.2 ht
  have v : ∀ t, t < 24 → F_X10_is t Mr = some (if mtP S f a t = true then 1 else 0) := fun t ht => r_is hr.2.1 hr.1 hr.2.2.1 ht hr.2.2.2.1
  have hS : a ≤ 1000 := Nat.le_trans hc.1 hc.2.1.1
  have e3 : Mc.1 0 0 0 3 = nI (β 0 0 3) := hC.1 3 (by decide)
  have e7 : Mr.1 56 0 0 7 = nI (β 0 0 3) := hR.1.1.2.2.2.2.2.2.2
  have n0 : nI (β 0 0 3) = 0 ↔ β 0 0 3 = 0 := nI_eq (b := 0) (by omega) (by omega)
  obtain ⟨Mf, q1, q2, q3⟩ := c_flaw (e := 1) hc
  have q1' : (F_X1_fail 1 Mc).bind (fun q => if bz q.1 then some (q.1, q.2) else none) = some (0, Mf) := q1
  obtain ⟨Mg, r1, r2, r3⟩ := r_errs (e := 1) hr (by decide) (by decide)
  have r1' : F_X10_errs 1 Mr = some Mg := r1
  -- a flaw at once
  have kbad : LnO S f Mc Mr a ((F_X1_fail 1 Mc).bind (fun q => if bz q.1 then some (q.1, q.2) else none)) ((F_X10_errs 1 Mr).bind B_X10_readText_91) := by
    obtain ⟨M', b1, b2, b3⟩ := bk_91 _ _ _ r2
    rw [q1', r1', Option.bind_some]
    exact Or.inr ⟨1, _, Mf, M', rfl, q2, b1, b2, q3.mono (fun κ b q => by omega), r3.b.trans b3⟩
  unfold F_X1_readLine F_X10_readText
  rw [w 1 (by decide), Option.bind_some, r_kindRead hr, Option.bind_some, e3, e7]
  by_cases c0 : β 0 0 3 = 0
  · rw [if_pos (n0.mpr c0), if_pos (n0.mpr c0)]
    unfold B_X1_readLine_26
    by_cases c1 : mtP S f a 1 = true
    · rw [if_pos c1, if_pos rfl, if_neg (by decide)]
      exact (ln_board hk c0 c1).wrap
    · rw [if_neg c1, if_neg (by decide), q1']
      rcases r_expects hr (t := 1) (by decide) with ⟨c2, -⟩ | ⟨-, Mr1, p1, p2, p3⟩
      · exact absurd c2 c1
      have hb := bk_tS (t := 19) (x := 20) (y := 200) (i := 0) (by decide) (bk_tS (t := 3) (x := 5) (y := 50) (i := 1) (by decide) (bk_tS (t := 7) (x := 0) (y := 9) (i := 2) (by decide) bk_91))
      obtain ⟨M', b1, b2, b3⟩ := hb _ _ _ p2
      right
      refine ⟨1, _, Mf, M', rfl, q2, ?_, b2, q3.mono (fun κ b q => by omega), p3.b.trans b3⟩
      show (F_X10_readBoard Mr).bind B_X10_readText_91 = _
      rw [r_boardEq, p1, Option.bind_some]
      exact b1
  rw [if_neg (mt n0.mp c0), if_neg (mt n0.mp c0)]
  have hl : 0 < β 0 0 3 := Nat.pos_of_ne_zero c0
  unfold B_X1_readLine_26
  rw [v 22 (by decide), Option.bind_some]
  by_cases c1 : mtP S f a 1 = true
  · have no : ∀ t, t < 24 → t ≠ 1 → ¬ mtP S f a t = true := fun t ht h1 h2 => h1 (mtP_ne ht (by decide) h2 c1)
    have hik : ikP S f a = 6 := by
      unfold ikP
      rw [if_neg (no 4 (by decide) (by decide)), if_neg (no 16 (by decide) (by decide)), if_neg (no 13 (by decide) (by decide)), if_neg (no 15 (by decide) (by decide)), if_neg (no 23 (by decide) (by decide)), if_neg (no 14 (by decide) (by decide))]
    rw [if_pos c1, if_neg (show ¬ (1 : Int32) = 0 by decide), if_neg (no 22 (by decide) (by decide)), if_pos rfl, v 17 (by decide), Option.bind_some, if_neg (no 17 (by decide) (by decide)), if_pos rfl, v 9 (by decide), Option.bind_some, if_neg (no 9 (by decide) (by decide)), if_pos rfl, hik, if_pos (show ikV 6 = -1 from rfl)]
    exact kbad
  rw [if_neg c1, if_pos rfl, if_pos rfl, w 22 (by decide), Option.bind_some]
  by_cases c22 : mtP S f a 22 = true
  · rw [if_pos c22, if_neg (show ¬ (1 : Int32) = 0 by decide), if_neg (show ¬ (1 : Int32) = 0 by decide)]
    exact (ln_watch hk hl hla hm).wrap
  rw [if_neg c22, if_pos rfl, if_pos rfl, w 17 (by decide), v 17 (by decide), Option.bind_some, Option.bind_some]
  by_cases c17 : mtP S f a 17 = true
  · rw [if_pos c17, if_neg (show ¬ (1 : Int32) = 0 by decide), if_neg (show ¬ (1 : Int32) = 0 by decide)]
    exact (ln_task hk hl hla hm).wrap
  rw [if_neg c17, if_pos rfl, if_pos rfl, w 9 (by decide), v 9 (by decide), Option.bind_some, Option.bind_some]
  by_cases c9 : mtP S f a 9 = true
  · rw [if_pos c9, if_neg (show ¬ (1 : Int32) = 0 by decide), if_neg (show ¬ (1 : Int32) = 0 by decide)]
    exact (ln_node hk hl hla hm).wrap
  rw [if_neg c9, if_pos rfl, if_pos rfl, c_injKind hc, Option.bind_some]
  have hi6 := ikP_le (S := S) (f := f) (a := a)
  by_cases c6 : ikP S f a = 6
  · rw [c6, if_pos (show ikV 6 = -1 from rfl)]
    unfold F_X1_readInjection
    rw [if_pos (show ikV 6 = -1 from rfl)]
    exact kbad.wrap
  · have ek : ikV (ikP S f a) = nI (ikP S f a) := if_neg c6
    rw [ek, if_neg (nI_nm1 (by omega))]
    exact (ln_inj hk hl hla hm (by omega)).wrap
