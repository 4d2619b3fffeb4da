/-! ALL LINES, both sides -/
def TpO (S : Nat) (f : Nat → Nat) (Mc Mr : Mw) (oc or : Option (Int32 × Mw)) : Prop :=
  (∃ Mc' Mr' β L a, oc = B_X1_readTape_77 Mc' ∧ or = B_X10_board_75 Mr' ∧ Lk S f Mc' Mr' β L a ∧ β 0 0 3 ≤ a ∧ Fr SC Mc Mc' ∧ OB Mr Mr') ∨
  (∃ e pl Mc' Mr', oc = B_X1_readTape_77 Mc' ∧ or = B_X10_board_75 Mr' ∧ CF Mc' e pl ∧ RF Mr' e pl ∧ Fr SC Mc Mc' ∧ OB Mr Mr')
theorem TpO.of {S : Nat} {f : Nat → Nat} {Mc0 Mr0 Mc Mr : Mw} {oc or : Option (Int32 × Mw)} (h : TpO S f Mc Mr oc or) (hc : Fr SC Mc0 Mc) (hr : OB Mr0 Mr) : TpO S f Mc0 Mr0 oc or := by
  rcases h with ⟨Mc', Mr', β, L, a, h1, h2, h3, h4, h5, h6⟩ | ⟨e, pl, Mc', Mr', h1, h2, h3, h4, h5, h6⟩
  · exact Or.inl ⟨Mc', Mr', β, L, a, h1, h2, h3, h4, hc.trans h5, hr.trans h6⟩
  · exact Or.inr ⟨e, pl, Mc', Mr', h1, h2, h3, h4, hc.trans h5, hr.trans h6⟩
theorem tape_loop {S : Nat} {f : Nat → Nat} : ∀ (d : Nat) (Mc Mr : Mw) (β : Bw) (L : Lw) (a n m l1 : Nat), S < a + d → d + 1 ≤ n → d + 1 ≤ m → l1 ≤ a → Lk S f Mc Mr β L a → β 0 0 3 ≤ a → TpO S f Mc Mr (it (fun _ _ => none) (B_X1_readTape_26) n (nI l1) Mc) (it (fun _ => none) (B_X10_board_54) m Mr) := by
  intro d
  induction d with
  | zero =>
    intro Mc Mr β L a n m l1 h1 h2 h3 h4 hk hla
    have := hk.1.1
    omega
  | succ d ih =>
    intro Mc Mr β L a n m l1 h1 h2 h3 h4 hk hla
    obtain ⟨n, rfl⟩ : ∃ n', n = n' + 1 := ⟨n - 1, by omega⟩
    obtain ⟨m, rfl⟩ : ∃ m', m = m' + 1 := ⟨m - 1, by omega⟩
    obtain ⟨hc, h132, h133, hC, hr, hR, hg⟩ := id hk
    have ha := hc.1
    have hS := hc.2.1.1
    obtain ⟨k5, k4⟩ := kdP_5 (fun j _ => hc.2.1.2.1 j) a (S := S)
    rw [it_succ, it_succ]
    generalize hkc : it (fun _ _ => none) (B_X1_readTape_26) n = kc
    generalize hkr : it (fun _ => none) (B_X10_board_54) m = kr
    unfold B_X1_readTape_26 B_X10_board_54
    rw [r_good1 hr.2.2.2.1, Option.bind_some, if_neg (show ¬ (1 : Int32) = 0 by decide), hr.2.2.1.2.2.1, if_pos h132, hc.2.2.1]
    by_cases c4 : kdP S f a = 4
    · rw [if_pos (show nI (tkR (kdP S f a)) = 0 by rw [c4]; rfl), if_pos (show nI (kdP S f a) = 4 by rw [c4]; rfl)]
      left
      refine ⟨Mc, Mr, β, L, a, ?_, rfl, hk, hla, Fr.rfl, OB.rfl⟩
      by_cases z : (1000 : Int32) ≤ nI l1
      · rw [if_pos z]
      · rw [if_neg z]
    · have hlt := hc.a_lt c4
      have hle := (en_le hc.2.1.2.1 ha).2
      have t0 : ¬ nI (tkR (kdP S f a)) = 0 := by
        unfold tkR
        rw [if_neg c4]
        exact mt (nI_eq (b := 0) (by omega) (by omega)).mp (by omega)
      rw [if_neg t0, if_neg (show ¬ nI (kdP S f a) = 4 from mt (nI_eq (b := 4) (by omega) (by omega)).mp c4), if_neg (show ¬ (1000 : Int32) ≤ nI l1 from nI_ge (b := 1000) (by omega) (by omega))]
      rcases ln_line hk hla c4 with ⟨Mc', Mr', β', L', a', p1, p2, p3, p4, ⟨p5, p6⟩, p7, p8⟩ | ⟨e, pl, Mc', Mr', p1, p2, p3, p4, p5, p6⟩
      · rw [p1, p2, Option.bind_some, Option.bind_some, if_neg (show ¬ (1 : Int32) = 0 by decide), bd_eq, bd_eq, nI_1, ← hkc, ← hkr]
        exact (ih _ Mr' β' L' a' n m (l1 + 1) (by omega) (by omega) (by omega) (by omega) p4 p6).of (p7.trans (Fr.uI (S := SC) (Or.inr (Or.inr (Or.inr ⟨by decide, rfl⟩))))) p8
      · rw [p1, p3, Option.bind_some, Option.bind_some, if_pos rfl, bd_eq, nI_1, ← hkc, ← hkr]
        obtain ⟨n, rfl⟩ : ∃ n', n = n' + 1 := ⟨n - 1, by omega⟩
        obtain ⟨m, rfl⟩ : ∃ m', m = m' + 1 := ⟨m - 1, by omega⟩
        rw [it_succ, it_succ]
        generalize it (fun _ _ => none) (B_X1_readTape_26) n = kc
        generalize it (fun _ => none) (B_X10_board_54) m = kr
        unfold B_X1_readTape_26 B_X10_board_54
        rw [r_good0 p4.ne, Option.bind_some, if_pos rfl]
        right
        refine ⟨e, pl, Mc', Mr', ?_, rfl, p2, p4, p5, p6⟩
        have hne : ¬ Mc'.1 13 0 0 2 = 0 := by
          rw [p2.1]
          exact nI_ne0 p4.2.1 (by have := p4.1; omega)
        rw [if_neg hne]
        by_cases z : (1000 : Int32) ≤ nI (l1 + 1)
        · rw [if_pos z]
        · rw [if_neg z]
theorem OB.u50 {M : Mw} {j : Nat} {v : Int32} (h1 : 8 ≤ j) (h2 : j ≤ 13) : OB M (uIw M 50 0 0 j v) := ⟨Fr.uI (S := fun κ _ => κ = 50 ∨ κ = 56) (Or.inl (Eq.refl _)), fun i hi => by rw [uI1, if_neg (fun q => by have := q.2.2.2; omega)]⟩
/-- the first task without a node -/
theorem bare_loop {S a : Nat} {f : Nat → Nat} {Mc Mr : Mw} {β : Bw} {L : Lw} (hk : Lk S f Mc Mr β L a) : ∀ (d i n m : Nat), β 0 0 5 = i + d → d + 2 ≤ n → d + 2 ≤ m →
    ((∀ t, i ≤ t → t < β 0 0 5 → 0 < β 4 t 6) ∧ it (fun _ _ => none) (B_X1_findTaskWithoutNode_2) n (nI i) Mc = some Mc ∧ it (fun _ _ => none) (B_X10_board_77) m (nI i) Mr = B_X10_board_131 Mr) ∨
    (∃ t Mc' Mr', it (fun _ _ => none) (B_X1_findTaskWithoutNode_2) n (nI i) Mc = some Mc' ∧ it (fun _ _ => none) (B_X10_board_77) m (nI i) Mr = B_X10_board_131 Mr' ∧ CF Mc' 4 t ∧ RF Mr' 4 t ∧ Fr SC Mc Mc' ∧ OB Mr Mr') := by
  obtain ⟨hc, h132, h133, hC, hr, hR, hg⟩ := id hk
  have hT5 := hg.1.2.2.2.2.1
  have e5 : Mc.1 0 0 0 5 = nI (β 0 0 5) := hC.1 5 (by decide)
  have w4 : Mr.1 56 0 0 4 = nI (β 0 0 5) := hR.1.1.2.2.2.2.1
  intro d
  induction d with
  | zero =>
    intro i n m h1 h2 h3
    obtain ⟨n, rfl⟩ : ∃ n', n = n' + 1 := ⟨n - 1, by omega⟩
    obtain ⟨m, rfl⟩ : ∃ m', m = m' + 1 := ⟨m - 1, by omega⟩
    left
    rw [it_succ, it_succ]
    generalize it (fun _ _ => none) (B_X1_findTaskWithoutNode_2) n = kc
    generalize it (fun _ _ => none) (B_X10_board_77) m = kr
    unfold B_X1_findTaskWithoutNode_2 B_X10_board_77
    rw [e5, w4, if_pos (nI_le (by omega) (by omega)), if_pos (nI_le (by omega) (by omega))]
    exact ⟨fun t h4 h5 => by omega, rfl, rfl⟩
  | succ d ih =>
    intro i n m h1 h2 h3
    obtain ⟨n, rfl⟩ : ∃ n', n = n' + 1 := ⟨n - 1, by omega⟩
    obtain ⟨m, rfl⟩ : ∃ m', m = m' + 1 := ⟨m - 1, by omega⟩
    rw [it_succ, it_succ]
    generalize hkc : it (fun _ _ => none) (B_X1_findTaskWithoutNode_2) n = kc
    generalize hkr : it (fun _ _ => none) (B_X10_board_77) m = kr
    have h6 := (hg.2.2.2.2.1 i (by omega)).2.2.2.2.2.2.2.2
    have e46 : Mc.1 4 0 i 6 = nI (β 4 i 6) := hC.2.2.1 i (by omega)
    have w46 : Mr.1 56 0 0 (11 + 7 * i + 6) = nI (β 4 i 6) := hR.2 i (by omega)
    have e2 : ((11 : Int32) + (7 * nI i)) + 6 = nI (11 + 7 * i + 6) := by
      rw [show (11 : Int32) = nI 11 from rfl, show (7 : Int32) = nI 7 from rfl, show (6 : Int32) = nI 6 from rfl, pk_mul, nI_add, nI_add]
    unfold B_X1_findTaskWithoutNode_2 B_X10_board_77
    rw [e5, w4, if_neg (show ¬ nI (β 0 0 5) ≤ nI i from nI_ge (by omega) (by omega)), if_neg (show ¬ nI (β 0 0 5) ≤ nI i from nI_ge (by omega) (by omega)), if_pos h132, if_pos (inb_nI (by omega) (by omega)), clampI (by omega), e46, r_good1 hr.2.2.2.1, Option.bind_some, if_neg (show ¬ (1 : Int32) = 0 by decide), e2, if_pos (inb_nI (by omega) (by omega)), clampI (by omega), w46]
    by_cases c : β 4 i 6 = 0
    · right
      rw [if_pos (show nI (β 4 i 6) = 0 by rw [c]; rfl), if_pos (show nI (β 4 i 6) ≤ 0 by rw [c]; decide), bd_eq, bd_eq, bd_eq, bd_eq, bd_eq, bd_eq, nI_1, ← hkc, ← hkr]
      obtain ⟨n, rfl⟩ : ∃ n', n = n' + 1 := ⟨n - 1, by omega⟩
      obtain ⟨m, rfl⟩ : ∃ m', m = m' + 1 := ⟨m - 1, by omega⟩
      obtain ⟨Mc', hMc⟩ : ∃ Mc', Mc' = uIw (uIw Mc 13 0 0 2 4) 13 0 0 3 (nI i) := ⟨_, rfl⟩
      obtain ⟨Mr', hMr⟩ : ∃ Mr', Mr' = uIw (uIw Mr 50 0 0 12 4) 50 0 0 13 (nI i) := ⟨_, rfl⟩
      rw [← hMc, ← hMr]
      have hCF : CF Mc' 4 i := by
        rw [hMc]
        refine ⟨?_, ?_, S, hc.2.1.1, ?_⟩
        · rw [uI1, if_neg (fun q => absurd q.2.2.2 (by decide)), uI1, if_pos ⟨rfl, rfl, rfl, rfl⟩]; rfl
        · rw [uI1, if_pos ⟨rfl, rfl, rfl, rfl⟩]
        · rw [uI_k (by decide), uI_k (by decide)]
          exact hc.2.1.2.2.2
      have hRF : RF Mr' 4 i := by
        rw [hMr]
        refine ⟨by decide, by decide, ?_, ?_⟩
        · rw [uI1, if_neg (fun q => absurd q.2.2.2 (by decide)), uI1, if_pos ⟨rfl, rfl, rfl, rfl⟩]; rfl
        · rw [uI1, if_pos ⟨rfl, rfl, rfl, rfl⟩]
      rw [it_succ, it_succ]
      generalize it (fun _ _ => none) (B_X1_findTaskWithoutNode_2) n = kc
      generalize it (fun _ _ => none) (B_X10_board_77) m = kr
      unfold B_X1_findTaskWithoutNode_2 B_X10_board_77
      have hne : ¬ Mc'.1 13 0 0 2 = 0 := by
        rw [hCF.1]
        decide
      rw [r_good0 hRF.ne, Option.bind_some, if_pos rfl, if_neg hne]
      refine ⟨i, Mc', Mr', ?_, ?_, hCF, hRF, ?_, ?_⟩
      · by_cases z : Mc'.1 0 0 0 5 ≤ nI (i + 1)
        · rw [if_pos z]
        · rw [if_neg z]
      · by_cases z : Mr'.1 56 0 0 4 ≤ nI (i + 1)
        · rw [if_pos z]
        · rw [if_neg z]
      · rw [hMc]
        exact (Fr.uI (S := SC) (Or.inl rfl)).trans (Fr.uI (S := SC) (Or.inl rfl))
      · rw [hMr]
        exact (OB.u50 (by decide) (by decide)).trans (OB.u50 (by decide) (by decide))
    · rw [if_neg (nI_ne0 (Nat.pos_of_ne_zero c) (by omega)), if_neg (show ¬ nI (β 4 i 6) ≤ 0 from nI_nle (Nat.pos_of_ne_zero c) (by omega)), bd_eq, bd_eq, nI_1, ← hkc, ← hkr]
      rcases ih (i + 1) n m (by omega) (by omega) (by omega) with ⟨q1, q2, q3⟩ | q
      · left
        refine ⟨fun t h4 h5 => ?_, q2, q3⟩
        by_cases z : t = i
        · rw [z]; exact Nat.pos_of_ne_zero c
        · exact q1 t (by omega) h5
      · exact Or.inr q
/-- the reference's board is told -/
theorem r_tell131 {M : Mw} (h : M.1 50 0 0 12 = 0) : ∃ M', B_X10_board_131 M = some (M.1 56 0 0 7, M') ∧ (∀ i, i < 201 → M'.1 51 0 0 i = M.1 56 0 0 i) ∧ Fr (fun κ _ => κ = 51) M M' := by
  unfold B_X10_board_131
  rw [r_good1 h, Option.bind_some, if_neg (show ¬ (1 : Int32) = 0 by decide)]
  have key := it_for (z := fun _ _ => none) (B := B_X10_board_143) (n := 201) (P := fun n M3 => (∀ i, i < n → M3.1 51 0 0 i = M.1 56 0 0 i) ∧ Fr (fun κ _ => κ = 51) M M3)
    (Q := fun o => ∃ M2, o = some (M.1 56 0 0 7, M2) ∧ (∀ i, i < 201 → M2.1 51 0 0 i = M.1 56 0 0 i) ∧ Fr (fun κ _ => κ = 51) M M2)
    (fun kk n M3 hn hP => by
      obtain ⟨p1, p3⟩ := hP
      left
      unfold B_X10_board_143
      rw [if_neg (show ¬ (201 : Int32) ≤ nI n from nI_ge (b := 201) hn (by omega)), if_pos (inb_nI hn (by omega)), if_pos (inb_nI hn (by omega)), clampI (by omega), bd_eq, bd_eq, nI_1]
      refine ⟨_, rfl, fun i hi => ?_, p3.trans (Fr.uI rfl)⟩
      rw [uI1]
      by_cases z : i = n
      · rw [if_pos ⟨rfl, rfl, rfl, z⟩, p3.k1 (fun b => by omega), z]
      · rw [if_neg (fun q => z q.2.2.2)]
        exact p1 i (by omega))
    (fun kk M3 hP => by
      unfold B_X10_board_143
      rw [if_pos (show (201 : Int32) ≤ nI 201 by decide), hP.1 7 (by decide)]
      exact ⟨M3, rfl, hP⟩)
    FU 0 M (by omega) (by unfold FU; omega) ⟨fun i hi => by omega, Fr.rfl⟩
  rw [nI_0] at key
  exact key
