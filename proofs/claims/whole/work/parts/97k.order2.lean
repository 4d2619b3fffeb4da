/-! ORDERS: counted, found -/
def okE (β : Bw) : List (List Nat) := (Eo (β 0 0 5)).filter (fun l => okO β (fo l))
theorem lw_ord {M M1 : Mw} {β : Bw} {L : Lw} (hx : Gx β L) (h : InvB M β L) (hF : Fr (fun κ _ => κ = 22) M M1) {o : Nat → Nat} (hO : O22 M1 (β 0 0 5) o) (ho : ∀ p, p < β 0 0 5 → o p < β 0 0 5) : CBd 1 M1 β L ∧ LwC M1 β (goC β) o :=
  ⟨h.2.1.2.1.d.fr (fun κ hκ => (hF κ 1 (fun z => by omega)).1), fun t ht => by rw [costOf_fr hF, costOf_fr hF]; exact c_base hx h.2.1.2.1.d h.1.2.2.2.2.1 t ht, fun p hp => ⟨hO p hp, ho p hp⟩⟩
theorem eo_mem {T i : Nat} (hi : i < (Eo T).length) : (Eo T).getD i [] ∈ Eo T := by
  rw [List.getD_eq_getElem?_getD, List.getElem?_eq_getElem hi]
  exact List.getElem_mem hi
theorem eo_nextM {M : Mw} {T i : Nat} (hT : T ≤ 5) (hi : i < (Eo T).length) (hO : O22 M T (fo ((Eo T).getD i []))) : ∃ (f : Nat) (M' : Mw), F_X3_nextOrder (nI T) M = some (nI f, M') ∧ Fr (fun κ _ => κ = 22) M M' ∧ ((f = 1 ∧ i + 1 < (Eo T).length ∧ O22 M' T (fo ((Eo T).getD (i + 1) []))) ∨ (f = 0 ∧ i + 1 = (Eo T).length)) := by
  obtain ⟨-, b2, -, -⟩ := eo_perm T (by omega) _ (eo_mem hi)
  obtain ⟨n1, n2⟩ := c_next hT hO (fun p hp => by have := b2 p hp; omega)
  have hn := eo_next T (by omega) i hi
  by_cases c : pvN (fo ((Eo T).getD i [])) (T - 1) = 0
  · rw [if_pos c] at hn
    exact ⟨0, M, n1 c, Fr.rfl, Or.inr ⟨rfl, hn⟩⟩
  · rw [if_neg c] at hn
    obtain ⟨M', q1, q2, q3⟩ := n2 c
    exact ⟨1, M', q1, q3, Or.inl ⟨rfl, hn.1, fun p hp => by rw [q2 p hp, hn.2 p hp]⟩⟩
theorem take_f {β : Bw} {i : Nat} (hi : i < (Eo (β 0 0 5)).length) : ((Eo (β 0 0 5)).take (i + 1)).filter (fun l => okO β (fo l)) = ((Eo (β 0 0 5)).take i).filter (fun l => okO β (fo l)) ++ (if okO β (fo ((Eo (β 0 0 5)).getD i [])) = true then [(Eo (β 0 0 5)).getD i []] else []) := by
  have e : (Eo (β 0 0 5)).getD i [] = (Eo (β 0 0 5))[i] := by rw [List.getD_eq_getElem?_getD, List.getElem?_eq_getElem hi]; rfl
  rw [List.take_add_one, List.filter_append, e, List.getElem?_eq_getElem hi]
  congr 1
  by_cases c : okO β (fo (Eo (β 0 0 5))[i]) = true
  · rw [if_pos c]
    simp [c]
  · rw [if_neg c]
    simp [c]
theorem c_cntOrd {M : Mw} {β : Bw} {L : Lw} (h : InvB M β L) : ∃ M', F_X3_countOrders 1 M = some (nI (okE β).length, M') ∧ Fr (fun κ _ => κ = 22) M M' := by
  have hx := h.2.1.1
  have hT5 := hx.1.1.2.2.2.2
  obtain ⟨e1, e2⟩ := eo_len (β 0 0 5) (by omega)
  obtain ⟨M1, q1, q2, q3⟩ := c_lineUp (M := M) hT5
  unfold F_X3_countOrders
  rw [h.2.1.2.1.c 5 (by omega), q1, Option.bind_some]
  have key := it_for3 (z := fun _ _ _ _ => none) (B := B_X3_countOrders_15 1) (n := 120)
    (P := fun i a c M2 => Fr (fun κ _ => κ = 22) M M2 ∧ ((c = 1 ∧ i < (Eo (β 0 0 5)).length ∧ O22 M2 (β 0 0 5) (fo ((Eo (β 0 0 5)).getD i [])) ∧ a = nI (((Eo (β 0 0 5)).take i).filter (fun l => okO β (fo l))).length) ∨ (c = 0 ∧ a = nI (okE β).length)))
    (Q := fun o => ∃ M', o = some (nI (okE β).length, M') ∧ Fr (fun κ _ => κ = 22) M M')
    (fun kk i a c M2 hi hP => by
      obtain ⟨p1, p2⟩ := hP
      unfold B_X3_countOrders_15
      rw [if_neg (show ¬ (120 : Int32) ≤ nI i from nI_ge (b := 120) hi (by omega))]
      rcases p2 with ⟨rfl, p3, p4, p5⟩ | ⟨rfl, rfl⟩
      · left
        obtain ⟨-, b2, -, -⟩ := eo_perm (β 0 0 5) (by omega) _ (eo_mem p3)
        obtain ⟨hB2, hL2⟩ := lw_ord hx h p1 p4 b2
        obtain ⟨f, M3, s1, s2, s3⟩ := eo_nextM hT5 p3 p4
        have ht := take_f p3
        have hfin : ∀ a2 : Int32, a2 = nI (((Eo (β 0 0 5)).take (i + 1)).filter (fun l => okO β (fo l))).length → (nI f = 1 ∧ i + 1 < (Eo (β 0 0 5)).length ∧ O22 M3 (β 0 0 5) (fo ((Eo (β 0 0 5)).getD (i + 1) [])) ∧ a2 = nI (((Eo (β 0 0 5)).take (i + 1)).filter (fun l => okO β (fo l))).length) ∨ (nI f = 0 ∧ a2 = nI (okE β).length) := by
          intro a2 ha2
          rcases s3 with ⟨rfl, y1, y2⟩ | ⟨rfl, y1⟩
          · exact Or.inl ⟨rfl, y1, y2, ha2⟩
          · refine Or.inr ⟨rfl, ?_⟩
            rw [ha2, y1, List.take_length]
            rfl
        rw [if_neg (show ¬ (1 : Int32) = 0 by decide), c_isOrd hx hB2 hL2, Option.bind_some]
        by_cases co : okO β (fo ((Eo (β 0 0 5)).getD i [])) = true
        · rw [if_pos co] at ht
          rw [if_pos co, if_neg (show ¬ (1 : Int32) = 0 by decide), bd_eq, hB2.1 5 (by omega), s1, Option.bind_some, bd_eq, nI_1, bd_eq]
          refine ⟨_, _, M3, rfl, p1.trans s2, hfin _ ?_⟩
          rw [p5, ht, List.length_append, nI_1]
          rfl
        · rw [if_neg co, List.append_nil] at ht
          rw [if_neg co, if_pos rfl, hB2.1 5 (by omega), s1, Option.bind_some, bd_eq, nI_1, bd_eq]
          refine ⟨_, _, M3, rfl, p1.trans s2, hfin _ ?_⟩
          rw [p5, ht]
      · right
        rw [if_pos rfl]
        exact ⟨M2, rfl, p1⟩)
    (fun kk a c M2 hP => by
      obtain ⟨p1, p2⟩ := hP
      unfold B_X3_countOrders_15
      rw [if_pos (show (120 : Int32) ≤ nI 120 by decide)]
      rcases p2 with ⟨rfl, p3, -⟩ | ⟨rfl, rfl⟩
      · omega
      · exact ⟨M2, rfl, p1⟩)
    FU 0 0 1 M1 (Nat.zero_le _) (by unfold FU; omega) ⟨q2, Or.inl ⟨rfl, e1, fun p hp => by rw [q3 p hp, eo_0 _ (by omega) p hp], by rw [List.take_zero]; rfl⟩⟩
  rw [nI_0] at key
  exact key
theorem c_findOrd {M : Mw} {β : Bw} {L : Lw} (h : InvB M β L) : ∃ (f : Nat) (M' : Mw), F_X3_findOrder 1 M = some (nI f, M') ∧ Fr (fun κ _ => κ = 22) M M' ∧ ((f = 0 ∧ okE β = []) ∨ (f = 1 ∧ ∃ l, (okE β).head? = some l ∧ O22 M' (β 0 0 5) (fo l))) := by
  have hx := h.2.1.1
  have hT5 := hx.1.1.2.2.2.2
  obtain ⟨e1, e2⟩ := eo_len (β 0 0 5) (by omega)
  obtain ⟨M1, q1, q2, q3⟩ := c_lineUp (M := M) hT5
  unfold F_X3_findOrder
  rw [h.2.1.2.1.c 5 (by omega), q1, Option.bind_some]
  exact it_ghM (z := fun _ _ _ => none) (B := B_X3_findOrder_12 1) (n := 120)
    (P := fun i a c M2 => c = nI i ∧ Fr (fun κ _ => κ = 22) M M2 ∧ ((a = 1 ∧ i < (Eo (β 0 0 5)).length ∧ O22 M2 (β 0 0 5) (fo ((Eo (β 0 0 5)).getD i [])) ∧ ((Eo (β 0 0 5)).take i).filter (fun l => okO β (fo l)) = []) ∨ (a = 0 ∧ okE β = [])))
    (Q := fun o => ∃ (f : Nat) (M' : Mw), o = some (nI f, M') ∧ Fr (fun κ _ => κ = 22) M M' ∧ ((f = 0 ∧ okE β = []) ∨ (f = 1 ∧ ∃ l, (okE β).head? = some l ∧ O22 M' (β 0 0 5) (fo l))))
    (fun kk i a c M2 hi hP => by
      obtain ⟨rfl, p1, p2⟩ := hP
      unfold B_X3_findOrder_12
      rw [if_neg (show ¬ (120 : Int32) ≤ nI i from nI_ge (b := 120) hi (by omega))]
      rcases p2 with ⟨rfl, p3, p4, p5⟩ | ⟨rfl, p3⟩
      · obtain ⟨-, b2, -, -⟩ := eo_perm (β 0 0 5) (by omega) _ (eo_mem p3)
        obtain ⟨hB2, hL2⟩ := lw_ord hx h p1 p4 b2
        have ht := take_f p3
        rw [p5, List.nil_append] at ht
        rw [if_neg (show ¬ (1 : Int32) = 0 by decide), c_isOrd hx hB2 hL2, Option.bind_some]
        by_cases co : okO β (fo ((Eo (β 0 0 5)).getD i [])) = true
        · right
          rw [if_pos co] at ht
          rw [if_pos co, if_neg (show ¬ (1 : Int32) = 0 by decide)]
          refine ⟨1, M2, rfl, p1, Or.inr ⟨rfl, _, ?_, p4⟩⟩
          have e3 : okE β = [(Eo (β 0 0 5)).getD i []] ++ ((Eo (β 0 0 5)).drop (i + 1)).filter (fun l => okO β (fo l)) := by
            show (Eo (β 0 0 5)).filter (fun l => okO β (fo l)) = _
            rw [← ht, ← List.filter_append, List.take_append_drop]
          rw [e3]
          rfl
        · left
          rw [if_neg co] at ht
          obtain ⟨f, M3, s1, s2, s3⟩ := eo_nextM hT5 p3 p4
          rw [if_neg co, if_pos rfl, hB2.1 5 (by omega), s1, Option.bind_some, bd_eq, nI_1, bd_eq]
          refine ⟨_, _, M3, rfl, rfl, p1.trans s2, ?_⟩
          rcases s3 with ⟨rfl, y1, y2⟩ | ⟨rfl, y1⟩
          · exact Or.inl ⟨rfl, y1, y2, ht⟩
          · refine Or.inr ⟨rfl, ?_⟩
            rw [y1, List.take_length] at ht
            exact ht
      · right
        rw [if_pos rfl]
        exact ⟨0, M2, rfl, p1, Or.inl ⟨rfl, p3⟩⟩)
    (fun kk a c M2 hP => by
      obtain ⟨rfl, p1, p2⟩ := hP
      unfold B_X3_findOrder_12
      rw [if_pos (show (120 : Int32) ≤ nI 120 by decide)]
      rcases p2 with ⟨rfl, p3, -⟩ | ⟨rfl, p3⟩
      · omega
      · exact ⟨0, M2, rfl, p1, Or.inl ⟨rfl, p3⟩⟩)
    FU 0 1 0 M1 (Nat.zero_le _) (by unfold FU; omega) ⟨rfl, q2, Or.inl ⟨rfl, e1, fun p hp => by rw [q3 p hp, eo_0 _ (by omega) p hp], by rw [List.take_zero]; rfl⟩⟩
/-! the reference's recursion -/
def mkF (o : Nat → Nat) : Nat → Nat
  | 0 => 0
  | p + 1 => mkF o p ||| 2 ^ (o p)
theorem mkF_bit {o : Nat → Nat} {i : Nat} : ∀ p, (mkF o p).testBit i = true ↔ ∃ p', p' < p ∧ o p' = i := by
  intro p
  induction p with
  | zero =>
    show (0 : Nat).testBit i = true ↔ _
    rw [Nat.zero_testBit]
    exact ⟨fun q => absurd q (by decide), fun ⟨p', h, _⟩ => by omega⟩
  | succ p ih =>
    show (mkF o p ||| 2 ^ (o p)).testBit i = true ↔ _
    rw [Nat.testBit_or, Bool.or_eq_true, ih, Nat.testBit_two_pow, decide_eq_true_iff]
    constructor
    · rintro (⟨p', h1, h2⟩ | h)
      · exact ⟨p', by omega, h2⟩
      · exact ⟨p, by omega, h⟩
    · rintro ⟨p', h1, h2⟩
      by_cases z : p' = p
      · rw [z] at h2; exact Or.inr h2
      · exact Or.inl ⟨p', by omega, h2⟩
theorem or_lt : ∀ m, m < 32 → ∀ x, x < 5 → m ||| 2 ^ x < 32 ∧ nI m ||| (1 <<< (nI x &&& 31)) = nI (m ||| 2 ^ x) := by decide +kernel
theorem mkF_lt {o : Nat → Nat} : ∀ p, (∀ p', p' < p → o p' < 5) → mkF o p < 32 := by
  intro p
  induction p with
  | zero => intro _; show 0 < 32; omega
  | succ p ih =>
    intro h
    exact (or_lt _ (ih (fun p' hp => h p' (by omega))) _ (h p (by omega))).1
theorem lb_dec : ∀ b0 b1 b2 b3 b4 : Bool, ∀ T, T < 6 → (lbI (fun t => match t with | 0 => b0 | 1 => b1 | 2 => b2 | 3 => b3 | _ => b4) T = (1 <<< (nI T &&& 31)) - 1 ↔ ∀ t, t < T → (match t with | 0 => b0 | 1 => b1 | 2 => b2 | 3 => b3 | _ => b4) = true) := by decide +kernel
theorem lb_all {law : Nat → Bool} {T : Nat} (hT : T ≤ 5) : lbI law T = (1 <<< (nI T &&& 31)) - 1 ↔ ∀ t, t < T → law t = true := by
  have hm : ∀ t, t < 5 → law t = (match t with | 0 => law 0 | 1 => law 1 | 2 => law 2 | 3 => law 3 | _ => law 4) := by
    intro t ht
    rcases (by omega : t = 0 ∨ t = 1 ∨ t = 2 ∨ t = 3 ∨ t = 4) with rfl | rfl | rfl | rfl | rfl <;> rfl
  rw [lbI_c T (fun i hi => hm i (by omega)), lb_dec _ _ _ _ _ T (by omega)]
  constructor
  · intro h t ht
    rw [hm t (by omega)]
    exact h t ht
  · intro h t ht
    rw [← hm t (by omega)]
    exact h t ht
/-- the reference, on its way: a beginning, what it found -/
def RoI (M0 M : Mw) (β : Bw) (L : Lw) (pre : List Nat) (acc : List (List Nat)) : Prop :=
  Fr (fun κ _ => (60 ≤ κ ∧ κ ≤ 62) ∨ κ = 50) M0 M ∧ (∀ j, j ≠ 21 → M.1 50 0 0 j = M0.1 50 0 0 j) ∧
  (∀ p, p < pre.length → M.1 61 0 0 p = nI (fo pre p) ∧ M.1 60 0 0 (fo pre p) = nI (mkF (fo pre) p)) ∧
  M.1 50 0 0 21 = nI acc.length ∧ (∀ l, acc.head? = some l → ∀ p, p < β 0 0 5 → M.1 62 0 0 p = nI (fo l p))
def RoB (M0 : Mw) (β : Bw) (L : Lw) : Prop := RWd (M0.1 51 0 0) β L ∧ ∀ t, t < β 0 0 5 → M0.1 59 0 0 t = nI (goC β 0 t) ∧ M0.1 58 0 0 t = nI (goC β 1 t)
theorem ro_leaf {M0 M : Mw} {β : Bw} {L : Lw} {pre : List Nat} {acc : List (List Nat)} (hx : Gx β L) (hb : RoB M0 β L) (hp : pre ∈ Eo (β 0 0 5)) (h : RoI M0 M β L pre acc) : F_X10_lawfulNow M = some (lbI (fun t => lwB β (goC β) (rsR β (goC β) (fun t => mkF (fo pre) ((List.range (β 0 0 5)).find? (fun p => fo pre p = t) |>.getD 0)) t) t) (β 0 0 5)) ∧ ((∀ t, t < β 0 0 5 → lwB β (goC β) (rsR β (goC β) (fun t => mkF (fo pre) ((List.range (β 0 0 5)).find? (fun p => fo pre p = t) |>.getD 0)) t) t = true) ↔ okO β (fo pre) = true) := by
  have hT5 := hx.1.1.2.2.2.2
  obtain ⟨c1, c2, c3, c4⟩ := eo_perm (β 0 0 5) (by omega) pre hp
  obtain ⟨i1, i2, i3, i4, i5⟩ := h
  have hfind : ∀ p, p < β 0 0 5 → ((List.range (β 0 0 5)).find? (fun p' => fo pre p' = fo pre p) |>.getD 0) = p := by
    intro p hp
    cases hf : (List.range (β 0 0 5)).find? (fun p' => decide (fo pre p' = fo pre p)) with
    | none =>
      have := List.find?_eq_none.mp hf p (List.mem_range.mpr hp)
      exact absurd (decide_eq_true rfl) this
    | some q =>
      have h1 := List.find?_some hf
      have h2 := List.mem_range.mp (List.mem_of_find?_eq_some hf)
      exact c4 q h2 p hp (of_decide_eq_true h1)
  obtain ⟨msk, hmsk⟩ : ∃ msk : Nat → Nat, msk = fun t => mkF (fo pre) ((List.range (β 0 0 5)).find? (fun p => fo pre p = t) |>.getD 0) := ⟨_, rfl⟩
  have hm : ∀ p, p < β 0 0 5 → msk (fo pre p) = mkF (fo pre) p := fun p hp => by
    rw [hmsk]
    show mkF (fo pre) ((List.range (β 0 0 5)).find? (fun p' => fo pre p' = fo pre p) |>.getD 0) = _
    rw [hfind p hp]
  have hL : LwR M β L (goC β) msk := by
    refine ⟨by rw [i1.k1 (κ := 51) (fun b => by omega)]; exact hb.1, fun t ht => ?_⟩
    obtain ⟨p, hp', rfl⟩ := c3 t ht
    rw [i1.k1 (κ := 59) (fun b => by omega), i1.k1 (κ := 58) (fun b => by omega), hm p hp']
    exact ⟨(hb.2 _ ht).1, (hb.2 _ ht).2, (i3 p (by omega)).2, mkF_lt p (fun p' hp2 => by have := c2 p' (by omega); omega)⟩
  rw [← hmsk]
  refine ⟨r_lawBits hx (gc_go hx.1) hL, ?_⟩
  have hrs : ∀ p, p < β 0 0 5 → rsR β (goC β) msk (fo pre p) = rsC β (goC β) (fo pre) p := fun p hp' =>
    rs_eq hp' (fun p1 p2 h1 h2 => c4 p1 h1 p2 h2) c2 (fun i hi => by rw [hm p hp']; exact mkF_bit p)
  constructor
  · intro q
    refine decide_eq_true (fun p hp' => ?_)
    rw [← hrs p hp']
    exact q _ (c2 p hp')
  · intro q t ht
    obtain ⟨p, hp', rfl⟩ := c3 t ht
    rw [hrs p hp']
    exact (show ∀ p, p < β 0 0 5 → lwB β (goC β) (rsC β (goC β) (fo pre) p) (fo pre p) = true from of_decide_eq_true q) p hp'
