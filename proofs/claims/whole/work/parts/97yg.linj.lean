/-! THE LINE OF AN INJECTION -/
def inB (β : Bw) : Bw := fun κ i j => if κ = 0 ∧ i = 0 ∧ j = 6 then β 0 0 6 + 1 else if κ = 0 ∧ i = 0 ∧ j = 3 then β 0 0 3 + 1 else β κ i j
theorem inB_n {β : Bw} {κ i j : Nat} (h : κ ≠ 0 ∨ (j ≠ 6 ∧ j ≠ 3)) : inB β κ i j = β κ i j := by
  unfold inB
  rw [if_neg (by omega), if_neg (by omega)]
theorem inB_6 {β : Bw} : inB β 0 0 6 = β 0 0 6 + 1 := if_pos ⟨rfl, rfl, rfl⟩
theorem inB_3 {β : Bw} : inB β 0 0 3 = β 0 0 3 + 1 := by
  unfold inB
  rw [if_neg (by omega), if_pos ⟨rfl, rfl, rfl⟩]
theorem GRow.inB {β : Bw} {r : Rw} (h : GRow β r) : GRow (inB β) r := by
  rcases h with ⟨w, x, hw, hx, e'⟩ | ⟨t, j', m, ht, hj, hm1, hm2, e'⟩ | ⟨kd, t, j', n, m, hkd, ht, hj, hn, hm1, hm2, e'⟩
  · exact Or.inl ⟨w, x, by rw [inB_n (by omega)]; exact hw, hx, e'⟩
  · exact Or.inr (Or.inl ⟨t, j', m, by rw [inB_n (by omega)]; exact ht, hj, hm1, hm2, e'⟩)
  · exact Or.inr (Or.inr ⟨kd, t, j', n, m, hkd, by rw [inB_n (by omega)]; exact ht, hj, by rw [inB_n (by omega)]; exact hn, hm1, hm2, e'⟩)
theorem GBp.inj {β : Bw} {L : Lw} {r : Rw} (h : GBp β L) (hl : 0 < β 0 0 3) (h8 : L.length < 8) (hr : GRow β r) : GBp (inB β) (L ++ [r]) := by
  obtain ⟨⟨a0, a1, a2, a3, a4, a5, a6, a7⟩, b, c, d, e, e2, g, i, j, k, l⟩ := h
  have x : ∀ j, j ≠ 6 → j ≠ 3 → inB β 0 0 j = β 0 0 j := fun j p q => inB_n (Or.inr ⟨p, q⟩)
  have n1 : ∀ κ i j, κ ≠ 0 → inB β κ i j = β κ i j := fun κ i j q => inB_n (Or.inl q)
  have hlen : (L ++ [r]).length = L.length + 1 := by
    rw [List.length_append]
    rfl
  have hund : ∀ q w, und (inB β) q w = und β q w := fun q w => by
    unfold und
    rw [n1 1 _ _ (by decide), n1 1 _ _ (by decide)]
  unfold GBp
  rw [x 0 (by decide) (by decide), x 1 (by decide) (by decide), x 2 (by decide) (by decide), x 4 (by decide) (by decide), x 5 (by decide) (by decide), x 7 (by decide) (by decide), inB_6, inB_3, hlen]
  refine ⟨⟨a0, a1, a2, a3, a4, by omega, by omega, a7⟩, fun _ => b hl, fun q => by omega, d, fun t ht => ?_, fun t ht => ?_, fun t n ht hn => ?_, fun t n q hq => ?_, ⟨?_, fun w hw hw2 => ?_⟩, fun w hw => ?_, fun s hs => ?_⟩
  · rw [n1 4 _ _ (by decide), n1 4 _ _ (by decide), n1 4 _ _ (by decide), n1 4 _ _ (by decide), n1 4 _ _ (by decide), n1 4 _ _ (by decide), n1 4 _ _ (by decide)]
    exact e t ht
  · rw [n1 4 _ _ (by decide)]; exact e2 t ht
  · rw [n1 4 _ _ (by decide)] at hn
    rw [n1 6 _ _ (by decide)]
    exact g t n ht hn
  · rw [n1 8 _ _ (by decide)] at hq
    rw [n1 4 _ _ (by decide)]
    exact i t n q hq
  · rw [n1 1 _ _ (by decide)]; exact j.1
  · rw [n1 1 _ _ (by decide)]; exact j.2 w hw hw2
  · rw [n1 2 _ _ (by decide)]
    obtain ⟨k1, k2⟩ := k w hw
    exact ⟨k1, fun q => by rw [hund]; exact k2 q⟩
  · rcases List.mem_append.mp hs with q | q
    · exact (l s q).inB
    · rw [List.mem_singleton.mp q]; exact hr.inB
def KE (M : Mw) : Option Mw := B_X10_readText_91 (uIw M 56 0 0 5 (M.1 56 0 0 5 + 1))
theorem bk_KE : BK KE := fun e pl M h => by
  obtain ⟨M', b1, b2, b3⟩ := bk_91 e pl _ (h.fr (M' := uIw M 56 0 0 5 (M.1 56 0 0 5 + 1)) (uI_k (by decide)))
  exact ⟨M', b1, b2, OB.u.trans b3⟩
def J3 (x : Nat) (p : Int32) (M : Mw) : Mw := uIw (uIw (uIw M 56 0 0 x p) 56 0 0 (x + 3) (-1)) 56 0 0 (x + 4) (-1)
def T171 (x : Nat) : Mw → Option Mw := tS 20 1 9 (x + 4) KE
theorem r_injEq {M0 M : Mw} {T W : Nat} {p : Int32} (hc : F_X10_canTake 5 8 M0 = some (1, M)) (h5 : M.1 56 0 0 5 = nI T) (h3 : M.1 56 0 0 3 = nI W) (hT : T < 8) :
    (F_X10_readInjection p M0).bind B_X10_readText_91 = (if p = 5 then (F_X10_takes 0 (nI W - 1) (J3 (106 + 5 * T) p M)).bind (fun q => tS 18 0 199 (106 + 5 * T + 2) KE (uIw q.2 56 0 0 (106 + 5 * T + 1) q.1))
      else (F_X10_taskRead (J3 (106 + 5 * T) p M)).bind (fun q => tS 5 0 50 (106 + 5 * T + 2) (fun M18 => if p = 4 then T171 (106 + 5 * T) M18 else (if inb ((11 + (7 * (M18.1 56 0 0 (106 + 5 * T + 1)))) + 6) 201 then tS 9 0 ((M18.1 56 0 0 ((11 + (7 * (M18.1 56 0 0 (106 + 5 * T + 1)))) + 6).toNatClampNeg) - 1) (106 + 5 * T + 3) (T171 (106 + 5 * T)) M18 else none)) (uIw q.2 56 0 0 (106 + 5 * T + 1) q.1))) := by
  have e : (106 : Int32) + 5 * nI T = nI (106 + 5 * T) := by
    rw [show (106 : Int32) = nI 106 from rfl, show (5 : Int32) = nI 5 from rfl, pk_mul, nI_add]
  have hx : 106 + 5 * T ≤ 150 ∧ 100 ≤ 106 + 5 * T := by omega
  have e3 : (J3 (106 + 5 * T) p M).1 56 0 0 3 = nI W := by
    unfold J3
    rw [uI1, if_neg (fun q => by omega), uI1, if_neg (fun q => by omega), uI1, if_neg (fun q => by omega), h3]
  unfold F_X10_readInjection B_X10_readInjection_171 B_X10_readInjection_189 T171 tS KE
  rw [hc, Option.bind_some, if_neg (show ¬ (1 : Int32) = 0 by decide)]
  unfold J3 at e3 ⊢
  simp only [h5, e]
  generalize 106 + 5 * T = x at hx e3
  have e1 : nI x + 1 = nI (x + 1) := nI_add x 1
  have e2 : nI x + 2 = nI (x + 2) := nI_add x 2
  have e3' : nI x + 3 = nI (x + 3) := nI_add x 3
  have e4 : nI x + 4 = nI (x + 4) := nI_add x 4
  have i0 : inb (nI x) 201 = true := inb_nI (by omega) (by omega)
  have i1 : inb (nI (x + 1)) 201 = true := inb_nI (by omega) (by omega)
  have i2 : inb (nI (x + 2)) 201 = true := inb_nI (by omega) (by omega)
  have i3 : inb (nI (x + 3)) 201 = true := inb_nI (by omega) (by omega)
  have i4 : inb (nI (x + 4)) 201 = true := inb_nI (by omega) (by omega)
  have c0 : (nI x).toNatClampNeg = x := clampI (by omega)
  have c1 : (nI (x + 1)).toNatClampNeg = x + 1 := clampI (by omega)
  have c2 : (nI (x + 2)).toNatClampNeg = x + 2 := clampI (by omega)
  have c3 : (nI (x + 3)).toNatClampNeg = x + 3 := clampI (by omega)
  have c4 : (nI (x + 4)).toNatClampNeg = x + 4 := clampI (by omega)
  simp only [bd_eq, e1, e2, e3', e4, i0, i1, i2, i3, i4, c0, c1, c2, c3, c4, if_true]
  by_cases p5 : p = 5
  · simp only [if_pos p5, e3, Option.bind_assoc, Option.bind_some]
  · simp only [if_neg p5, Option.bind_assoc]
    congr 1
    funext q
    congr 1
    funext q2
    by_cases p4 : p = 4
    · simp only [if_pos p4, Option.bind_assoc, Option.bind_some]
    · simp only [if_neg p4]
      split
      · simp only [Option.bind_assoc, Option.bind_some]
      · rfl
/-- the task of an injection -/
def kE (S : Nat) (f : Nat → Nat) (β : Bw) (a : Nat) : Nat := if kdP S f a = 1 then (if vlP S f a < β 0 0 5 ∧ 0 < β 4 (vlP S f a) 6 then 0 else 2) else 1
theorem c_chTask {M : Mw} {β : Bw} {L : Lw} {S a : Nat} {f : Nat → Nat} (h : CS M S f a) (hC : KC M β L) (hg : GBp β L) :
    (kE S f β a = 0 ∧ ∃ M', F_X1_readChangedTask M = some (1, M') ∧ CS M' S f (enP S f a) ∧ M'.1 14 0 0 0 = nI (vlP S f a) ∧ Fr FG M M') ∨
    (kE S f β a ≠ 0 ∧ ∃ M', F_X1_readChangedTask M = some (0, M') ∧ CF M' (kE S f β a) (frP S f a) ∧ Fr FC M M') := by
  have hv := vlP_le h.2.1.2.1 (S := S) a
  obtain ⟨k5, k4⟩ := kdP_5 (fun j _ => h.2.1.2.1 j) a (S := S)
  have hT5 := hg.1.2.2.2.2.1
  have e5 : M.1 0 0 0 5 = nI (β 0 0 5) := hC.1 5 (by decide)
  have k35 : (kdP S f a = 1 → vlP S f a < β 0 0 5 ∧ 0 < β 4 (vlP S f a) 6) → (kE S f β a = 0 ∧ ∃ M', B_X1_readChangedTask_35 M = some (1, M') ∧ CS M' S f (enP S f a) ∧ M'.1 14 0 0 0 = nI (vlP S f a) ∧ Fr FG M M') ∨ (kE S f β a ≠ 0 ∧ ∃ M', B_X1_readChangedTask_35 M = some (0, M') ∧ CF M' (kE S f β a) (frP S f a) ∧ Fr FC M M') := by
    intro hok
    unfold B_X1_readChangedTask_35
    rw [e5]
    rcases c_num h (lo := 0) (n := β 0 0 5) (slot := 0) (hi := nI (β 0 0 5) - 1) (by omega) (by omega) (by omega) (nI_m _) with ⟨c, M', q1, q2, q3, q4, q5⟩ | ⟨c, M', q1, q2, q3⟩
    · left
      have q1' : F_X1_readNumber 0 (nI (β 0 0 5) - 1) 0 M = some (1, M') := q1
      have h1 : kdP S f a = 1 := by
        unfold nE at c
        by_cases d : kdP S f a = 1
        · exact d
        · rw [if_neg d] at c; omega
      have ek : kE S f β a = 0 := by
        unfold kE
        rw [if_pos h1, if_pos (hok h1)]
      rw [q1', Option.bind_some, if_pos (show bz 1 = true by decide)]
      exact ⟨ek, M', rfl, q2, q3, q5⟩
    · right
      have q1' : F_X1_readNumber 0 (nI (β 0 0 5) - 1) 0 M = some (0, M') := q1
      have ek : kE S f β a = nE S f 0 (β 0 0 5) a := by
        unfold kE nE
        by_cases d : kdP S f a = 1
        · rw [if_pos d, if_pos d, if_pos (hok d), if_pos ⟨Nat.zero_le _, (hok d).1⟩]
        · rw [if_neg d, if_neg d]
      rw [q1', Option.bind_some, if_pos (show bz 0 = true by decide), ek]
      exact ⟨c, M', rfl, q2, q3⟩
  unfold F_X1_readChangedTask
  rw [h.2.2.1]
  by_cases c1 : kdP S f a = 1
  case neg =>
    rw [if_neg (show ¬ nI (kdP S f a) = 1 from mt (nI_eq (b := 1) (by omega) (by omega)).mp c1)]
    exact k35 (fun q => absurd q c1)
  rw [if_pos (show nI (kdP S f a) = 1 by rw [c1]; rfl), h.2.2.2.2.2]
  have hnode : F_X0_hasNode 0 (nI (vlP S f a)) 0 M = some (if vlP S f a < β 0 0 5 ∧ 0 < β 4 (vlP S f a) 6 then 1 else 0) := by
    unfold F_X0_hasNode
    rw [c_hasTask e5 hT5]
    by_cases z : vlP S f a < β 0 0 5
    · have e46 := hC.2.2.1 (vlP S f a) (by omega)
      have h6 := (hg.2.2.2.2.1 _ z).2.2.2.2.2.2.2.2
      rw [if_pos (rng_in z (by omega)), Option.bind_some, if_neg (show ¬ (1 : Int32) = 0 by decide), if_neg (show ¬ (0 : Int32) < 0 by decide), if_pos (inb_nI (by omega) (by omega)), clampI (by omega), e46]
      by_cases y : 0 < β 4 (vlP S f a) 6
      · rw [if_neg (nI_nle y (by omega)), if_pos ⟨z, y⟩]
      · rw [if_pos (show nI (β 4 (vlP S f a) 6) ≤ 0 by rw [show β 4 (vlP S f a) 6 = 0 by omega]; decide), if_neg (fun q => y q.2)]
    · rw [if_neg (fun q => nI_nlt (a := vlP S f a) (b := β 0 0 5) (by omega) (by omega) q.2), Option.bind_some, if_pos rfl, if_neg (fun q => z q.1)]
  rw [hnode, Option.bind_some]
  by_cases c2 : vlP S f a < β 0 0 5 ∧ 0 < β 4 (vlP S f a) 6
  · rw [if_pos c2, if_neg (show ¬ (1 : Int32) = 0 by decide)]
    exact k35 (fun _ => c2)
  · right
    have ek : kE S f β a = 2 := by
      unfold kE
      rw [if_pos c1, if_neg c2]
    obtain ⟨M', q1, q2, q3⟩ := c_flaw (e := 2) h
    have q1' : (F_X1_fail 2 M).bind (fun q => if bz q.1 then some (q.1, q.2) else none) = some (0, M') := q1
    rw [if_neg c2, if_pos rfl, q1', ek]
    exact ⟨by omega, M', rfl, q2, q3⟩
theorem r_taskRead {M : Mw} {β : Bw} {S a : Nat} {f : Nat → Nat} (h : RS M S f a) (hT5 : β 0 0 5 ≤ 5) (h4 : M.1 56 0 0 4 = nI (β 0 0 5)) (h6 : ∀ t, t < 5 → M.1 56 0 0 (11 + 7 * t + 6) = nI (β 4 t 6)) (hn6 : ∀ t, t < β 0 0 5 → β 4 t 6 ≤ 6) :
    (kE S f β a = 0 ∧ ∃ M', F_X10_taskRead M = some (nI (vlP S f a), M') ∧ RS M' S f (enP S f a) ∧ O5 M M') ∨
    (kE S f β a ≠ 0 ∧ ∃ M', F_X10_taskRead M = some (0, M') ∧ RF M' (kE S f β a) (frP S f a) ∧ O5 M M') := by
  have hv := vlP_le h.2.1.2.1 (S := S) a
  obtain ⟨k5, k4⟩ := kdP_5 (fun j _ => h.2.1.2.1 j) a (S := S)
  unfold F_X10_taskRead
  rw [r_good1 h.2.2.2.1, Option.bind_some, if_neg (show ¬ (1 : Int32) = 0 by decide), h.2.2.1.2.2.1]
  by_cases c1 : kdP S f a = 1
  case neg =>
    right
    have hn2 : ¬ nI (tkR (kdP S f a)) = 2 := by
      unfold tkR
      by_cases z : kdP S f a = 4
      · rw [if_pos z]; decide
      · rw [if_neg z]
        exact mt (nI_eq (b := 2) (by omega) (by omega)).mp (by omega)
    have ek : kE S f β a = 1 := by
      unfold kE
      rw [if_neg c1]
    obtain ⟨M', q1, q2, q3⟩ := r_errs (e := 1) h (by omega) (by omega)
    have q1' : F_X10_errs 1 M = some M' := q1
    rw [if_neg hn2, q1', Option.bind_some]
    unfold B_X10_taskRead_20
    rw [r_good0 q2.ne, Option.bind_some, if_pos rfl, r_takesBad q2, Option.bind_some, ek]
    exact ⟨by omega, M', rfl, q2, q3⟩
  rw [if_pos (show nI (tkR (kdP S f a)) = 2 by rw [c1]; rfl)]
  unfold B_X10_taskRead_20
  rw [r_good1 h.2.2.2.1, Option.bind_some, if_neg (show ¬ (1 : Int32) = 0 by decide), h4, h.2.2.1.2.2.2 c1]
  have k61 : ¬ (vlP S f a < β 0 0 5 ∧ 0 < β 4 (vlP S f a) 6) → (kE S f β a = 0 ∧ ∃ M', B_X10_taskRead_61 M = some (nI (vlP S f a), M') ∧ RS M' S f (enP S f a) ∧ O5 M M') ∨ (kE S f β a ≠ 0 ∧ ∃ M', B_X10_taskRead_61 M = some (0, M') ∧ RF M' (kE S f β a) (frP S f a) ∧ O5 M M') := by
    intro hne
    right
    have ek : kE S f β a = 2 := by
      unfold kE
      rw [if_pos c1, if_neg hne]
    obtain ⟨M', q1, q2, q3⟩ := r_errs (e := 2) h (by omega) (by omega)
    have q1' : F_X10_errs 2 M = some M' := q1
    unfold B_X10_taskRead_61
    rw [q1', Option.bind_some, r_takesBad q2, Option.bind_some, ek]
    exact ⟨by omega, M', rfl, q2, q3⟩
  by_cases c2 : vlP S f a < β 0 0 5
  case neg =>
    rw [if_pos (nI_le (show β 0 0 5 ≤ min 99999 (vlP S f a) by omega) (by omega))]
    exact k61 (fun q => c2 q.1)
  have em : min 99999 (vlP S f a) = vlP S f a := Nat.min_eq_right (by omega)
  have e2 : ((11 : Int32) + (7 * nI (vlP S f a))) + 6 = nI (11 + 7 * vlP S f a + 6) := by
    rw [show (11 : Int32) = nI 11 from rfl, show (7 : Int32) = nI 7 from rfl, show (6 : Int32) = nI 6 from rfl, pk_mul, nI_add, nI_add]
  have h6' := hn6 _ c2
  rw [em, if_neg (nI_ge c2 (by omega)), e2, if_pos (inb_nI (by omega) (by omega)), clampI (by omega), h6 _ (by omega)]
  by_cases c3 : 0 < β 4 (vlP S f a) 6
  · left
    have ek : kE S f β a = 0 := by
      unfold kE
      rw [if_pos c1, if_pos ⟨c2, c3⟩]
    rw [if_neg (nI_ne0 c3 (by omega))]
    rcases r_takes h (lo := 0) (n := 6) (hi := 5) (by omega) (by omega) (by decide) with ⟨c, M', q1, q2, q3⟩ | ⟨c, -⟩
    · have q1' : F_X10_takes 0 5 M = some (nI (vlP S f a), M') := q1
      rw [q1', Option.bind_some]
      exact ⟨ek, M', rfl, q2, q3⟩
    · exfalso
      apply c
      unfold nE
      rw [if_pos c1, if_pos ⟨Nat.zero_le _, by omega⟩]
  · rw [if_pos (show nI (β 4 (vlP S f a) 6) = 0 by rw [show β 4 (vlP S f a) 6 = 0 by omega]; rfl)]
    exact k61 (fun q => c3 q.2)
