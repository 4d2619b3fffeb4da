/-! THE STEPS OF THE READERS: a word, a number, a pair, an end; what comes out (0: good), and where -/
def nE (S : Nat) (f : Nat → Nat) (lo n a : Nat) : Nat := if kdP S f a = 1 then (if lo ≤ vlP S f a ∧ vlP S f a < n then 0 else 2) else 1
def pR (S : Nat) (f : Nat → Nat) (t lo n a : Nat) : Nat × Nat := if mtP S f a t = true then (nE S f lo n (enP S f a), frP S f (enP S f a)) else (1, frP S f a)
def CF (M : Mw) (e pl : Nat) : Prop := M.1 13 0 0 2 = nI e ∧ M.1 13 0 0 3 = nI pl ∧ ∃ S : Nat, S ≤ 1000 ∧ M.1 15 0 0 1 = nI S
def CS (M : Mw) (S : Nat) (f : Nat → Nat) (a : Nat) : Prop := a ≤ S ∧ CTp M S f ∧ CTk M S f a
abbrev FC : Nat → Nat → Prop := fun κ _ => κ = 13 ∨ κ = 14 ∨ κ = 15
abbrev FG : Nat → Nat → Prop := fun κ _ => κ = 14 ∨ κ = 15
theorem CS.en {M : Mw} {S a : Nat} {f : Nat → Nat} (h : CS M S f a) : enP S f a ≤ S ∧ frP S f a ≤ enP S f a := by
  have := enP_le (fun j _ => h.2.1.2.1 j) h.1
  exact ⟨this.2.1, this.1⟩
theorem c_flaw {M : Mw} {S a e : Nat} {f : Nat → Nat} (h : CS M S f a) : ∃ M', (F_X1_fail (nI e) M).bind (fun q => if bz q.1 then some (q.1, q.2) else none) = some (0, M') ∧ CF M' e (frP S f a) ∧ Fr FC M M' := by
  unfold F_X1_fail
  have e3 : (uIw M 13 0 0 2 (nI e)).1 15 0 0 3 = nI (frP S f a) := by rw [uI_k (by decide)]; exact h.2.2.2.1
  rw [bd_eq, bd_eq, e3, Option.bind_some, if_pos (show bz 0 = true by decide)]
  refine ⟨_, rfl, ⟨?_, ?_, S, h.2.1.1, ?_⟩, (Fr.uI (S := FC) (Or.inl rfl)).trans (Fr.uI (S := FC) (Or.inl rfl))⟩
  · rw [uI1, if_neg (fun q => absurd q.2.2.2 (by decide)), uI1, if_pos ⟨rfl, rfl, rfl, rfl⟩]
  · rw [uI1, if_pos ⟨rfl, rfl, rfl, rfl⟩]
  · rw [uI_k (by decide), uI_k (by decide)]
    exact h.2.1.2.2.2
theorem CS.adv {M : Mw} {S a : Nat} {f : Nat → Nat} (h : CS M S f a) : ∃ M', F_X6_advance M = some M' ∧ CS M' S f (enP S f a) ∧ Fr FT15 M M' := by
  obtain ⟨M', q1, q2, q3, q4⟩ := c_advance h.2.1 h.en.1 h.2.2.2.2.1
  exact ⟨M', q1, ⟨h.en.1, q2, q3⟩, q4⟩
theorem CS.fr {M M' : Mw} {S a : Nat} {f : Nat → Nat} (h : CS M S f a) (e15 : M'.1 15 = M.1 15) (e16 : M'.1 16 = M.1 16) : CS M' S f a := ⟨h.1, h.2.1.fr e16 (by rw [e15]), by unfold CTk; rw [e15]; exact h.2.2⟩
theorem c_word {M : Mw} {S a t : Nat} {f : Nat → Nat} (h : CS M S f a) (ht : t < 24) :
    (mtP S f a t = true ∧ ∃ M', F_X1_readWord t M = some (1, M') ∧ CS M' S f (enP S f a) ∧ Fr FT15 M M') ∨
    (¬ mtP S f a t = true ∧ ∃ M', F_X1_readWord t M = some (0, M') ∧ CF M' 1 (frP S f a) ∧ Fr FC M M') := by
  unfold F_X1_readWord
  rw [c_isWord h.2.1 h.1 h.2.2 ht, Option.bind_some]
  by_cases c : mtP S f a t = true
  · left
    obtain ⟨M', q1, q2, q3⟩ := h.adv
    rw [if_pos c, if_neg (show ¬ (1 : Int32) = 0 by decide), q1, Option.bind_some]
    exact ⟨c, M', rfl, q2, q3⟩
  · right
    obtain ⟨M', q1, q2, q3⟩ := c_flaw (e := 1) h
    rw [if_neg c, if_pos rfl]
    exact ⟨c, M', q1, q2, q3⟩
theorem hi_le {n v : Nat} (hn : n < 2 ^ 31) (hv : v < 2 ^ 31) : nI v ≤ nI n + (-1) ↔ v < n := by
  have := m1_lt hn hv
  constructor
  · intro q
    apply Nat.lt_of_not_le
    intro z
    exact absurd (this.mpr z) (Int32.not_lt.mpr q)
  · intro q
    apply Int32.not_lt.mp
    intro z
    have := this.mp z
    omega
theorem vlP_le {S : Nat} {f : Nat → Nat} (hf : ∀ j, f j < 256) (a : Nat) : vlP S f a ≤ 1100000 := by
  unfold vlP
  by_cases c : kdP S f a = 1
  · rw [if_pos c]; exact vtN_le (fun d => hf _) _
  · rw [if_neg c]; exact Nat.zero_le _
theorem c_num {M : Mw} {S a lo n slot : Nat} {f : Nat → Nat} {hi : Int32} (h : CS M S f a) (hlo : lo ≤ 1000) (hn : n ≤ 1000) (hs : slot < 6) (hh : hi = nI n + (-1)) :
    (nE S f lo n a = 0 ∧ ∃ M', F_X1_readNumber (nI lo) hi (nI slot) M = some (1, M') ∧ CS M' S f (enP S f a) ∧ M'.1 14 0 0 slot = nI (vlP S f a) ∧ (∀ j, j ≠ slot → M'.1 14 0 0 j = M.1 14 0 0 j) ∧ Fr FG M M') ∨
    (nE S f lo n a ≠ 0 ∧ ∃ M', F_X1_readNumber (nI lo) hi (nI slot) M = some (0, M') ∧ CF M' (nE S f lo n a) (frP S f a) ∧ Fr FC M M') := by
  have hv := vlP_le h.2.1.2.1 (S := S) a
  obtain ⟨k5, k4⟩ := kdP_5 (fun j _ => h.2.1.2.1 j) a (S := S)
  have e2 := h.2.2.1
  have e5 := h.2.2.2.2.2
  unfold F_X1_readNumber
  rw [e2, e5]
  by_cases c1 : kdP S f a = 1
  case neg =>
    right
    have eE : nE S f lo n a = 1 := by
      unfold nE
      rw [if_neg c1]
    obtain ⟨M', q1, q2, q3⟩ := c_flaw (e := 1) h
    rw [if_neg (show ¬ nI (kdP S f a) = 1 from mt (nI_eq (b := 1) (by omega) (by omega)).mp c1), eE]
    exact ⟨by omega, M', q1, q2, q3⟩
  rw [if_pos (show nI (kdP S f a) = 1 by rw [c1]; rfl)]
  by_cases c2 : vlP S f a < lo
  · right
    have eE : nE S f lo n a = 2 := by
      unfold nE
      rw [if_pos c1, if_neg (by omega)]
    obtain ⟨M', q1, q2, q3⟩ := c_flaw (e := 2) h
    rw [if_pos (nI_lt c2 (by omega)), eE]
    exact ⟨by omega, M', q1, q2, q3⟩
  rw [if_neg (nI_nlt (by omega) (by omega)), hh]
  by_cases c3 : vlP S f a < n
  · left
    have eE : nE S f lo n a = 0 := by
      unfold nE
      rw [if_pos c1, if_pos ⟨by omega, c3⟩]
    have h6 : CS (uIw M 14 0 0 slot (nI (vlP S f a))) S f a := h.fr (uI_k (by decide)) (uI_k (by decide))
    obtain ⟨M', q1, q2, q3⟩ := h6.adv
    rw [if_pos ((hi_le (by omega) (by omega)).mpr c3), if_pos (inb_nI hs (by omega)), clampI (by omega), bd_eq, q1, Option.bind_some]
    have e14 : M'.1 14 = (uIw M 14 0 0 slot (nI (vlP S f a))).1 14 := q3.k1 (fun b => by omega)
    refine ⟨eE, M', rfl, q2, ?_, fun j hj => ?_, (Fr.uI (S := FG) (Or.inl rfl)).trans (q3.mono (fun κ b q => Or.inr q))⟩
    · rw [e14, uI1, if_pos ⟨rfl, rfl, rfl, rfl⟩]
    · rw [e14, uI1, if_neg (fun q => hj q.2.2.2)]
  · right
    have eE : nE S f lo n a = 2 := by
      unfold nE
      rw [if_pos c1, if_neg (by omega)]
    obtain ⟨M', q1, q2, q3⟩ := c_flaw (e := 2) h
    rw [if_neg (mt (hi_le (by omega) (by omega)).mp c3), eE]
    exact ⟨by omega, M', q1, q2, q3⟩
theorem c_pair {M : Mw} {S a t lo n slot : Nat} {f : Nat → Nat} {hi : Int32} (h : CS M S f a) (ht : t < 24) (hlo : lo ≤ 1000) (hn : n ≤ 1000) (hs : slot < 6) (hh : hi = nI n + (-1)) :
    ((pR S f t lo n a).1 = 0 ∧ ∃ M', F_X1_readPair t (nI lo) hi (nI slot) M = some (1, M') ∧ CS M' S f (enP S f (enP S f a)) ∧ M'.1 14 0 0 slot = nI (vlP S f (enP S f a)) ∧ (∀ j, j ≠ slot → M'.1 14 0 0 j = M.1 14 0 0 j) ∧ Fr FG M M') ∨
    ((pR S f t lo n a).1 ≠ 0 ∧ ∃ M', F_X1_readPair t (nI lo) hi (nI slot) M = some (0, M') ∧ CF M' (pR S f t lo n a).1 (pR S f t lo n a).2 ∧ Fr FC M M') := by
  unfold F_X1_readPair
  rcases c_word h ht with ⟨c, M1, q1, q2, q3⟩ | ⟨c, M1, q1, q2, q3⟩
  · have eR : pR S f t lo n a = (nE S f lo n (enP S f a), frP S f (enP S f a)) := if_pos c
    rw [eR, q1, Option.bind_some, if_neg (show ¬ (1 : Int32) = 0 by decide)]
    rcases c_num q2 hlo hn hs hh with ⟨d, M2, r1, r2, r3, r4, r5⟩ | ⟨d, M2, r1, r2, r3⟩
    · left
      show _ ∧ ∃ M', ((F_X1_readNumber (nI lo) hi (nI slot) M1).bind _) = _ ∧ _
      rw [r1, Option.bind_some, if_neg (show ¬ (1 : Int32) = 0 by decide)]
      refine ⟨d, M2, rfl, r2, r3, fun j hj => ?_, (q3.mono (fun κ b q => Or.inr q)).trans r5⟩
      rw [r4 j hj, q3.k1 (fun b => by omega)]
    · right
      show _ ∧ ∃ M', ((F_X1_readNumber (nI lo) hi (nI slot) M1).bind _) = _ ∧ _
      rw [r1, Option.bind_some, if_pos rfl]
      exact ⟨d, M2, rfl, r2, (q3.mono (fun κ b q => Or.inr (Or.inr q))).trans r3⟩
  · right
    have eR : pR S f t lo n a = (1, frP S f a) := if_neg c
    rw [eR, q1, Option.bind_some, if_pos rfl]
    exact ⟨show (1 : Nat) ≠ 0 by decide, M1, rfl, q2, q3⟩
theorem c_end {M : Mw} {S a : Nat} {f : Nat → Nat} (h : CS M S f a) :
    (kdP S f a = 2 ∧ ∃ M', F_X1_readEnd M = some (1, M') ∧ CS M' S f (enP S f a) ∧ Fr FT15 M M') ∨
    (kdP S f a ≠ 2 ∧ ∃ M', F_X1_readEnd M = some (0, M') ∧ CF M' 1 (frP S f a) ∧ Fr FC M M') := by
  obtain ⟨k5, k4⟩ := kdP_5 (fun j _ => h.2.1.2.1 j) a (S := S)
  unfold F_X1_readEnd
  rw [h.2.2.1]
  by_cases c : kdP S f a = 2
  · left
    obtain ⟨M', q1, q2, q3⟩ := h.adv
    rw [if_pos (show nI (kdP S f a) = 2 by rw [c]; rfl), q1, Option.bind_some]
    exact ⟨c, M', rfl, q2, q3⟩
  · right
    obtain ⟨M', q1, q2, q3⟩ := c_flaw (e := 1) h
    rw [if_neg (show ¬ nI (kdP S f a) = 2 from mt (nI_eq (b := 2) (by omega) (by omega)).mp c)]
    exact ⟨c, M', q1, q2, q3⟩
/-! the reference's -/
def RF (M : Mw) (e pl : Nat) : Prop := e < 10 ∧ 0 < e ∧ M.1 50 0 0 12 = nI e ∧ M.1 50 0 0 13 = nI pl
def RS (M : Mw) (S : Nat) (f : Nat → Nat) (a : Nat) : Prop := a ≤ S ∧ RTp M S f ∧ RTk M S f a ∧ M.1 50 0 0 12 = 0 ∧ M.1 50 0 0 13 = -1
def O5 (M M' : Mw) : Prop := Fr (fun κ _ => κ = 50) M M' ∧ ∀ j, j < 8 ∨ 13 < j → M'.1 50 0 0 j = M.1 50 0 0 j
theorem O5.rfl {M : Mw} : O5 M M := ⟨Fr.rfl, fun _ _ => Eq.refl _⟩
theorem O5.trans {M M1 M2 : Mw} (h : O5 M M1) (h2 : O5 M1 M2) : O5 M M2 := ⟨h.1.trans h2.1, fun j a => (h2.2 j a).trans (h.2 j a)⟩
theorem O50.o5 {M M' : Mw} (h : O50 M M') : O5 M M' := ⟨h.1, fun j q => h.2 j (by omega) (by omega) (by omega) (by omega)⟩
theorem RF.ne {M : Mw} {e pl : Nat} (h : RF M e pl) : M.1 50 0 0 12 ≠ 0 := by
  rw [h.2.2.1]
  exact nI_ne0 h.2.1 (by have := h.1; omega)
theorem RF.fr {M M' : Mw} {e pl : Nat} (h : RF M e pl) (e50 : M'.1 50 = M.1 50) : RF M' e pl := by
  unfold RF
  rw [e50]
  exact h
theorem RS.fr {M M' : Mw} {S a : Nat} {f : Nat → Nat} (h : RS M S f a) (e50 : M'.1 50 = M.1 50) (e54 : M'.1 54 = M.1 54) : RS M' S f a := by
  obtain ⟨h1, ⟨t1, t2, t3, t4⟩, h3, h4, h5⟩ := h
  refine ⟨h1, ⟨t1, t2, by rw [e54]; exact t3, by rw [e50]; exact t4⟩, ?_, by rw [e50]; exact h4, by rw [e50]; exact h5⟩
  unfold RTk
  rw [e50]
  exact h3
theorem r_errs {M : Mw} {S a e : Nat} {f : Nat → Nat} (h : RS M S f a) (h0 : 0 < e) (he : e < 10) : ∃ M', F_X10_errs (nI e) M = some M' ∧ RF M' e (frP S f a) ∧ O5 M M' := by
  unfold F_X10_errs
  have e9 : (uIw M 50 0 0 12 (nI e)).1 50 0 0 9 = nI (frP S f a) := by rw [uI1, if_neg (fun q => absurd q.2.2.2 (by decide))]; exact h.2.2.1.2.1
  rw [r_good1 h.2.2.2.1, Option.bind_some, if_neg (show ¬ (1 : Int32) = 0 by decide), bd_eq, bd_eq, e9]
  refine ⟨_, rfl, ⟨he, h0, ?_, ?_⟩, (Fr.uI (S := fun κ _ => κ = 50) rfl).trans (Fr.uI (S := fun κ _ => κ = 50) rfl), fun j hj => ?_⟩
  · rw [uI1, if_neg (fun q => absurd q.2.2.2 (by decide)), uI1, if_pos ⟨rfl, rfl, rfl, rfl⟩]
  · rw [uI1, if_pos ⟨rfl, rfl, rfl, rfl⟩]
  · rw [uI1, if_neg (fun q => by have := q.2.2.2; omega), uI1, if_neg (fun q => by have := q.2.2.2; omega)]
theorem r_errsBad {M : Mw} {e pl k : Nat} (h : RF M e pl) : F_X10_errs (nI k) M = some M := by
  unfold F_X10_errs
  rw [r_good0 h.ne, Option.bind_some, if_pos rfl]
theorem RS.adv {M : Mw} {S a : Nat} {f : Nat → Nat} (h : RS M S f a) : ∃ M', F_X10_advance M = some M' ∧ RS M' S f (enP S f a) ∧ O5 M M' := by
  have hen := enP_le (fun j _ => h.2.1.2.1 j) h.1
  obtain ⟨M', q1, q2, q3, q4⟩ := r_advance h.2.1 hen.2.1 h.2.2.1.1
  exact ⟨M', q1, ⟨hen.2.1, q2, q3, by rw [q4.2 12 (by decide) (by decide) (by decide) (by decide)]; exact h.2.2.2.1, by rw [q4.2 13 (by decide) (by decide) (by decide) (by decide)]; exact h.2.2.2.2⟩, q4.o5⟩
theorem r_expectsBad {M : Mw} {e pl t : Nat} (ht : t < 24) (h : RF M e pl) : F_X10_expects t M = some M := by
  unfold F_X10_expects
  have e1 : F_X10_errs 1 M = some M := r_errsBad (k := 1) h
  rw [r_isBad ht h.ne, Option.bind_some, if_pos rfl, e1, Option.bind_some]
theorem r_expects {M : Mw} {S a t : Nat} {f : Nat → Nat} (h : RS M S f a) (ht : t < 24) :
    (mtP S f a t = true ∧ ∃ M', F_X10_expects t M = some M' ∧ RS M' S f (enP S f a) ∧ O5 M M') ∨
    (¬ mtP S f a t = true ∧ ∃ M', F_X10_expects t M = some M' ∧ RF M' 1 (frP S f a) ∧ O5 M M') := by
  unfold F_X10_expects
  rw [r_is h.2.1 h.1 h.2.2.1 ht h.2.2.2.1, Option.bind_some]
  by_cases c : mtP S f a t = true
  · left
    obtain ⟨M', q1, q2, q3⟩ := h.adv
    rw [if_pos c, if_neg (show ¬ (1 : Int32) = 0 by decide), q1, Option.bind_some]
    exact ⟨c, M', rfl, q2, q3⟩
  · right
    obtain ⟨M', q1, q2, q3⟩ := r_errs (e := 1) h (by omega) (by omega)
    have q1' : F_X10_errs 1 M = some M' := q1
    rw [if_neg c, if_pos rfl, q1', Option.bind_some]
    exact ⟨c, M', rfl, q2, q3⟩
theorem r_takesBad {M : Mw} {e pl : Nat} {x y : Int32} (h : RF M e pl) : F_X10_takes x y M = some (0, M) := by
  unfold F_X10_takes B_X10_takes_20 B_X10_takes_47
  simp only [r_good0 h.ne, Option.bind_some, if_true]
theorem r_takes {M : Mw} {S a lo n : Nat} {f : Nat → Nat} {hi : Int32} (h : RS M S f a) (hlo : lo ≤ 1000) (hn : n ≤ 1000) (hh : hi = nI n + (-1)) :
    (nE S f lo n a = 0 ∧ ∃ M', F_X10_takes (nI lo) hi M = some (nI (vlP S f a), M') ∧ RS M' S f (enP S f a) ∧ O5 M M') ∨
    (nE S f lo n a ≠ 0 ∧ ∃ M', F_X10_takes (nI lo) hi M = some (0, M') ∧ RF M' (nE S f lo n a) (frP S f a) ∧ O5 M M') := by
  have hv := vlP_le h.2.1.2.1 (S := S) a
  obtain ⟨k5, k4⟩ := kdP_5 (fun j _ => h.2.1.2.1 j) a (S := S)
  have bad20 : ∀ (M1 : Mw) (e pl : Nat), RF M1 e pl → B_X10_takes_20 (nI lo) hi M1 = some (0, M1) ∧ B_X10_takes_47 M1 = some (0, M1) := by
    intro M1 e pl hb
    unfold B_X10_takes_20 B_X10_takes_47
    simp only [r_good0 hb.ne, Option.bind_some, if_true, and_self]
  unfold F_X10_takes
  rw [r_good1 h.2.2.2.1, Option.bind_some, if_neg (show ¬ (1 : Int32) = 0 by decide), h.2.2.1.2.2.1]
  by_cases c1 : kdP S f a = 1
  case neg =>
    right
    have eE : nE S f lo n a = 1 := by
      unfold nE
      rw [if_neg c1]
    have hn2 : ¬ nI (tkR (kdP S f a)) = 2 := by
      unfold tkR
      by_cases z : kdP S f a = 4
      · rw [if_pos z]; decide
      · rw [if_neg z]
        exact mt (nI_eq (b := 2) (by omega) (by omega)).mp (by omega)
    obtain ⟨M', q1, q2, q3⟩ := r_errs (e := 1) h (by omega) (by omega)
    have q1' : F_X10_errs 1 M = some M' := q1
    rw [if_neg hn2, eE, q1', Option.bind_some, (bad20 M' _ _ q2).1]
    exact ⟨by omega, M', rfl, q2, q3⟩
  rw [if_pos (show nI (tkR (kdP S f a)) = 2 by rw [c1]; rfl)]
  unfold B_X10_takes_20
  have e11 := h.2.2.1.2.2.2 c1
  rw [r_good1 h.2.2.2.1, Option.bind_some, if_neg (show ¬ (1 : Int32) = 0 by decide), e11, r_inI, Option.bind_some, hh]
  by_cases c2 : lo ≤ vlP S f a ∧ vlP S f a < n
  · left
    have eE : nE S f lo n a = 0 := by
      unfold nE
      rw [if_pos c1, if_pos c2]
    have em : min 99999 (vlP S f a) = vlP S f a := Nat.min_eq_right (by omega)
    obtain ⟨M', q1, q2, q3⟩ := h.adv
    rw [em, show (if nI lo ≤ nI (vlP S f a) ∧ nI (vlP S f a) ≤ nI n + (-1) then (1 : Int32) else 0) = 1 from if_pos ⟨nI_le c2.1 (by omega), (hi_le (by omega) (by omega)).mpr c2.2⟩, if_neg (show ¬ (1 : Int32) = 0 by decide)]
    unfold B_X10_takes_47
    rw [r_good1 h.2.2.2.1, Option.bind_some, if_neg (show ¬ (1 : Int32) = 0 by decide), e11, em, bd_eq, q1, Option.bind_some]
    exact ⟨eE, M', rfl, q2, q3⟩
  · right
    have eE : nE S f lo n a = 2 := by
      unfold nE
      rw [if_pos c1, if_neg c2]
    have hno : ¬ (nI lo ≤ nI (min 99999 (vlP S f a)) ∧ nI (min 99999 (vlP S f a)) ≤ nI n + (-1)) := by
      rintro ⟨x1, x2⟩
      have y2 := (hi_le (by omega) (by omega)).mp x2
      refine c2 ⟨?_, by omega⟩
      apply Nat.le_of_not_lt
      intro z
      exact absurd x1 (nI_ge (by omega) (by omega))
    obtain ⟨M', q1, q2, q3⟩ := r_errs (e := 2) h (by omega) (by omega)
    have q1' : F_X10_errs 2 M = some M' := q1
    rw [if_neg hno, if_pos rfl, q1', Option.bind_some, (bad20 M' _ _ q2).2, eE]
    exact ⟨by omega, M', rfl, q2, q3⟩
theorem r_toldBad {M : Mw} {e pl t : Nat} {x y : Int32} (ht : t < 24) (h : RF M e pl) : F_X10_toldBy t x y M = some (0, M) := by
  unfold F_X10_toldBy
  rw [r_expectsBad ht h, Option.bind_some, r_takesBad h, Option.bind_some]
theorem r_toldBy {M : Mw} {S a t lo n : Nat} {f : Nat → Nat} {hi : Int32} (h : RS M S f a) (ht : t < 24) (hlo : lo ≤ 1000) (hn : n ≤ 1000) (hh : hi = nI n + (-1)) :
    ((pR S f t lo n a).1 = 0 ∧ ∃ M', F_X10_toldBy t (nI lo) hi M = some (nI (vlP S f (enP S f a)), M') ∧ RS M' S f (enP S f (enP S f a)) ∧ O5 M M') ∨
    ((pR S f t lo n a).1 ≠ 0 ∧ ∃ M', F_X10_toldBy t (nI lo) hi M = some (0, M') ∧ RF M' (pR S f t lo n a).1 (pR S f t lo n a).2 ∧ O5 M M') := by
  unfold F_X10_toldBy
  rcases r_expects h ht with ⟨c, M1, q1, q2, q3⟩ | ⟨c, M1, q1, q2, q3⟩
  · have eR : pR S f t lo n a = (nE S f lo n (enP S f a), frP S f (enP S f a)) := if_pos c
    rw [eR, q1, Option.bind_some]
    rcases r_takes q2 hlo hn hh with ⟨d, M2, r1, r2, r3⟩ | ⟨d, M2, r1, r2, r3⟩
    · left
      rw [r1, Option.bind_some]
      exact ⟨d, M2, rfl, r2, q3.trans r3⟩
    · right
      rw [r1, Option.bind_some]
      exact ⟨d, M2, rfl, r2, q3.trans r3⟩
  · right
    have eR : pR S f t lo n a = (1, frP S f a) := if_neg c
    rw [eR, q1, Option.bind_some, r_takesBad q2, Option.bind_some]
    exact ⟨show (1 : Nat) ≠ 0 by decide, M1, rfl, q2, q3⟩
