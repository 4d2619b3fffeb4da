/-! THE LINE OF A NODE -/
theorem or_bit6 : ∀ x, x < 64 → ∀ k, k < 6 → (nI x ||| ((1 : Int32) <<< (nI k &&& 31))) = nI (x ||| 2 ^ k) ∧ x ||| 2 ^ k < 64 := by decide +kernel
theorem and_bit6 : ∀ x, x < 64 → ∀ k, k < 6 → ((nI x &&& ((1 : Int32) <<< (nI k &&& 31))) = 0 ↔ ¬ x.testBit k = true) := by decide +kernel
theorem sh_bit6 : ∀ x, x < 64 → ∀ k, k < 6 → (((nI x >>> (nI k &&& 31)) &&& 1) = 1 ↔ x.testBit k = true) := by decide +kernel
theorem or_one6 : ∀ x, x < 64 → (nI x ||| ((1 : Int32) <<< ((0 : Int32) &&& 31))) = nI (x ||| 2 ^ 0) := by decide +kernel
theorem bits_lt {x n : Nat} (hn : n ≤ 6) (h : ∀ k, x.testBit k = true → k < n) : x < 64 := by
  have : x < 2 ^ 6 := Nat.lt_pow_two_of_testBit x (fun i hi => by
    cases e : x.testBit i with
    | false => rfl
    | true => have := h i e; omega)
  exact this
def tE (S : Nat) (f : Nat → Nat) (set n a : Nat) : Nat := if kdP S f a = 1 ∧ vlP S f a < n ∧ set.testBit (vlP S f a) = true then 2 else nE S f 0 n a
theorem r_takesNew {M : Mw} {S a set n : Nat} {f : Nat → Nat} (h : RS M S f a) (hn : n ≤ 6) (hs : set < 64) :
    (tE S f set n a = 0 ∧ ∃ M', F_X10_takesNew (nI set) (nI n - 1) M = some (nI (vlP S f a), M') ∧ RS M' S f (enP S f a) ∧ O5 M M') ∨
    (tE S f set n a ≠ 0 ∧ ∃ M', F_X10_takesNew (nI set) (nI n - 1) M = some (0, M') ∧ RF M' (tE S f set n a) (frP S f a) ∧ O5 M M') := by
  have hv := vlP_le h.2.1.2.1 (S := S) a
  obtain ⟨k5, k4⟩ := kdP_5 (fun j _ => h.2.1.2.1 j) a (S := S)
  have hplain : ¬ (kdP S f a = 1 ∧ vlP S f a < n ∧ set.testBit (vlP S f a) = true) → ∀ o, o = (F_X10_takes 0 (nI n - 1) M).bind (fun q4 => some (q4.1, q4.2)) →
      (tE S f set n a = 0 ∧ ∃ M', o = some (nI (vlP S f a), M') ∧ RS M' S f (enP S f a) ∧ O5 M M') ∨ (tE S f set n a ≠ 0 ∧ ∃ M', o = some (0, M') ∧ RF M' (tE S f set n a) (frP S f a) ∧ O5 M M') := by
    intro hne o eo
    have et : tE S f set n a = nE S f 0 n a := if_neg hne
    rw [et, eo]
    rcases r_takes h (lo := 0) (n := n) (by omega) (by omega) (nI_m n) with ⟨c, M', q1, q2, q3⟩ | ⟨c, M', q1, q2, q3⟩
    · have q1' : F_X10_takes 0 (nI n - 1) M = some (nI (vlP S f a), M') := q1
      rw [q1', Option.bind_some]
      exact Or.inl ⟨c, M', rfl, q2, q3⟩
    · have q1' : F_X10_takes 0 (nI n - 1) M = some (0, M') := q1
      rw [q1', Option.bind_some]
      exact Or.inr ⟨c, M', rfl, q2, q3⟩
  unfold F_X10_takesNew
  rw [r_good1 h.2.2.2.1, Option.bind_some, if_neg (show ¬ (1 : Int32) = 0 by decide), h.2.2.1.2.2.1]
  by_cases c1 : kdP S f a = 1
  case neg =>
    have hn2 : ¬ nI (tkR (kdP S f a)) = 2 := by
      unfold tkR
      by_cases z : kdP S f a = 4
      · rw [if_pos z]; decide
      · rw [if_neg z]
        exact mt (nI_eq (b := 2) (by omega) (by omega)).mp (by omega)
    rw [if_neg hn2]
    exact hplain (fun q => c1 q.1) _ rfl
  rw [if_pos (show nI (tkR (kdP S f a)) = 2 by rw [c1]; rfl), h.2.2.1.2.2.2 c1]
  by_cases c2 : vlP S f a < n
  case neg =>
    have hlt : nI n - 1 < nI (min 99999 (vlP S f a)) := by
      rw [nI_m]
      exact (m1_lt (by omega) (by omega)).mpr (by omega)
    rw [if_pos hlt]
    exact hplain (fun q => c2 q.2.1) _ rfl
  have em : min 99999 (vlP S f a) = vlP S f a := Nat.min_eq_right (by omega)
  have hnl : ¬ nI n - 1 < nI (vlP S f a) := by
    rw [nI_m]
    exact fun q => by
      have := (m1_lt (by omega) (by omega)).mp q
      omega
  rw [em, if_neg hnl]
  by_cases c3 : set.testBit (vlP S f a) = true
  · right
    have et : tE S f set n a = 2 := if_pos ⟨c1, c2, c3⟩
    obtain ⟨M', q1, q2, q3⟩ := r_errs (e := 2) h (by omega) (by omega)
    have q1' : F_X10_errs 2 M = some M' := q1
    rw [if_pos ((sh_bit6 set hs _ (by omega)).mpr c3), q1', Option.bind_some, r_takesBad q2, Option.bind_some, et]
    exact ⟨by omega, M', rfl, q2, q3⟩
  · rw [if_neg (mt (sh_bit6 set hs _ (by omega)).mp c3)]
    exact hplain (fun q => c3 q.2.2) _ rfl
/-- the class's followers while a flow is read -/
def flB (β : Bw) (t n set k : Nat) : Nat := if set.testBit k = true then β 8 t k ||| 2 ^ n else β 8 t k
def KF (M0 M : Mw) (β : Bw) (t n set : Nat) : Prop := (∀ k, k < 6 → M.1 8 0 t k = nI (flB β t n set k)) ∧ (∀ t', t' ≠ t → M.1 8 0 t' = M0.1 8 0 t') ∧ Fr (fun κ b => κ = 14 ∨ κ = 15 ∨ (κ = 8 ∧ b = 0)) M0 M ∧ M.1 14 0 0 0 = M0.1 14 0 0 0
theorem flB_lt {β : Bw} {L : Lw} (hg : GBp β L) {t n set k : Nat} (hn : n = β 4 t 6) (hn6 : n < 6) : flB β t n set k < 64 ∧ ((flB β t n set k).testBit n = set.testBit k) := by
  have h8 : β 8 t k < 64 := bits_lt (n := n) (by omega) (fun q hq => by
    have := (hg.2.2.2.2.2.2.2.1 t k q hq).2
    omega)
  have hb : (β 8 t k).testBit n = false := by
    cases e : (β 8 t k).testBit n with
    | false => rfl
    | true =>
      have := (hg.2.2.2.2.2.2.2.1 t k n e).2
      omega
  unfold flB
  by_cases c : set.testBit k = true
  · rw [if_pos c, c]
    refine ⟨(or_bit6 _ h8 n hn6).2, ?_⟩
    rw [Nat.testBit_or, Nat.testBit_two_pow, decide_eq_true rfl, Bool.or_true]
  · rw [if_neg c, hb]
    refine ⟨h8, ?_⟩
    cases e : set.testBit k with
    | false => rfl
    | true => exact absurd e c
theorem or_flB {β : Bw} {t n set v k : Nat} : flB β t n (set ||| 2 ^ v) k = if k = v then flB β t n set k ||| 2 ^ n else flB β t n set k := by
  have hb : (set ||| 2 ^ v).testBit k = (set.testBit k || decide (v = k)) := by rw [Nat.testBit_or, Nat.testBit_two_pow]
  unfold flB
  rw [hb]
  by_cases c : k = v
  · rw [if_pos c, decide_eq_true c.symm, Bool.or_true, if_pos rfl]
    by_cases d : set.testBit k = true
    · rw [if_pos d, Nat.or_assoc, Nat.or_self]
    · rw [if_neg d]
  · rw [if_neg c, decide_eq_false (fun q => c q.symm), Bool.or_false]
theorem c_flow1 {M0 M : Mw} {β : Bw} {L : Lw} {S a t n set i : Nat} {f : Nat → Nat} (h : CS M S f a) (hC0 : KC M0 β L) (hg : GBp β L) (ht : t < β 0 0 5) (hn : n = β 4 t 6) (hn6 : n < 6) (hK : KF M0 M β t n set) (hs : ∀ k, set.testBit k = true → k < n) (k13 : Int32 → Mw → Option (Int32 × Mw)) :
    (tE S f set n a = 0 ∧ ∃ M', B_X1_readFlow_35 k13 (nI t) (nI n) (nI i) M = k13 (nI (i + 1)) M' ∧ CS M' S f (enP S f a) ∧ KF M0 M' β t n (set ||| 2 ^ vlP S f a)) ∨
    (tE S f set n a ≠ 0 ∧ ∃ M', B_X1_readFlow_35 k13 (nI t) (nI n) (nI i) M = some (0, M') ∧ CF M' (tE S f set n a) (frP S f a) ∧ Fr FC M M') := by
  have hv := vlP_le h.2.1.2.1 (S := S) a
  obtain ⟨k5, k4⟩ := kdP_5 (fun j _ => h.2.1.2.1 j) a (S := S)
  have hT5 := hg.1.2.2.2.2.1
  obtain ⟨kf1, kf2, kf3, kf4⟩ := hK
  have e5 : M.1 0 0 0 5 = nI (β 0 0 5) := by rw [(kf3 0 0 (by omega)).1]; exact hC0.1 5 (by decide)
  have e46 : M.1 4 0 t 6 = nI n := by rw [(kf3 4 0 (by omega)).1, hn]; exact hC0.2.2.1 t (by omega)
  have it5 : inb (nI t) 5 = true := inb_nI (by omega) (by omega)
  have ct : (nI t).toNatClampNeg = t := clampI (by omega)
  have k71 : ¬ (kdP S f a = 1 ∧ vlP S f a < n ∧ set.testBit (vlP S f a) = true) →
      (tE S f set n a = 0 ∧ ∃ M', B_X1_readFlow_71 k13 (nI t) (nI n) (nI i) M = k13 (nI (i + 1)) M' ∧ CS M' S f (enP S f a) ∧ KF M0 M' β t n (set ||| 2 ^ vlP S f a)) ∨
      (tE S f set n a ≠ 0 ∧ ∃ M', B_X1_readFlow_71 k13 (nI t) (nI n) (nI i) M = some (0, M') ∧ CF M' (tE S f set n a) (frP S f a) ∧ Fr FC M M') := by
    intro hne
    have et : tE S f set n a = nE S f 0 n a := if_neg hne
    unfold B_X1_readFlow_71
    rw [et]
    rcases c_num h (lo := 0) (n := n) (slot := 1) (hi := nI n - 1) (by omega) (by omega) (by omega) (nI_m n) with ⟨c, M', q1, q2, q3, q4, q5⟩ | ⟨c, M', q1, q2, q3⟩
    · left
      obtain ⟨-, hvn⟩ := nE_0 c
      have q1' : F_X1_readNumber 0 (nI n - 1) 1 M = some (1, M') := q1
      have i6 : inb (nI (vlP S f a)) 6 = true := inb_nI (by omega) (by omega)
      have cv : (nI (vlP S f a)).toNatClampNeg = vlP S f a := clampI (by omega)
      have e8 : M'.1 8 0 t (vlP S f a) = nI (flB β t n set (vlP S f a)) := by rw [q5.k1 (fun b => by omega)]; exact kf1 _ (by omega)
      rw [q1', Option.bind_some, if_neg (show ¬ (1 : Int32) = 0 by decide), if_pos it5]
      show _ ∧ ∃ M'', (if inb (M'.1 14 0 0 1) 6 then (if inb (M'.1 14 0 0 1) 6 then (bd (uIw M' 8 0 (nI t).toNatClampNeg (M'.1 14 0 0 1).toNatClampNeg ((M'.1 8 0 (nI t).toNatClampNeg (M'.1 14 0 0 1).toNatClampNeg) ||| (1 <<< (nI n &&& 31)))) (fun M11 => (bd (nI i + 1) (fun v13 => (k13 v13 M11))))) else none) else none) = _ ∧ _
      rw [q3, if_pos i6, if_pos i6, ct, cv, e8, (or_bit6 _ (flB_lt hg hn hn6).1 n hn6).1, bd_eq, bd_eq, nI_1]
      refine ⟨c, _, rfl, q2.fr (uI_k (by decide)) (uI_k (by decide)), fun k hk => ?_, fun t' ht' => ?_, ?_, ?_⟩
      · rw [uI1, or_flB]
        by_cases z : k = vlP S f a
        · rw [if_pos ⟨rfl, rfl, rfl, z⟩, if_pos z, z]
        · rw [if_neg (fun q => z q.2.2.2), if_neg z, q5.k1 (fun b => by omega)]
          exact kf1 k hk
      · funext j
        rw [uI1, if_neg (fun q => ht' q.2.2.1), q5.k1 (fun b => by omega), kf2 t' ht']
      · exact (kf3.trans (q5.mono (fun κ b q => by omega))).trans (Fr.uI (Or.inr (Or.inr ⟨rfl, rfl⟩)))
      · rw [uI_k (by decide), q4 0 (by decide), kf4]
    · right
      have q1' : F_X1_readNumber 0 (nI n - 1) 1 M = some (0, M') := q1
      rw [q1', Option.bind_some, if_pos rfl]
      exact ⟨c, M', rfl, q2, q3⟩
  unfold B_X1_readFlow_35
  rw [h.2.2.1]
  by_cases c1 : kdP S f a = 1
  case neg =>
    rw [if_neg (show ¬ nI (kdP S f a) = 1 from mt (nI_eq (b := 1) (by omega) (by omega)).mp c1)]
    exact k71 (fun q => c1 q.1)
  rw [if_pos (show nI (kdP S f a) = 1 by rw [c1]; rfl), h.2.2.2.2.2]
  have hnode : F_X0_hasNode 0 (nI t) (nI (vlP S f a)) M = some (if vlP S f a < n then 1 else 0) := by
    unfold F_X0_hasNode
    rw [c_hasTask e5 hT5, if_pos (rng_in ht (by omega)), Option.bind_some, if_neg (show ¬ (1 : Int32) = 0 by decide), if_neg (nI_pos (by omega)), if_pos it5, ct, e46]
    by_cases z : vlP S f a < n
    · rw [if_neg (nI_ge z (by omega)), if_pos z]
    · rw [if_pos (nI_le (by omega) (by omega)), if_neg z]
  unfold F_X0_isFollower
  rw [hnode, Option.bind_some]
  by_cases c2 : vlP S f a < n
  case neg =>
    rw [if_neg c2, if_pos rfl, Option.bind_some, if_pos rfl]
    exact k71 (fun q => c2 q.2.1)
  have hfl := flB_lt (set := set) (k := vlP S f a) hg hn hn6
  rw [if_pos c2, if_neg (show ¬ (1 : Int32) = 0 by decide), if_pos it5, if_pos (inb_nI (by omega) (by omega)), ct, clampI (by omega), kf1 _ (by omega)]
  by_cases c3 : set.testBit (vlP S f a) = true
  · right
    have et : tE S f set n a = 2 := if_pos ⟨c1, c2, c3⟩
    obtain ⟨M', q1, q2, q3⟩ := c_flaw (e := 2) h
    have q1' : (F_X1_fail 2 M).bind (fun q => if bz q.1 then some (q.1, q.2) else none) = some (0, M') := q1
    rw [if_neg (fun q => ((and_bit6 _ hfl.1 n hn6).mp q) (hfl.2.trans c3)), Option.bind_some, if_neg (show ¬ (1 : Int32) = 0 by decide), q1', et]
    exact ⟨by omega, M', rfl, q2, q3⟩
  · rw [if_pos ((and_bit6 _ hfl.1 n hn6).mpr (by rw [hfl.2]; exact c3)), Option.bind_some, if_pos rfl]
    exact k71 (fun q => c3 q.2.2)
def bcn (set n : Nat) : Nat := sm (fun k => if set.testBit k = true then 1 else 0) n
theorem bcn_add {set v n : Nat} (hv : v < n) (h : set.testBit v ≠ true) : bcn (set ||| 2 ^ v) n = bcn set n + 1 := by
  have hb : ∀ k, (set ||| 2 ^ v).testBit k = (set.testBit k || decide (v = k)) := fun k => by rw [Nat.testBit_or, Nat.testBit_two_pow]
  have := sm_upd (f := fun k => if set.testBit k = true then 1 else 0) (g := fun k => if (set ||| 2 ^ v).testBit k = true then 1 else 0) hv (fun j hj hne => by
    show (if (set ||| 2 ^ v).testBit j = true then 1 else 0) = (if set.testBit j = true then 1 else 0)
    rw [hb, decide_eq_false (fun q => hne q.symm), Bool.or_false])
  have e1 : (if (set ||| 2 ^ v).testBit v = true then 1 else 0) = 1 := by rw [hb, decide_eq_true rfl, Bool.or_true, if_pos rfl]
  have e2 : (if set.testBit v = true then 1 else 0) = 0 := if_neg h
  have this' : bcn (set ||| 2 ^ v) n + (if set.testBit v = true then 1 else 0) = bcn set n + (if (set ||| 2 ^ v).testBit v = true then 1 else 0) := this
  rw [e1, e2] at this'
  omega
theorem bcn_le (set n : Nat) : bcn set n ≤ n := by
  have := sm_le (f := fun k => if set.testBit k = true then 1 else 0) (c := 1) (n := n) (fun j _ => by
    show (if set.testBit j = true then 1 else 0) ≤ 1
    by_cases z : set.testBit j = true
    · rw [if_pos z]; exact Nat.le_refl 1
    · rw [if_neg z]; exact Nat.zero_le _)
  unfold bcn
  omega
theorem tE_0 {S set n a : Nat} {f : Nat → Nat} (h : tE S f set n a = 0) : vlP S f a < n ∧ set.testBit (vlP S f a) ≠ true ∧ kdP S f a = 1 := by
  unfold tE at h
  by_cases c : kdP S f a = 1 ∧ vlP S f a < n ∧ set.testBit (vlP S f a) = true
  · rw [if_pos c] at h; omega
  · rw [if_neg c] at h
    have h1 : kdP S f a = 1 := by
      unfold nE at h
      by_cases d : kdP S f a = 1
      · exact d
      · rw [if_neg d] at h; omega
    have h2 := (nE_0 h).2
    exact ⟨h2, fun q => c ⟨h1, h2, q⟩, h1⟩
theorem lk_flow {M0 : Mw} {β : Bw} {L : Lw} {S t n : Nat} {f : Nat → Nat} {un : Int32} (hC0 : KC M0 β L) (hg : GBp β L) (ht : t < β 0 0 5) (hn : n = β 4 t 6) (hn6 : n < 6) (R0 : Mw) :
    ∀ (d fc fr a set : Nat) (Mc Mr : Mw), S ≤ a + d → d + 2 ≤ fc → d + 2 ≤ fr → CS Mc S f a → RS Mr S f a → OB R0 Mr → KF M0 Mc β t n set → (∀ k, set.testBit k = true → k < n) → (bcn set n = 0 ∨ kdP S f a = 1) →
      (∃ set' a' Mc' Mr', it (fun _ _ => none) (B_X1_readFlow_13 (nI t) (nI n)) fc (nI (bcn set n)) Mc = some (1, Mc') ∧ it (fun _ _ => none) (B_X10_readNode_96 (nI t) (nI n) un) fr (nI set) Mr = B_X10_readNode_131 (nI t) (nI n) un (nI set') Mr' ∧ CS Mc' S f a' ∧ RS Mr' S f a' ∧ a ≤ a' ∧ OB R0 Mr' ∧ Mr'.1 56 = Mr.1 56 ∧ KF M0 Mc' β t n set' ∧ (∀ k, set'.testBit k = true → k < n)) ∨
      (∃ e pl x Mc' Mr', it (fun _ _ => none) (B_X1_readFlow_13 (nI t) (nI n)) fc (nI (bcn set n)) Mc = some (0, Mc') ∧ it (fun _ _ => none) (B_X10_readNode_96 (nI t) (nI n) un) fr (nI set) Mr = B_X10_readNode_131 (nI t) (nI n) un x Mr' ∧ CF Mc' e pl ∧ RF Mr' e pl ∧ OB R0 Mr' ∧ Fr SC M0 Mc') := by
  intro d
  induction d with
  | zero =>
    intro fc fr a set Mc Mr hSd hfc hfr hc hr hO hK hs hent
    -- no token is left
    have hk4 : kdP S f a = 4 := by
      have h1 := frP_le (f := f) hc.1
      exact (ckN_4 (fun j _ => hc.2.1.2.1 j)).mpr (by omega)
    obtain ⟨fc, rfl⟩ : ∃ x, fc = x + 1 := ⟨fc - 1, by omega⟩
    obtain ⟨fr, rfl⟩ : ∃ x, fr = x + 1 := ⟨fr - 1, by omega⟩
    rw [it_succ, it_succ]
    have hb0 : bcn set n = 0 := by
      rcases hent with q | q
      · exact q
      · omega
    generalize it (fun _ _ => none) (B_X1_readFlow_13 (nI t) (nI n)) fc = kc
    generalize it (fun _ _ => none) (B_X10_readNode_96 (nI t) (nI n) un) fr = kr
    right
    have hs64 := bits_lt (n := n) (by omega) hs
    unfold B_X1_readFlow_13 B_X10_readNode_96
    rw [if_pos (show nI (bcn set n) = 0 by rw [hb0]; rfl)]
    rcases c_flow1 (i := bcn set n) hc hC0 hg ht hn hn6 hK hs kc with ⟨c, -⟩ | ⟨c, Mc', q1, q2, q3⟩
    · have := (tE_0 c).2.2
      omega
    rcases r_takesNew hr (set := set) (n := n) (by omega) hs64 with ⟨c2, -⟩ | ⟨-, Mr', r1, r2, r3⟩
    · exact absurd c2 c
    rw [q1, r1, Option.bind_some, bd_eq, bd_eq, r_good0 r2.ne, Option.bind_some, if_pos rfl]
    exact ⟨_, _, _, Mc', Mr', rfl, rfl, q2, r2, hO.trans r3.b, (hK.2.2.1.mono (fun κ b q => by omega)).trans (q3.mono (fun κ b q => by omega))⟩
  | succ d ih =>
    intro fc fr a set Mc Mr hSd hfc hfr hc hr hO hK hs hent
    have hs64 := bits_lt (n := n) (by omega) hs
    have hble := bcn_le set n
    obtain ⟨fc, rfl⟩ : ∃ x, fc = x + 1 := ⟨fc - 1, by omega⟩
    obtain ⟨fr, rfl⟩ : ∃ x, fr = x + 1 := ⟨fr - 1, by omega⟩
    rw [it_succ, it_succ]
    generalize hkc : it (fun _ _ => none) (B_X1_readFlow_13 (nI t) (nI n)) fc = kc
    generalize hkr : it (fun _ _ => none) (B_X10_readNode_96 (nI t) (nI n) un) fr = kr
    obtain ⟨z5, z4⟩ := kdP_5 (fun j _ => hc.2.1.2.1 j) a (S := S)
    have e13 : B_X1_readFlow_13 (nI t) (nI n) kc (nI (bcn set n)) Mc = B_X1_readFlow_35 kc (nI t) (nI n) (nI (bcn set n)) Mc := by
      unfold B_X1_readFlow_13
      by_cases z : bcn set n = 0
      · rw [if_pos (show nI (bcn set n) = 0 by rw [z]; rfl)]
      · have h1 : kdP S f a = 1 := by
          rcases hent with q | q
          · exact absurd q z
          · exact q
        rw [if_neg (nI_ne0 (by omega) (by omega)), nI_1, if_neg (nI_ge (by omega) (by omega)), hc.2.2.1, if_pos (show nI (kdP S f a) = 1 by rw [h1]; rfl)]
    rw [e13]
    unfold B_X10_readNode_96
    rcases c_flow1 (i := bcn set n) hc hC0 hg ht hn hn6 hK hs kc with ⟨c, Mc', q1, q2, q3⟩ | ⟨c, Mc', q1, q2, q3⟩
    · rcases r_takesNew hr (set := set) (n := n) (by omega) hs64 with ⟨-, Mr', r1, r2, r3⟩ | ⟨c2, -⟩
      case inr => exact absurd c c2
      obtain ⟨hv, hnb, hk1⟩ := tE_0 c
      have hs' : ∀ k, (set ||| 2 ^ vlP S f a).testBit k = true → k < n := by
        intro k hk
        rw [Nat.testBit_or, Nat.testBit_two_pow, Bool.or_eq_true] at hk
        rcases hk with q | q
        · exact hs k q
        · have := of_decide_eq_true q
          omega
      have hbc := bcn_add hv hnb
      rw [q1, r1, Option.bind_some, bd_eq, (or_bit6 set hs64 _ (by omega)).1, bd_eq, r_good1 r2.2.2.2.1, Option.bind_some, if_neg (show ¬ (1 : Int32) = 0 by decide), r2.2.2.1.2.2.1, ← hbc]
      have halt := hc.a_lt (show kdP S f a ≠ 4 by omega)
      have e56 : Mr'.1 56 = Mr.1 56 := r3.1.k1 (fun b => by omega)
      by_cases cn : kdP S f (enP S f a) = 1
      · rw [if_pos (show nI (tkR (kdP S f (enP S f a))) = 2 by rw [cn]; rfl), ← hkc, ← hkr]
        rcases ih fc fr (enP S f a) (set ||| 2 ^ vlP S f a) Mc' Mr' (by omega) (by omega) (by omega) q2 r2 (hO.trans r3.b) q3 hs' (Or.inr cn) with ⟨set', a', Mc2, Mr2, y1, y2, y3, y4, y5, y6, y7, y8, y9⟩ | ⟨e, pl, x, Mc2, Mr2, y1, y2, y3, y4, y5, y6⟩
        · exact Or.inl ⟨set', a', Mc2, Mr2, y1, y2, y3, y4, by omega, y6, by rw [y7, e56], y8, y9⟩
        · exact Or.inr ⟨e, pl, x, Mc2, Mr2, y1, y2, y3, y4, y5, y6⟩
      · left
        obtain ⟨z5', z4'⟩ := kdP_5 (fun j _ => hc.2.1.2.1 j) (enP S f a) (S := S)
        have hn2 : ¬ nI (tkR (kdP S f (enP S f a))) = 2 := by
          unfold tkR
          by_cases z : kdP S f (enP S f a) = 4
          · rw [if_pos z]; decide
          · rw [if_neg z]
            exact mt (nI_eq (b := 2) (by omega) (by omega)).mp (by omega)
        have hble' := bcn_le (set ||| 2 ^ vlP S f a) n
        rw [if_neg hn2, ← hkc]
        refine ⟨set ||| 2 ^ vlP S f a, enP S f a, Mc', Mr', ?_, rfl, q2, r2, by omega, hO.trans r3.b, e56, q3, hs'⟩
        obtain ⟨fc', rfl⟩ : ∃ x, fc = x + 1 := ⟨fc - 1, by omega⟩
        rw [it_succ]
        generalize it (fun _ _ => none) (B_X1_readFlow_13 (nI t) (nI n)) fc' = kc'
        unfold B_X1_readFlow_13
        rw [if_neg (nI_ne0 (by omega) (by omega)), nI_1, if_neg (nI_ge (by omega) (by omega)), q2.2.2.1, if_neg (show ¬ nI (kdP S f (enP S f a)) = 1 from mt (nI_eq (b := 1) (by omega) (by omega)).mp cn)]
    · rcases r_takesNew hr (set := set) (n := n) (by omega) hs64 with ⟨c2, -⟩ | ⟨-, Mr', r1, r2, r3⟩
      · exact absurd c2 c
      right
      rw [q1, r1, Option.bind_some, bd_eq, bd_eq, r_good0 r2.ne, Option.bind_some, if_pos rfl]
      exact ⟨_, _, _, Mc', Mr', rfl, rfl, q2, r2, hO.trans r3.b, (hK.2.2.1.mono (fun κ b q => by omega)).trans (q3.mono (fun κ b q => by omega))⟩
