/-! A BOARD UNDER WAY, on both sides -/
def GBp (β : Bw) (L : Lw) : Prop :=
  (β 0 0 0 ≤ 200 ∧ β 0 0 1 ≤ 50 ∧ β 0 0 2 ≤ 9 ∧ β 0 0 4 ≤ 3 ∧ β 0 0 5 ≤ 5 ∧ L.length ≤ 8 ∧ β 0 0 6 = L.length ∧ β 0 0 7 = 0) ∧
  (0 < β 0 0 3 → 20 ≤ β 0 0 0 ∧ 5 ≤ β 0 0 1) ∧ (β 0 0 3 = 0 → β 0 0 0 = 0 ∧ β 0 0 1 = 0 ∧ β 0 0 2 = 0 ∧ β 0 0 4 = 0 ∧ β 0 0 5 = 0 ∧ L = []) ∧ (0 < β 0 0 5 → 0 < β 0 0 4) ∧
  (∀ t, t < β 0 0 5 → β 4 t 0 < β 0 0 4 ∧ 4 ≤ β 4 t 1 ∧ β 4 t 1 ≤ 60 ∧ β 4 t 2 ≤ 99 ∧ β 4 t 2 < β 4 t 3 ∧ β 4 t 3 ≤ 120 ∧ β 4 t 4 ≤ 20 ∧ β 4 t 5 ≤ 40 ∧ β 4 t 6 ≤ 6) ∧
  (∀ t, β 0 0 5 ≤ t → β 4 t 6 = 0) ∧
  (∀ t n, t < β 0 0 5 → n < β 4 t 6 → 1 ≤ β 6 t n ∧ β 6 t n ≤ 9) ∧
  (∀ t n k, (β 8 t n).testBit k = true → n < k ∧ k < β 4 t 6) ∧
  (β 1 0 0 = 0 ∧ ∀ w, 0 < w → w < β 0 0 4 → 1 ≤ β 1 0 w ∧ β 1 0 w ≤ w) ∧
  (∀ w, w < β 0 0 4 → β 2 0 w < 8 ∧ ∀ k, (β 2 0 w).testBit k = (decide (k < β 0 0 4) && und β k w)) ∧
  (∀ r ∈ L, GRow β r)
def KC (M : Mw) (β : Bw) (L : Lw) : Prop :=
  (∀ j, j < 8 → M.1 0 0 0 j = nI (β 0 0 j)) ∧ (∀ t, t < β 0 0 5 → ∀ j, j < 6 → M.1 4 0 t j = nI (β 4 t j)) ∧ (∀ t, t < 5 → M.1 4 0 t 6 = nI (β 4 t 6)) ∧
  (∀ t, t < 5 → ∀ n, n < 6 → M.1 8 0 t n = nI (β 8 t n)) ∧ (∀ t, t < β 0 0 5 → ∀ n, n < β 4 t 6 → M.1 6 0 t n = nI (β 6 t n)) ∧
  (∀ w, w < β 0 0 4 → M.1 1 0 0 w = nI (β 1 0 w) + (-1) ∧ M.1 2 0 0 w = nI (β 2 0 w)) ∧ (∀ i, i < L.length → L[i]? = some (row5 (M.1 12 0 i)))
theorem KC.fr {M M' : Mw} {β : Bw} {L : Lw} (h : KC M β L) (e : ∀ κ, κ ≤ 12 → M'.1 κ 0 = M.1 κ 0) : KC M' β L := by
  unfold KC at h ⊢
  rw [e 0 (by omega), e 4 (by omega), e 8 (by omega), e 6 (by omega), e 1 (by omega), e 2 (by omega), e 12 (by omega)]
  exact h
def KR (M : Mw) (β : Bw) (L : Lw) : Prop := RWd (M.1 56 0 0) β L ∧ ∀ t, t < 5 → M.1 56 0 0 (11 + 7 * t + 6) = nI (β 4 t 6)
def Lk (S : Nat) (f : Nat → Nat) (Mc Mr : Mw) (β : Bw) (L : Lw) (a : Nat) : Prop := CS Mc S f a ∧ Mc.1 13 0 0 2 = 0 ∧ Mc.1 13 0 0 3 = -1 ∧ KC Mc β L ∧ RS Mr S f a ∧ KR Mr β L ∧ GBp β L
abbrev SC : Nat → Nat → Prop := fun κ b => κ = 13 ∨ κ = 14 ∨ κ = 15 ∨ (κ ≤ 12 ∧ b = 0)
def OB (M M' : Mw) : Prop := Fr (fun κ _ => κ = 50 ∨ κ = 56) M M' ∧ ∀ j, j < 8 ∨ 13 < j → M'.1 50 0 0 j = M.1 50 0 0 j
theorem OB.rfl {M : Mw} : OB M M := ⟨Fr.rfl, fun _ _ => Eq.refl _⟩
theorem OB.trans {M M1 M2 : Mw} (h : OB M M1) (h2 : OB M1 M2) : OB M M2 := ⟨h.1.trans h2.1, fun j a => (h2.2 j a).trans (h.2 j a)⟩
theorem O5.b {M M' : Mw} (h : O5 M M') : OB M M' := ⟨h.1.mono (fun κ b q => Or.inl q), h.2⟩
theorem OB.u {M : Mw} {j : Nat} {v : Int32} : OB M (uIw M 56 0 0 j v) := ⟨Fr.uI (S := fun κ _ => κ = 50 ∨ κ = 56) (Or.inr (Eq.refl _)), fun i _ => by rw [uI_k (by decide)]⟩
def LnO (S : Nat) (f : Nat → Nat) (Mc0 Mr0 : Mw) (a : Nat) (oc : Option (Int32 × Mw)) (or : Option Mw) : Prop :=
  (∃ Mc Mr β L a', oc = some (1, Mc) ∧ or = some Mr ∧ a < a' ∧ Lk S f (uIw Mc 0 0 0 3 (Mc.1 0 0 0 3 + 1)) Mr β L a' ∧ (0 < β 0 0 3 ∧ β 0 0 3 ≤ a') ∧ Fr SC Mc0 Mc ∧ OB Mr0 Mr) ∨
  (∃ e pl Mc Mr, oc = some (0, Mc) ∧ CF Mc e pl ∧ or = some Mr ∧ RF Mr e pl ∧ Fr SC Mc0 Mc ∧ OB Mr0 Mr)
/-- told by a word and stored -/
def tS (t : Nat) (x y : Int32) (i : Nat) (k : Mw → Option Mw) (M : Mw) : Option Mw := (F_X10_toldBy t x y M).bind (fun q => bd (uIw q.2 56 0 0 i q.1) k)
def BK (k : Mw → Option Mw) : Prop := ∀ e pl M, RF M e pl → ∃ M', k M = some M' ∧ RF M' e pl ∧ OB M M'
theorem bk_tS {t i : Nat} {x y : Int32} {k : Mw → Option Mw} (ht : t < 24) (hk : BK k) : BK (tS t x y i k) := by
  intro e pl M h
  unfold tS
  rw [r_toldBad ht h, Option.bind_some, bd_eq]
  obtain ⟨M', q1, q2, q3⟩ := hk e pl _ (h.fr (M' := uIw M 56 0 0 i 0) (uI_k (by decide)))
  exact ⟨M', q1, q2, OB.u.trans q3⟩
theorem RS.u {M : Mw} {S a j : Nat} {f : Nat → Nat} {v : Int32} (h : RS M S f a) : RS (uIw M 56 0 0 j v) S f a := h.fr (uI_k (by decide)) (uI_k (by decide))
theorem nE_0 {S lo n a : Nat} {f : Nat → Nat} (h : nE S f lo n a = 0) : lo ≤ vlP S f a ∧ vlP S f a < n := by
  unfold nE at h
  by_cases c : kdP S f a = 1
  · rw [if_pos c] at h
    by_cases d : lo ≤ vlP S f a ∧ vlP S f a < n
    · exact d
    · rw [if_neg d] at h; omega
  · rw [if_neg c] at h; omega
theorem pR_0 {S t lo n a : Nat} {f : Nat → Nat} (h : (pR S f t lo n a).1 = 0) : lo ≤ vlP S f (enP S f a) ∧ vlP S f (enP S f a) < n := by
  unfold pR at h
  by_cases c : mtP S f a t = true
  · rw [if_pos c] at h
    exact nE_0 h
  · rw [if_neg c] at h
    have h' : (1 : Nat) = 0 := h
    omega
theorem lk_pair {S a0 a t lo n slot i : Nat} {f : Nat → Nat} {hi : Int32} {Mc0 Mr0 Mc Mr : Mw} {kc : Int32 × Mw → Option (Int32 × Mw)} {kr : Mw → Option Mw} (ht : t < 24) (hlo : lo ≤ 1000) (hn : n ≤ 1000) (hs : slot < 6) (hh : hi = nI n + (-1)) (hc : CS Mc S f a) (hr : RS Mr S f a) (hFc : Fr SC Mc0 Mc) (hFr : OB Mr0 Mr) (bad : BK kr)
    (good : ∀ Mc' Mr', lo ≤ vlP S f (enP S f a) → vlP S f (enP S f a) < n → CS Mc' S f (enP S f (enP S f a)) → RS Mr' S f (enP S f (enP S f a)) → Mc'.1 14 0 0 slot = nI (vlP S f (enP S f a)) → (∀ j, j ≠ slot → Mc'.1 14 0 0 j = Mc.1 14 0 0 j) → Mr'.1 56 0 0 i = nI (vlP S f (enP S f a)) → (∀ j, j ≠ i → Mr'.1 56 0 0 j = Mr.1 56 0 0 j) → Fr FG Mc Mc' → Fr SC Mc0 Mc' → OB Mr0 Mr' → LnO S f Mc0 Mr0 a0 (kc (1, Mc')) (kr Mr')) :
    LnO S f Mc0 Mr0 a0 ((F_X1_readPair t (nI lo) hi (nI slot) Mc).bind (fun q => if q.1 = 0 then some (0, q.2) else kc q)) (tS t (nI lo) hi i kr Mr) := by
  unfold tS
  rcases c_pair hc ht hlo hn hs hh with ⟨c, Mc', q1, q2, q3, q4, q5⟩ | ⟨c, Mc', q1, q2, q3⟩
  · rcases r_toldBy hr ht hlo hn hh with ⟨-, Mr', r1, r2, r3⟩ | ⟨c2, -⟩
    · obtain ⟨p1, p2⟩ := pR_0 c
      rw [q1, r1, Option.bind_some, Option.bind_some, if_neg (show ¬ (1 : Int32) = 0 by decide), bd_eq]
      exact good Mc' _ p1 p2 q2 r2.u q3 q4 (by rw [uI1, if_pos ⟨rfl, rfl, rfl, rfl⟩]) (fun j hj => by
        show (uIw Mr' 56 0 0 i (nI (vlP S f (enP S f a)))).1 56 0 0 j = _
        rw [uI1, if_neg (fun q => hj q.2.2.2), r3.1.k1 (fun b => by omega)]) q5 (hFc.trans (q5.mono (fun κ b q => by omega))) ((hFr.trans r3.b).trans OB.u)
    · exact absurd c c2
  · rcases r_toldBy hr ht hlo hn hh with ⟨c2, -⟩ | ⟨-, Mr', r1, r2, r3⟩
    · exact absurd c2 c
    · right
      obtain ⟨M', b1, b2, b3⟩ := bad _ _ _ (r2.fr (M' := uIw Mr' 56 0 0 i 0) (uI_k (by decide)))
      rw [q1, r1, Option.bind_some, Option.bind_some, if_pos rfl, bd_eq]
      exact ⟨_, _, Mc', M', rfl, q2, b1, b2, hFc.trans (q3.mono (fun κ b q => by omega)), ((hFr.trans r3.b).trans OB.u).trans b3⟩
/-- a line's end -/
theorem bk_91 : BK B_X10_readText_91 := by
  intro e pl M h
  unfold B_X10_readText_91 B_X10_readText_111 B_X10_readText_122
  rw [r_good0 h.ne, Option.bind_some, if_pos rfl, Option.bind_some, if_pos rfl, bd_eq]
  exact ⟨_, rfl, h.fr (uI_k (by decide)), OB.u⟩
theorem r_91 {M : Mw} {S a : Nat} {f : Nat → Nat} (h : RS M S f a) :
    (kdP S f a = 2 ∧ ∃ M', B_X10_readText_91 M = some M' ∧ RS M' S f (enP S f a) ∧ M'.1 56 0 0 7 = M.1 56 0 0 7 + 1 ∧ (∀ j, j ≠ 7 → M'.1 56 0 0 j = M.1 56 0 0 j) ∧ OB M M') ∨
    (kdP S f a ≠ 2 ∧ ∃ M', B_X10_readText_91 M = some M' ∧ RF M' 1 (frP S f a) ∧ OB M M') := by
  obtain ⟨k5, k4⟩ := kdP_5 (fun j _ => h.2.1.2.1 j) a (S := S)
  unfold B_X10_readText_91
  rw [r_good1 h.2.2.2.1, Option.bind_some, if_neg (show ¬ (1 : Int32) = 0 by decide), h.2.2.1.2.2.1]
  by_cases c : kdP S f a = 2
  · left
    obtain ⟨M', q1, q2, q3⟩ := h.adv
    rw [if_pos (show nI (tkR (kdP S f a)) = 3 by rw [c]; rfl)]
    unfold B_X10_readText_111 B_X10_readText_122
    rw [r_good1 h.2.2.2.1, Option.bind_some, if_neg (show ¬ (1 : Int32) = 0 by decide), q1, Option.bind_some, bd_eq]
    have e56 : M'.1 56 = M.1 56 := q3.1.k1 (fun b => by omega)
    refine ⟨c, _, rfl, q2.u, ?_, fun j hj => ?_, q3.b.trans OB.u⟩
    · rw [uI1, if_pos ⟨rfl, rfl, rfl, rfl⟩, e56]
    · rw [uI1, if_neg (fun q => hj q.2.2.2), e56]
  · right
    have hn3 : ¬ nI (tkR (kdP S f a)) = 3 := by
      unfold tkR
      by_cases z : kdP S f a = 4
      · rw [if_pos z]; decide
      · rw [if_neg z]
        exact mt (nI_eq (b := 3) (by omega) (by omega)).mp (by omega)
    obtain ⟨M', q1, q2, q3⟩ := r_errs (e := 1) h (by omega) (by omega)
    have q1' : F_X10_errs 1 M = some M' := q1
    rw [if_neg hn3, q1', Option.bind_some]
    unfold B_X10_readText_111 B_X10_readText_122
    rw [r_good0 q2.ne, Option.bind_some, if_pos rfl, bd_eq]
    exact ⟨c, _, rfl, q2.fr (uI_k (by decide)), q3.b.trans OB.u⟩
theorem lk_end {S a0 a : Nat} {f : Nat → Nat} {Mc0 Mr0 Mc Mr : Mw} {kc : Int32 × Mw → Option (Int32 × Mw)} (hc : CS Mc S f a) (hr : RS Mr S f a) (hFc : Fr SC Mc0 Mc) (hFr : OB Mr0 Mr)
    (good : ∀ Mc' Mr', CS Mc' S f (enP S f a) → RS Mr' S f (enP S f a) → Fr FT15 Mc Mc' → Mr'.1 56 0 0 7 = Mr.1 56 0 0 7 + 1 → (∀ j, j ≠ 7 → Mr'.1 56 0 0 j = Mr.1 56 0 0 j) → Fr SC Mc0 Mc' → OB Mr0 Mr' → ∃ Mc'' β L a', kc (1, Mc') = some (1, Mc'') ∧ a0 < a' ∧ Lk S f (uIw Mc'' 0 0 0 3 (Mc''.1 0 0 0 3 + 1)) Mr' β L a' ∧ (0 < β 0 0 3 ∧ β 0 0 3 ≤ a') ∧ Fr SC Mc0 Mc'') :
    LnO S f Mc0 Mr0 a0 ((F_X1_readEnd Mc).bind (fun q => if q.1 = 0 then some (0, q.2) else kc q)) (B_X10_readText_91 Mr) := by
  rcases c_end hc with ⟨c, Mc', q1, q2, q3⟩ | ⟨c, Mc', q1, q2, q3⟩
  · rcases r_91 hr with ⟨-, Mr', r1, r2, r3, r4, r5⟩ | ⟨c2, -⟩
    · left
      rw [q1, r1, Option.bind_some, if_neg (show ¬ (1 : Int32) = 0 by decide)]
      obtain ⟨Mc'', β, L, a', g1, g2, g3, g4, g5⟩ := good Mc' Mr' q2 r2 q3 r3 r4 (hFc.trans (q3.mono (fun κ b q => by omega))) (hFr.trans r5)
      exact ⟨Mc'', Mr', β, L, a', g1, rfl, g2, g3, g4, g5, hFr.trans r5⟩
    · exact absurd c c2
  · rcases r_91 hr with ⟨c2, -⟩ | ⟨-, Mr', r1, r2, r3⟩
    · exact absurd c2 c
    · right
      rw [q1, r1, Option.bind_some, if_pos rfl]
      exact ⟨1, _, Mc', Mr', rfl, q2, rfl, r2, hFc.trans (q3.mono (fun κ b q => by omega)), hFr.trans r3⟩
/-- one cell of the board set -/
def pu (β : Bw) (κ i j v : Nat) : Bw := fun κ' i' j' => if κ' = κ ∧ i' = i ∧ j' = j then v else β κ' i' j'
theorem pu_n {β : Bw} {κ i j v κ' i' j' : Nat} (h : ¬ (κ' = κ ∧ i' = i ∧ j' = j)) : pu β κ i j v κ' i' j' = β κ' i' j' := if_neg h
theorem pu_e {β : Bw} {κ i j v : Nat} : pu β κ i j v κ i j = v := if_pos ⟨rfl, rfl, rfl⟩
/-- the line "board" -/
def bdB (β : Bw) (H Y N : Nat) : Bw := pu (pu (pu (pu β 0 0 0 H) 0 0 1 Y) 0 0 2 N) 0 0 3 1
theorem bdB_n {β : Bw} {H Y N κ i j : Nat} (h : κ ≠ 0 ∨ 3 < j) : bdB β H Y N κ i j = β κ i j := by
  unfold bdB
  rw [pu_n (by omega), pu_n (by omega), pu_n (by omega), pu_n (by omega)]
theorem CS.a_lt {M : Mw} {S a : Nat} {f : Nat → Nat} (h : CS M S f a) (hk : kdP S f a ≠ 4) : a < enP S f a := by
  have h1 := frP_le (f := f) h.1
  have h2 := (enP_le (fun j _ => h.2.1.2.1 j) h.1).2.2 hk
  omega
theorem CS.a_le {M : Mw} {S a : Nat} {f : Nat → Nat} (h : CS M S f a) : a ≤ enP S f a := by
  have h1 := frP_le (f := f) h.1
  have h2 := (enP_le (fun j _ => h.2.1.2.1 j) h.1).1
  omega
theorem en_le {S a : Nat} {f : Nat → Nat} (hf : ∀ j, f j < 256) (ha : a ≤ S) : a ≤ enP S f a ∧ enP S f a ≤ S := by
  have h1 := frP_le (f := f) ha
  have h2 := enP_le (fun j _ => hf j) ha
  exact ⟨by omega, h2.2.1⟩
