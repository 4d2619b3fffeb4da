/-! THE TOKENS of a tape of S bytes f, each by the place from which it is looked for -/
def isBl (c : Nat) : Bool := decide (c = 32) || decide (c = 10)
def isLt (c : Nat) : Bool := decide (97 ≤ c) && decide (c ≤ 122)
def isDg (c : Nat) : Bool := decide (48 ≤ c) && decide (c ≤ 57)
def rnU (q : Nat → Bool) (S : Nat) (f : Nat → Nat) : Nat → Nat → Nat
  | 0, a => a
  | d + 1, a => if a < S ∧ q (f a) = true then rnU q S f d (a + 1) else a
def rnW (q : Nat → Bool) (S : Nat) (f : Nat → Nat) (a : Nat) : Nat := rnU q S f S a
theorem rnU_spec {q : Nat → Bool} {S : Nat} {f : Nat → Nat} : ∀ d a, S ≤ a + d → a ≤ rnU q S f d a ∧ (∀ t, a ≤ t → t < rnU q S f d a → t < S ∧ q (f t) = true) ∧ ¬ (rnU q S f d a < S ∧ q (f (rnU q S f d a)) = true) := by
  intro d
  induction d with
  | zero =>
    intro a h
    exact ⟨Nat.le_refl a, fun t h1 h2 => by have h2' : t < a := h2; omega, fun z => by have z' : a < S := z.1; omega⟩
  | succ d ih =>
    intro a h
    by_cases c : a < S ∧ q (f a) = true
    · have e : rnU q S f (d + 1) a = rnU q S f d (a + 1) := if_pos c
      rw [e]
      obtain ⟨h1, h2, h3⟩ := ih (a + 1) (by omega)
      refine ⟨by omega, fun t t1 t2 => ?_, h3⟩
      by_cases z : t = a
      · rw [z]; exact c
      · exact h2 t (by omega) t2
    · have e : rnU q S f (d + 1) a = a := if_neg c
      rw [e]
      exact ⟨Nat.le_refl a, fun t t1 t2 => by omega, c⟩
theorem rnW_spec {q : Nat → Bool} {S : Nat} {f : Nat → Nat} (a : Nat) : a ≤ rnW q S f a ∧ (∀ t, a ≤ t → t < rnW q S f a → t < S ∧ q (f t) = true) ∧ ¬ (rnW q S f a < S ∧ q (f (rnW q S f a)) = true) := rnU_spec S a (by omega)
theorem rnW_le {q : Nat → Bool} {S : Nat} {f : Nat → Nat} {a : Nat} (h : a ≤ S) : rnW q S f a ≤ S := by
  obtain ⟨h1, h2, h3⟩ := rnW_spec (q := q) (S := S) (f := f) a
  apply Nat.le_of_not_lt
  intro z
  have := (h2 S h z).1
  omega
def frP (S : Nat) (f : Nat → Nat) (a : Nat) : Nat := rnW isBl S f a
def clsN (c : Nat) : Nat := if isLt c = true then 0 else if isDg c = true then 1 else if isBl c = true then 5 else if c = 59 then 2 else 3
def ckN (S : Nat) (f : Nat → Nat) (i : Nat) : Nat := if i < S then clsN (f i) else 4
def kdP (S : Nat) (f : Nat → Nat) (a : Nat) : Nat := ckN S f (frP S f a)
def enP (S : Nat) (f : Nat → Nat) (a : Nat) : Nat := if kdP S f a = 4 then frP S f a else if kdP S f a = 0 then rnW isLt S f (frP S f a) else if kdP S f a = 1 then rnW isDg S f (frP S f a) else frP S f a + 1
def vtN (f : Nat → Nat) (a : Nat) : Nat → Nat
  | 0 => 0
  | d + 1 => if vtN f a d < 100000 then vtN f a d * 10 + f (a + d) - 48 else 100000
def vlP (S : Nat) (f : Nat → Nat) (a : Nat) : Nat := if kdP S f a = 1 then vtN f (frP S f a) (enP S f a - frP S f a) else 0
theorem cls_5 : ∀ c, c < 256 → (clsN c = 5 ↔ isBl c = true) := by decide +kernel
theorem cls_0 : ∀ c, c < 256 → (clsN c = 0 ↔ isLt c = true) := by decide +kernel
theorem cls_1 : ∀ c, c < 256 → (clsN c = 1 ↔ isDg c = true) := by decide +kernel
theorem cls_le : ∀ c, c < 256 → clsN c ≤ 5 ∧ clsN c ≠ 4 := by decide +kernel
theorem cls_2 : ∀ c, c < 256 → (clsN c = 2 ↔ c = 59) := by decide +kernel
theorem frP_le {S : Nat} {f : Nat → Nat} {a : Nat} (h : a ≤ S) : a ≤ frP S f a ∧ frP S f a ≤ S := ⟨(rnW_spec a).1, rnW_le h⟩
theorem ckN_le {S : Nat} {f : Nat → Nat} (hf : ∀ j, j < S → f j < 256) (i : Nat) : ckN S f i ≤ 5 := by
  unfold ckN
  by_cases c : i < S
  · rw [if_pos c]; exact (cls_le _ (hf i c)).1
  · rw [if_neg c]; omega
theorem ckN_lt {S : Nat} {f : Nat → Nat} {i : Nat} (h : i < S) : ckN S f i = clsN (f i) := if_pos h
theorem ckN_4 {S : Nat} {f : Nat → Nat} (hf : ∀ j, j < S → f j < 256) {i : Nat} : ckN S f i = 4 ↔ S ≤ i := by
  unfold ckN
  by_cases c : i < S
  · rw [if_pos c]
    exact ⟨fun q => absurd q (cls_le _ (hf i c)).2, fun q => by omega⟩
  · rw [if_neg c]
    exact ⟨fun _ => by omega, fun _ => rfl⟩
theorem kdP_5 {S : Nat} {f : Nat → Nat} (hf : ∀ j, j < S → f j < 256) (a : Nat) : kdP S f a ≠ 5 ∧ kdP S f a ≤ 4 := by
  have h := (rnW_spec (q := isBl) (S := S) (f := f) a).2.2
  have hle := ckN_le hf (frP S f a)
  have h5 : kdP S f a ≠ 5 := by
    intro q
    unfold kdP at q
    by_cases c : frP S f a < S
    · rw [ckN_lt c] at q
      exact h ⟨c, (cls_5 _ (hf _ c)).mp q⟩
    · rw [(ckN_4 hf).mpr (by omega)] at q
      omega
  unfold kdP at h5 ⊢
  exact ⟨h5, by omega⟩
theorem enP_le {S : Nat} {f : Nat → Nat} (hf : ∀ j, j < S → f j < 256) {a : Nat} (h : a ≤ S) : frP S f a ≤ enP S f a ∧ enP S f a ≤ S ∧ (kdP S f a ≠ 4 → frP S f a < enP S f a) := by
  obtain ⟨h1, h2⟩ := frP_le (f := f) h
  unfold enP
  by_cases c4 : kdP S f a = 4
  · rw [if_pos c4]
    exact ⟨Nat.le_refl _, h2, fun q => absurd c4 q⟩
  have hlt : frP S f a < S := by
    apply Nat.lt_of_not_le
    intro q
    exact c4 ((ckN_4 hf).mpr q)
  rw [if_neg c4]
  have hgo : ∀ q : Nat → Bool, q (f (frP S f a)) = true → frP S f a ≤ rnW q S f (frP S f a) ∧ rnW q S f (frP S f a) ≤ S ∧ (kdP S f a ≠ 4 → frP S f a < rnW q S f (frP S f a)) := by
    intro q hq
    obtain ⟨r1, r2, r3⟩ := rnW_spec (q := q) (S := S) (f := f) (frP S f a)
    refine ⟨r1, rnW_le h2, fun _ => ?_⟩
    apply Nat.lt_of_not_le
    intro z
    have e : rnW q S f (frP S f a) = frP S f a := by omega
    rw [e] at r3
    exact r3 ⟨hlt, hq⟩
  by_cases c0 : kdP S f a = 0
  · rw [if_pos c0]
    unfold kdP at c0
    rw [ckN_lt hlt] at c0
    exact hgo isLt ((cls_0 _ (hf _ hlt)).mp c0)
  rw [if_neg c0]
  by_cases c1 : kdP S f a = 1
  · rw [if_pos c1]
    unfold kdP at c1
    rw [ckN_lt hlt] at c1
    exact hgo isDg ((cls_1 _ (hf _ hlt)).mp c1)
  · rw [if_neg c1]
    exact ⟨by omega, by omega, fun _ => by omega⟩
theorem vtN_le {f : Nat → Nat} {a : Nat} (hf : ∀ d, f (a + d) < 256) : ∀ d, vtN f a d ≤ 1100000 := by
  intro d
  induction d with
  | zero => exact Nat.zero_le _
  | succ d ih =>
    have := hf d
    show (if vtN f a d < 100000 then vtN f a d * 10 + f (a + d) - 48 else 100000) ≤ _
    by_cases c : vtN f a d < 100000
    · rw [if_pos c]; omega
    · rw [if_neg c]; omega
/-- a loop over a memory alone, with a ghost counter -/
theorem it_gM {β : Type} {z : Mw → Option β} {B : (Mw → Option β) → Mw → Option β} {n : Nat} {P : Nat → Mw → Prop} {Q : Option β → Prop}
    (step : ∀ (k : Mw → Option β) (t : Nat) (M : Mw), t < n → P t M → (∃ M', B k M = k M' ∧ P (t + 1) M') ∨ Q (B k M))
    (done : ∀ (k : Mw → Option β) (M : Mw), P n M → Q (B k M)) :
    ∀ (fu t : Nat) (M : Mw), t ≤ n → n < t + fu → P t M → Q (it z B fu M) := by
  intro fu
  induction fu with
  | zero => intro t M h1 h2; omega
  | succ fu ih =>
    intro t M h1 h2 hP
    rw [it_succ]
    by_cases h : t < n
    · rcases step (it z B fu) t M h hP with ⟨M', e, hP'⟩ | hq
      · rw [e]
        exact ih (t + 1) M' h (by omega) hP'
      · exact hq
    · obtain rfl : t = n := by omega
      exact done _ M hP
/-! the class's tape -/
def CTp (M : Mw) (S : Nat) (f : Nat → Nat) : Prop := S ≤ 1000 ∧ (∀ j, f j < 256) ∧ (∀ j, j < S → M.1 16 0 0 j = nI (f j)) ∧ M.1 15 0 0 1 = nI S
def CTk (M : Mw) (S : Nat) (f : Nat → Nat) (a : Nat) : Prop := M.1 15 0 0 2 = nI (kdP S f a) ∧ M.1 15 0 0 3 = nI (frP S f a) ∧ M.1 15 0 0 4 = nI (enP S f a) ∧ M.1 15 0 0 5 = nI (vlP S f a)
theorem kat_tab : ∀ c, c < 256 → (if nI c < 97 then (if nI c < 48 then (if nI c = 32 then some 5 else (if nI c = 10 then some 5 else (if nI c = 59 then some 2 else some 3))) else (if 57 < nI c then (if nI c = 32 then some 5 else (if nI c = 10 then some 5 else (if nI c = 59 then some 2 else some 3))) else some 1)) else (if 122 < nI c then (if nI c < 48 then (if nI c = 32 then some 5 else (if nI c = 10 then some 5 else (if nI c = 59 then some 2 else some 3))) else (if 57 < nI c then (if nI c = 32 then some 5 else (if nI c = 10 then some 5 else (if nI c = 59 then some 2 else some 3))) else some 1)) else some 0)) = some (nI (clsN c)) := by decide +kernel
theorem c_kindAt {M : Mw} {S : Nat} {f : Nat → Nat} (h : CTp M S f) {i : Nat} (hi : i ≤ S) : F_X6_kindAt (nI i) M = some (nI (ckN S f i)) := by
  obtain ⟨hS, hf, hb, h1⟩ := h
  unfold F_X6_kindAt B_X6_kindAt_35 B_X6_kindAt_49
  rw [if_neg (nI_pos (by omega)), h1]
  by_cases c : i < S
  · rw [if_pos (nI_lt c (by omega)), if_pos (inb_nI (by omega) (by omega)), clampI (by omega), hb i c, bd_eq, ckN_lt c]
    exact kat_tab _ (hf i)
  · rw [if_neg (nI_nlt (by omega) (by omega)), (ckN_4 (fun j _ => hf j)).mpr (by omega)]
    rfl
theorem CTp.fr {M M' : Mw} {S : Nat} {f : Nat → Nat} (h : CTp M S f) (e16 : M'.1 16 = M.1 16) (e1 : M'.1 15 0 0 1 = M.1 15 0 0 1) : CTp M' S f := ⟨h.1, h.2.1, fun j hj => by rw [e16]; exact h.2.2.1 j hj, by rw [e1]; exact h.2.2.2⟩
theorem CTp.u {M : Mw} {S j : Nat} {f : Nat → Nat} {v : Int32} (h : CTp M S f) (hj : j ≠ 1) : CTp (uIw M 15 0 0 j v) S f := h.fr (uI_k (by decide)) (by rw [uI1, if_neg (fun q => hj q.2.2.2.symm)])
abbrev FT15 : Nat → Nat → Prop := fun κ _ => κ = 15
/-- the two loops behind a token's begin -/
theorem c_adv129n {M : Mw} {S e : Nat} {f : Nat → Nat} (h : CTp M S f) (h4 : M.1 15 0 0 4 = nI e) (he : e ≤ S) (hc : S ≤ e ∨ M.1 15 0 0 2 ≠ 1) : it (fun _ => none) (B_X6_advance_129) FU M = some M := by
  rw [it_FU]
  unfold B_X6_advance_129
  rw [h.2.2.2, h4]
  by_cases c : S ≤ e
  · rw [if_pos (nI_le c (by have := h.1; omega))]
  · rw [if_neg (nI_ge (by omega) (by have := h.1; omega))]
    rcases hc with q | q
    · exact absurd q c
    · rw [if_neg q]
theorem c_adv87n {M : Mw} {S e : Nat} {f : Nat → Nat} (h : CTp M S f) (h4 : M.1 15 0 0 4 = nI e) (he : e ≤ S) (hc : S ≤ e ∨ M.1 15 0 0 2 ≠ 0) : it (fun _ => none) (B_X6_advance_87) FU M = it (fun _ => none) (B_X6_advance_129) FU M := by
  rw [it_FU]
  unfold B_X6_advance_87
  rw [h.2.2.2, h4]
  by_cases c : S ≤ e
  · rw [if_pos (nI_le c (by have := h.1; omega))]
  · rw [if_neg (nI_ge (by omega) (by have := h.1; omega))]
    rcases hc with q | q
    · exact absurd q c
    · rw [if_neg q]
theorem c_adv36 {M : Mw} {S a : Nat} {f : Nat → Nat} (h : CTp M S f) (ha : a ≤ S) (h4 : M.1 15 0 0 4 = nI (frP S f a)) : ∃ M', B_X6_advance_36 M = some M' ∧ CTp M' S f ∧ CTk M' S f a ∧ Fr FT15 M M' := by
  have hf' : ∀ j, j < S → f j < 256 := fun j _ => h.2.1 j
  have hS := h.1
  obtain ⟨hfr1, hfr2⟩ := frP_le (f := f) ha
  obtain ⟨he1, he2, he3⟩ := enP_le hf' ha
  obtain ⟨k5, k4⟩ := kdP_5 hf' a
  obtain ⟨M3, hM3⟩ : ∃ M3, M3 = uIw (uIw M 15 0 0 3 (nI (frP S f a))) 15 0 0 5 0 := ⟨_, rfl⟩
  have h3 : CTp M3 S f := by rw [hM3]; exact (h.u (by decide)).u (by decide)
  have e34 : M3.1 15 0 0 4 = nI (frP S f a) := by rw [hM3, uI1, if_neg (fun q => absurd q.2.2.2 (by decide)), uI1, if_neg (fun q => absurd q.2.2.2 (by decide)), h4]
  obtain ⟨M6, hM6⟩ : ∃ M6, M6 = uIw M3 15 0 0 2 (nI (kdP S f a)) := ⟨_, rfl⟩
  have h6 : CTp M6 S f := by rw [hM6]; exact h3.u (by decide)
  have e62 : M6.1 15 0 0 2 = nI (kdP S f a) := by rw [hM6, uI1, if_pos ⟨rfl, rfl, rfl, rfl⟩]
  have e63 : M6.1 15 0 0 3 = nI (frP S f a) := by rw [hM6, uI1, if_neg (fun q => absurd q.2.2.2 (by decide)), hM3, uI1, if_neg (fun q => absurd q.2.2.2 (by decide)), uI1, if_pos ⟨rfl, rfl, rfl, rfl⟩]
  have e64 : M6.1 15 0 0 4 = nI (frP S f a) := by rw [hM6, uI1, if_neg (fun q => absurd q.2.2.2 (by decide)), e34]
  have e65 : M6.1 15 0 0 5 = 0 := by rw [hM6, uI1, if_neg (fun q => absurd q.2.2.2 (by decide)), hM3, uI1, if_pos ⟨rfl, rfl, rfl, rfl⟩]
  have hF6 : Fr FT15 M M6 := by rw [hM6, hM3]; exact ((Fr.uI (S := FT15) rfl).trans (Fr.uI (S := FT15) rfl)).trans (Fr.uI (S := FT15) rfl)
  unfold B_X6_advance_36
  rw [h4, bd_eq, bd_eq, ← hM3, e34, c_kindAt h3 hfr2, Option.bind_some, bd_eq]
  have hM6' : uIw M3 15 0 0 2 (nI (ckN S f (frP S f a))) = M6 := hM6.symm
  rw [hM6', e62]
  have n2 : nI (kdP S f a) = 2 ↔ kdP S f a = 2 := nI_eq (b := 2) (by omega) (by omega)
  have n3 : nI (kdP S f a) = 3 ↔ kdP S f a = 3 := nI_eq (b := 3) (by omega) (by omega)
  have n0 : nI (kdP S f a) = 0 ↔ kdP S f a = 0 := nI_eq (b := 0) (by omega) (by omega)
  have n1 : nI (kdP S f a) = 1 ↔ kdP S f a = 1 := nI_eq (b := 1) (by omega) (by omega)
  by_cases c23 : kdP S f a = 2 ∨ kdP S f a = 3
  · have hen : enP S f a = frP S f a + 1 := by
      unfold enP
      rw [if_neg (by omega), if_neg (by omega), if_neg (by omega)]
    have hvl : vlP S f a = 0 := by
      unfold vlP
      rw [if_neg (by omega)]
    have k77 : ∃ M', B_X6_advance_77 M6 = some M' ∧ CTp M' S f ∧ CTk M' S f a ∧ Fr FT15 M M' := by
      unfold B_X6_advance_77
      rw [bd_eq, e64, nI_1]
      have h8 : CTp (uIw M6 15 0 0 4 (nI (frP S f a + 1))) S f := h6.u (by decide)
      have e84 : (uIw M6 15 0 0 4 (nI (frP S f a + 1))).1 15 0 0 4 = nI (frP S f a + 1) := by rw [uI1, if_pos ⟨rfl, rfl, rfl, rfl⟩]
      have e82 : (uIw M6 15 0 0 4 (nI (frP S f a + 1))).1 15 0 0 2 = nI (kdP S f a) := by rw [uI1, if_neg (fun q => absurd q.2.2.2 (by decide)), e62]
      rw [c_adv87n h8 e84 (by omega) (Or.inr (by rw [e82]; exact fun q => by have := n0.mp q; omega)), c_adv129n h8 e84 (by omega) (Or.inr (by rw [e82]; exact fun q => by have := n1.mp q; omega))]
      refine ⟨_, rfl, h8, ⟨e82, ?_, ?_, ?_⟩, hF6.trans (Fr.uI rfl)⟩
      · rw [uI1, if_neg (fun q => absurd q.2.2.2 (by decide)), e63]
      · rw [e84, hen]
      · rw [uI1, if_neg (fun q => absurd q.2.2.2 (by decide)), e65, hvl]
        rfl
    by_cases c2 : kdP S f a = 2
    · rw [if_pos (n2.mpr c2)]; exact k77
    · rw [if_neg (mt n2.mp c2), if_pos (n3.mpr (by omega))]; exact k77
  rw [if_neg (mt n2.mp (by omega)), if_neg (mt n3.mp (by omega))]
  by_cases c4 : kdP S f a = 4
  · have hSe : S ≤ frP S f a := (ckN_4 hf').mp c4
    rw [c_adv87n h6 e64 hfr2 (Or.inl hSe), c_adv129n h6 e64 hfr2 (Or.inl hSe)]
    have hen : enP S f a = frP S f a := by
      unfold enP
      rw [if_pos c4]
    have hvl : vlP S f a = 0 := by
      unfold vlP
      rw [if_neg (by omega)]
    exact ⟨M6, rfl, h6, ⟨e62, e63, by rw [hen]; exact e64, by rw [hvl]; exact e65⟩, hF6⟩
  by_cases c0 : kdP S f a = 0
  · have hen : enP S f a = rnW isLt S f (frP S f a) := by
      unfold enP
      rw [if_neg c4, if_pos c0]
    have hvl : vlP S f a = 0 := by
      unfold vlP
      rw [if_neg (by omega)]
    obtain ⟨r1, r2, r3⟩ := rnW_spec (q := isLt) (S := S) (f := f) (frP S f a)
    rw [← hen] at r1 r2 r3
    have hfin : ∀ M1 : Mw, CTp M1 S f → M1.1 15 0 0 2 = nI (kdP S f a) → M1.1 15 0 0 3 = nI (frP S f a) → M1.1 15 0 0 4 = nI (enP S f a) → M1.1 15 0 0 5 = 0 → Fr FT15 M M1 → ∃ M', it (fun _ => none) (B_X6_advance_129) FU M1 = some M' ∧ CTp M' S f ∧ CTk M' S f a ∧ Fr FT15 M M' := by
      intro M1 g0 g2 g3 g4 g5 gF
      rw [c_adv129n g0 g4 he2 (Or.inr (by rw [g2]; exact fun q => by have := n1.mp q; omega))]
      exact ⟨M1, rfl, g0, ⟨g2, g3, g4, by rw [hvl]; exact g5⟩, gF⟩
    exact it_gM (z := fun _ => none) (B := B_X6_advance_87) (n := enP S f a) (P := fun t M1 => frP S f a ≤ t ∧ CTp M1 S f ∧ M1.1 15 0 0 2 = nI (kdP S f a) ∧ M1.1 15 0 0 3 = nI (frP S f a) ∧ M1.1 15 0 0 4 = nI t ∧ M1.1 15 0 0 5 = 0 ∧ Fr FT15 M M1)
      (Q := fun o => ∃ M', o = some M' ∧ CTp M' S f ∧ CTk M' S f a ∧ Fr FT15 M M')
      (fun kk t M1 ht hP => by
        obtain ⟨p0, p1, p2, p3, p4, p5, pF⟩ := hP
        left
        obtain ⟨t1, t2⟩ := r2 t p0 ht
        unfold B_X6_advance_87
        rw [p1.2.2.2, p4, if_neg (nI_ge t1 (by omega)), p2, if_pos (n0.mpr c0), c_kindAt p1 (by omega), Option.bind_some, ckN_lt t1, (cls_0 _ (h.2.1 t)).mpr t2, if_pos (show nI 0 = 0 from nI_0), bd_eq, nI_1]
        refine ⟨_, rfl, by omega, p1.u (by decide), ?_, ?_, ?_, ?_, pF.trans (Fr.uI rfl)⟩
        · rw [uI1, if_neg (fun q => absurd q.2.2.2 (by decide)), p2]
        · rw [uI1, if_neg (fun q => absurd q.2.2.2 (by decide)), p3]
        · rw [uI1, if_pos ⟨rfl, rfl, rfl, rfl⟩]
        · rw [uI1, if_neg (fun q => absurd q.2.2.2 (by decide)), p5])
      (fun kk M1 hP => by
        obtain ⟨p0, p1, p2, p3, p4, p5, pF⟩ := hP
        unfold B_X6_advance_87
        rw [p1.2.2.2, p4]
        by_cases z : S ≤ enP S f a
        · rw [if_pos (nI_le z (by omega))]
          exact hfin M1 p1 p2 p3 p4 p5 pF
        · have z' : enP S f a < S := by omega
          rw [if_neg (nI_ge z' (by omega)), p2, if_pos (n0.mpr c0), c_kindAt p1 he2, Option.bind_some, ckN_lt z', if_neg (fun q => ?_)]
          · exact hfin M1 p1 p2 p3 p4 p5 pF
          · have q' := (nI_eq (b := 0) (by have := (cls_le _ (h.2.1 (enP S f a))).1; omega) (by omega)).mp q
            exact r3 ⟨z', (cls_0 _ (h.2.1 _)).mp q'⟩)
      FU (frP S f a) M6 r1 (by unfold FU; omega) ⟨Nat.le_refl _, h6, e62, e63, e64, e65, hF6⟩
  have c1 : kdP S f a = 1 := by omega
  have hen : enP S f a = rnW isDg S f (frP S f a) := by
    unfold enP
    rw [if_neg c4, if_neg c0, if_pos c1]
  have hvl : vlP S f a = vtN f (frP S f a) (enP S f a - frP S f a) := by
    unfold vlP
    rw [if_pos c1]
  obtain ⟨r1, r2, r3⟩ := rnW_spec (q := isDg) (S := S) (f := f) (frP S f a)
  rw [← hen] at r1 r2 r3
  rw [c_adv87n h6 e64 hfr2 (Or.inr (by rw [e62]; exact mt n0.mp c0))]
  exact it_gM (z := fun _ => none) (B := B_X6_advance_129) (n := enP S f a) (P := fun t M1 => frP S f a ≤ t ∧ CTp M1 S f ∧ M1.1 15 0 0 2 = nI (kdP S f a) ∧ M1.1 15 0 0 3 = nI (frP S f a) ∧ M1.1 15 0 0 4 = nI t ∧ M1.1 15 0 0 5 = nI (vtN f (frP S f a) (t - frP S f a)) ∧ Fr FT15 M M1)
    (Q := fun o => ∃ M', o = some M' ∧ CTp M' S f ∧ CTk M' S f a ∧ Fr FT15 M M')
    (fun kk t M1 ht hP => by
      obtain ⟨p0, p1, p2, p3, p4, p5, pF⟩ := hP
      left
      obtain ⟨t1, t2⟩ := r2 t p0 ht
      have hd : 48 ≤ f t ∧ f t ≤ 57 := by
        unfold isDg at t2
        rw [Bool.and_eq_true] at t2
        exact ⟨of_decide_eq_true t2.1, of_decide_eq_true t2.2⟩
      have hv := vtN_le (f := f) (a := frP S f a) (fun d => h.2.1 _) (t - frP S f a)
      have evs : vtN f (frP S f a) (t + 1 - frP S f a) = if vtN f (frP S f a) (t - frP S f a) < 100000 then vtN f (frP S f a) (t - frP S f a) * 10 + f t - 48 else 100000 := by
        rw [show t + 1 - frP S f a = (t - frP S f a) + 1 by omega]
        show (if vtN f (frP S f a) (t - frP S f a) < 100000 then vtN f (frP S f a) (t - frP S f a) * 10 + f (frP S f a + (t - frP S f a)) - 48 else 100000) = _
        rw [show frP S f a + (t - frP S f a) = t by omega]
      have k195 : ∀ s0, s0 = nI (vtN f (frP S f a) (t + 1 - frP S f a)) → ∃ M', B_X6_advance_195 kk s0 M1 = kk M' ∧ (frP S f a ≤ t + 1 ∧ CTp M' S f ∧ M'.1 15 0 0 2 = nI (kdP S f a) ∧ M'.1 15 0 0 3 = nI (frP S f a) ∧ M'.1 15 0 0 4 = nI (t + 1) ∧ M'.1 15 0 0 5 = nI (vtN f (frP S f a) (t + 1 - frP S f a)) ∧ Fr FT15 M M') := by
        intro s0 e
        have e4 : (uIw M1 15 0 0 5 s0).1 15 0 0 4 = nI t := by rw [uI1, if_neg (fun q => absurd q.2.2.2 (by decide)), p4]
        unfold B_X6_advance_195
        rw [bd_eq, e4, bd_eq, nI_1]
        refine ⟨_, rfl, by omega, (p1.u (by decide)).u (by decide), ?_, ?_, ?_, ?_, (pF.trans (Fr.uI rfl)).trans (Fr.uI rfl)⟩
        · rw [uI1, if_neg (fun q => absurd q.2.2.2 (by decide)), uI1, if_neg (fun q => absurd q.2.2.2 (by decide)), p2]
        · rw [uI1, if_neg (fun q => absurd q.2.2.2 (by decide)), uI1, if_neg (fun q => absurd q.2.2.2 (by decide)), p3]
        · rw [uI1, if_pos ⟨rfl, rfl, rfl, rfl⟩]
        · rw [uI1, if_neg (fun q => absurd q.2.2.2 (by decide)), uI1, if_pos ⟨rfl, rfl, rfl, rfl⟩, e]
      unfold B_X6_advance_129
      rw [p1.2.2.2, p4, if_neg (nI_ge t1 (by omega)), p2, if_pos (n1.mpr c1), c_kindAt p1 (by omega), Option.bind_some, ckN_lt t1, (cls_1 _ (h.2.1 t)).mpr t2, if_pos (show nI 1 = 1 from rfl), p5]
      by_cases cv : vtN f (frP S f a) (t - frP S f a) < 100000
      · rw [if_pos (show nI (vtN f (frP S f a) (t - frP S f a)) < 100000 from nI_lt (b := 100000) cv (by omega)), if_pos (inb_nI (by omega) (by omega)), clampI (by omega), p1.2.2.1 t t1]
        refine k195 _ ?_
        rw [evs, if_pos cv, show (10 : Int32) = nI 10 from rfl, show (48 : Int32) = nI 48 from rfl, pk_mul, nI_add, pk_sub (by omega)]
      · rw [if_neg (show ¬ nI (vtN f (frP S f a) (t - frP S f a)) < 100000 from nI_nlt (b := 100000) (by omega) (by omega))]
        refine k195 _ ?_
        rw [evs, if_neg cv]
        rfl)
    (fun kk M1 hP => by
      obtain ⟨p0, p1, p2, p3, p4, p5, pF⟩ := hP
      have hk : CTk M1 S f a := ⟨p2, p3, p4, by rw [hvl]; exact p5⟩
      unfold B_X6_advance_129
      rw [p1.2.2.2, p4]
      by_cases z : S ≤ enP S f a
      · rw [if_pos (nI_le z (by omega))]
        exact ⟨M1, rfl, p1, hk, pF⟩
      · have z' : enP S f a < S := by omega
        rw [if_neg (nI_ge z' (by omega)), p2, if_pos (n1.mpr c1), c_kindAt p1 he2, Option.bind_some, ckN_lt z', if_neg (fun q => ?_)]
        · exact ⟨M1, rfl, p1, hk, pF⟩
        · have q' := (nI_eq (b := 1) (by have := (cls_le _ (h.2.1 (enP S f a))).1; omega) (by omega)).mp q
          exact r3 ⟨z', (cls_1 _ (h.2.1 _)).mp q'⟩)
    FU (frP S f a) M6 r1 (by unfold FU; omega) ⟨Nat.le_refl _, h6, e62, e63, e64, by rw [e65, Nat.sub_self]; rfl, hF6⟩
theorem c_advance {M : Mw} {S a : Nat} {f : Nat → Nat} (h : CTp M S f) (ha : a ≤ S) (h4 : M.1 15 0 0 4 = nI a) : ∃ M', F_X6_advance M = some M' ∧ CTp M' S f ∧ CTk M' S f a ∧ Fr FT15 M M' := by
  have hS := h.1
  obtain ⟨hfr1, hfr2⟩ := frP_le (f := f) ha
  obtain ⟨r1, r2, r3⟩ := rnW_spec (q := isBl) (S := S) (f := f) a
  unfold F_X6_advance
  exact it_gM (z := fun _ => none) (B := B_X6_advance_0) (n := frP S f a) (P := fun t M1 => a ≤ t ∧ CTp M1 S f ∧ M1.1 15 0 0 4 = nI t ∧ Fr FT15 M M1)
    (Q := fun o => ∃ M', o = some M' ∧ CTp M' S f ∧ CTk M' S f a ∧ Fr FT15 M M')
    (fun kk t M1 ht hP => by
      obtain ⟨p0, p1, p4, pF⟩ := hP
      left
      obtain ⟨t1, t2⟩ := r2 t p0 ht
      unfold B_X6_advance_0
      rw [p1.2.2.2, p4, if_neg (nI_ge t1 (by omega)), c_kindAt p1 (by omega), Option.bind_some, ckN_lt t1, (cls_5 _ (h.2.1 t)).mpr t2, if_pos (show nI 5 = 5 from rfl), bd_eq, nI_1]
      exact ⟨_, rfl, by omega, p1.u (by decide), by rw [uI1, if_pos ⟨rfl, rfl, rfl, rfl⟩], pF.trans (Fr.uI rfl)⟩)
    (fun kk M1 hP => by
      obtain ⟨p0, p1, p4, pF⟩ := hP
      obtain ⟨M', q1, q2, q3, q4⟩ := c_adv36 p1 ha p4
      have hr : ∃ M', B_X6_advance_36 M1 = some M' ∧ CTp M' S f ∧ CTk M' S f a ∧ Fr FT15 M M' := ⟨M', q1, q2, q3, pF.trans q4⟩
      unfold B_X6_advance_0
      rw [p1.2.2.2, p4]
      by_cases z : S ≤ frP S f a
      · rw [if_pos (nI_le z (by omega))]
        exact hr
      · have z' : frP S f a < S := by omega
        rw [if_neg (nI_ge z' (by omega)), c_kindAt p1 hfr2, Option.bind_some, ckN_lt z', if_neg (fun q => ?_)]
        · exact hr
        · have q' := (nI_eq (b := 5) (by have := (cls_le _ (h.2.1 (frP S f a))).1; omega) (by omega)).mp q
          exact r3 ⟨z', (cls_5 _ (h.2.1 _)).mp q'⟩)
    FU a M hfr1 (by unfold FU; omega) ⟨Nat.le_refl _, h, h4, Fr.rfl⟩
