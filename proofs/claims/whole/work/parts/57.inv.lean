/-! WHAT A RUN KEEPS: its bounds -/
def sm (f : Nat → Nat) : Nat → Nat
  | 0 => 0
  | n + 1 => sm f n + f n
theorem sm_same {f g : Nat → Nat} : ∀ {n : Nat}, (∀ j, j < n → f j = g j) → sm f n = sm g n := by
  intro n
  induction n with
  | zero => intro _; rfl
  | succ n ih =>
    intro h
    show sm f n + f n = sm g n + g n
    rw [ih (fun j hj => h j (by omega)), h n (by omega)]
theorem sm_upd {f g : Nat → Nat} {t : Nat} : ∀ {n : Nat}, t < n → (∀ j, j < n → j ≠ t → g j = f j) → sm g n + f t = sm f n + g t := by
  intro n
  induction n with
  | zero => intro h; omega
  | succ n ih =>
    intro h hs
    show sm g n + g n + f t = sm f n + f n + g t
    by_cases c : t = n
    · subst c
      rw [sm_same (f := g) (g := f) (fun j hj => hs j (by omega) (by omega))]
      omega
    · have := ih (by omega) (fun j hj hne => hs j (by omega) hne)
      rw [hs n (by omega) (by omega)]
      omega
theorem sm_le {f : Nat → Nat} {c : Nat} : ∀ {n : Nat}, (∀ j, j < n → f j ≤ c) → sm f n ≤ n * c := by
  intro n
  induction n with
  | zero => intro _; exact Nat.zero_le _
  | succ n ih =>
    intro h
    show sm f n + f n ≤ (n + 1) * c
    have h1 := ih (fun j hj => h j (by omega))
    have h2 := h n (by omega)
    rw [Nat.add_mul]
    omega
theorem clV_f {β : Bw} {lev task w k : Nat} {V : Vw} {n t f : Nat} (h0 : f ≠ 0) (h2 : f ≠ 2) (h5 : f ≠ 5) (h6 : f ≠ 6) : (clV β lev task w k V n).1 t f = V.1 t f := by
  show (if _ then _ else _ : Nat → Nat) f = _
  by_cases c : t < n ∧ dR β lev task w t = true
  · rw [if_pos c]
    unfold rsF
    rw [if_neg h0, if_neg h2, if_neg h5, if_neg h6]
  · rw [if_neg c]
theorem clV_c {β : Bw} {lev task w k : Nat} {V : Vw} {n : Nat} (t : Nat) : (∀ f, (clV β lev task w k V n).1 t f = V.1 t f) ∨ ((clV β lev task w k V n).1 t 0 = rst β t k ∧ (clV β lev task w k V n).1 t 2 = 0 ∧ (clV β lev task w k V n).1 t 5 = 0) := by
  by_cases c : t < n ∧ dR β lev task w t = true
  · right
    have e : (clV β lev task w k V n).1 t = rsF (V.1 t) (rst β t k) := if_pos c
    rw [e]
    exact ⟨rfl, rfl, rfl⟩
  · left
    intro f
    have e : (clV β lev task w k V n).1 t = V.1 t := if_neg c
    rw [e]
/-- the bounds of a state in tick k; D: how often a task's count fell; cy: cycles that ended -/
def SI (β : Bw) (FO : UInt32 → Prop) (k cy : Nat) (D : Nat → Nat) (V : Vw) (H : Hw) : Prop :=
  H.2.2.1.length ≤ sm (fun t => min 3 (V.1 t 7) + D t) (β 0 0 5) + sm (fun w => H.2.1 w) (β 0 0 4) + H.2.2.2.1 ∧
  (∀ t, t < β 0 0 5 → V.1 t 7 ≤ 3 + H.2.2.2.1 ∧ V.1 t 0 ≤ 1000 ∧ V.1 t 1 ≤ k + 1 ∧ V.1 t 2 ≤ β 4 t 6 ∧ V.1 t 5 ≤ k + 1 ∧ FO (V.2.1 t)) ∧
  (∀ t, t < β 0 0 5 → 3 * D t + V.1 t 8 ≤ cy) ∧ (∀ w, H.1 w ≤ k + 1) ∧ (∀ w, w < β 0 0 4 → H.2.1 w ≤ 1) ∧ H.2.2.2.1 ≤ 3 ∧ (H.2.2.2.2.2 = 0 → H.2.2.2.1 ≤ 2)
theorem SI.len {β : Bw} {L : Lw} {FO : UInt32 → Prop} {k cy : Nat} {D : Nat → Nat} {V : Vw} {H : Hw} (hg : GB β L) (h : SI β FO k cy D V H) (hcy : cy ≤ 40) : H.2.2.1.length ≤ 90 := by
  obtain ⟨h1, h2, h3, h4, h5, h6, h7⟩ := h
  have a1 : sm (fun t => min 3 (V.1 t 7) + D t) (β 0 0 5) ≤ β 0 0 5 * 16 := sm_le (fun t ht => by
    have := h3 t ht
    show min 3 (V.1 t 7) + D t ≤ 16
    omega)
  have a2 : sm (fun w => H.2.1 w) (β 0 0 4) ≤ β 0 0 4 * 1 := sm_le h5
  have b1 := hg.1.2.2.2.1
  have b2 := hg.1.2.2.2.2
  omega
/-- a task fails -/
def failS (β : Bw) (k kind t : Nat) (s : Vw × Hw) : Vw × Hw := (clV β (flL β s.1 t) (t + 1) (β 4 t 0) k (flV s.1 t) (β 0 0 5), clH β (flL β s.1 t) (β 4 t 0) k (adH s.2 (k, kind, t, flL β s.1 t)))
theorem rst_le {β : Bw} {L : Lw} (hg : GB β L) {t k : Nat} (ht : t < β 0 0 5) (hk : k ≤ 200) : rst β t k ≤ 1000 := by
  obtain ⟨-, hp, hp2, -⟩ := hg.2.2.2.1 t ht
  unfold rst
  have h1 := Nat.div_mul_le_self k (β 4 t 1)
  rw [Nat.add_mul]
  omega
theorem SI_fail {β : Bw} {L : Lw} {FO : UInt32 → Prop} {k cy kind t : Nat} {D : Nat → Nat} {V : Vw} {H : Hw} (hg : GB β L) (hFO : ∀ x, FO x → FO (FP.fdiv x FP.fconst2)) (h : SI β FO k cy D V H) (ht : t < β 0 0 5) (hk : k ≤ 200) (ho : H.2.2.2.2.2 = 0) :
    SI β FO k cy D (failS β k kind t (V, H)).1 (failS β k kind t (V, H)).2 := by
  obtain ⟨h1, h2, h3, h4, h5, h6, h7⟩ := h
  have hb := h7 ho
  have e7 : ∀ t', (failS β k kind t (V, H)).1.1 t' 7 = if t' = t then V.1 t 7 + 1 else V.1 t' 7 := by
    intro t'
    show (clV _ _ _ _ _ _ _).1 t' 7 = _
    rw [clV_f (by decide) (by decide) (by decide) (by decide)]
    show (if t' = t then (fun f => if f = 7 then V.1 t 7 + 1 else if f = 8 then 0 else if f = 9 then 1 else V.1 t f) else V.1 t') 7 = _
    by_cases c : t' = t
    · rw [if_pos c, if_pos c]; rfl
    · rw [if_neg c, if_neg c]
  have e8 : ∀ t', (failS β k kind t (V, H)).1.1 t' 8 = if t' = t then 0 else V.1 t' 8 := by
    intro t'
    show (clV _ _ _ _ _ _ _).1 t' 8 = _
    rw [clV_f (by decide) (by decide) (by decide) (by decide)]
    show (if t' = t then (fun f => if f = 7 then V.1 t 7 + 1 else if f = 8 then 0 else if f = 9 then 1 else V.1 t f) else V.1 t') 8 = _
    by_cases c : t' = t
    · rw [if_pos c, if_pos c]; rfl
    · rw [if_neg c, if_neg c]
  have eo : ∀ t' f, f ≠ 7 → f ≠ 8 → f ≠ 9 → (flV V t).1 t' f = V.1 t' f := by
    intro t' f a b c
    show (if t' = t then (fun f => if f = 7 then V.1 t 7 + 1 else if f = 8 then 0 else if f = 9 then 1 else V.1 t f) else V.1 t') f = _
    by_cases d : t' = t
    · rw [if_pos d, d]
      show (if f = 7 then _ else _) = _
      rw [if_neg a, if_neg b, if_neg c]
    · rw [if_neg d]
  have hlev : flL β V t < 3 → V.1 t 7 < 3 := by
    intro q
    unfold flL at q
    omega
  have hbo : (failS β k kind t (V, H)).2.2.2.2.1 = if flL β V t = 3 then H.2.2.2.1 + 1 else H.2.2.2.1 := by
    show (if flL β V t = 3 then (H.2.2.2.1 + 1, if H.2.2.2.1 + 1 = 3 then k + 1 else H.2.2.2.2.1, 1) else H.2.2.2).1 = _
    by_cases c : flL β V t = 3
    · rw [if_pos c, if_pos c]
    · rw [if_neg c, if_neg c]
  have hov : (failS β k kind t (V, H)).2.2.2.2.2.2 = if flL β V t = 3 then 1 else H.2.2.2.2.2 := by
    show (if flL β V t = 3 then (H.2.2.2.1 + 1, if H.2.2.2.1 + 1 = 3 then k + 1 else H.2.2.2.2.1, 1) else H.2.2.2).2.2 = _
    by_cases c : flL β V t = 3
    · rw [if_pos c, if_pos c]
    · rw [if_neg c, if_neg c]
  have hle : flL β V t ≤ 3 := Nat.min_le_left _ _
  have hlen : (failS β k kind t (V, H)).2.2.2.1.length = H.2.2.1.length + 1 := by
    show (H.2.2.1 ++ [_]).length = _
    rw [List.length_append]
    rfl
  have hsl : (failS β k kind t (V, H)).2.2.1 = H.2.1 := rfl
  have hsm := sm_upd (f := fun t => min 3 (V.1 t 7) + D t) (g := fun t' => min 3 ((failS β k kind t (V, H)).1.1 t' 7) + D t') ht (fun j hj hne => by
    show min 3 _ + _ = _
    rw [e7, if_neg hne])
  have hsm' : sm (fun t' => min 3 ((failS β k kind t (V, H)).1.1 t' 7) + D t') (β 0 0 5) + (min 3 (V.1 t 7) + D t) = sm (fun t => min 3 (V.1 t 7) + D t) (β 0 0 5) + (min 3 (V.1 t 7 + 1) + D t) := by
    have q : (min 3 ((failS β k kind t (V, H)).1.1 t 7) + D t) = min 3 (V.1 t 7 + 1) + D t := by rw [e7, if_pos rfl]
    rw [← q]
    exact hsm
  refine ⟨?_, fun t' ht' => ?_, fun t' ht' => ?_, fun w => ?_, ?_, ?_, ?_⟩
  · rw [hlen, hsl, hbo]
    by_cases c : flL β V t = 3
    · rw [if_pos c]; omega
    · rw [if_neg c]
      have := hlev (by omega)
      omega
  · obtain ⟨a7, a0, a1, a2, a5, af⟩ := h2 t' ht'
    refine ⟨?_, ?_, ?_, ?_, ?_, ?_⟩
    · rw [e7, hbo]
      by_cases c : flL β V t = 3
      · rw [if_pos c]
        by_cases d : t' = t
        · rw [if_pos d]; rw [d] at a7; omega
        · rw [if_neg d]; omega
      · rw [if_neg c]
        have := hlev (by omega)
        by_cases d : t' = t
        · rw [if_pos d]; omega
        · rw [if_neg d]; omega
    · rcases clV_c (β := β) (lev := flL β V t) (task := t + 1) (w := β 4 t 0) (k := k) (V := flV V t) (n := β 0 0 5) t' with q | q
      · show (clV _ _ _ _ _ _ _).1 t' 0 ≤ _
        rw [q, eo t' 0 (by decide) (by decide) (by decide)]
        exact a0
      · show (clV _ _ _ _ _ _ _).1 t' 0 ≤ _
        rw [q.1]
        exact rst_le hg ht' hk
    · show (clV _ _ _ _ _ _ _).1 t' 1 ≤ _
      rw [clV_f (by decide) (by decide) (by decide) (by decide), eo t' 1 (by decide) (by decide) (by decide)]
      exact a1
    · rcases clV_c (β := β) (lev := flL β V t) (task := t + 1) (w := β 4 t 0) (k := k) (V := flV V t) (n := β 0 0 5) t' with q | q
      · show (clV _ _ _ _ _ _ _).1 t' 2 ≤ _
        rw [q, eo t' 2 (by decide) (by decide) (by decide)]
        exact a2
      · show (clV _ _ _ _ _ _ _).1 t' 2 ≤ _
        rw [q.2.1]
        exact Nat.zero_le _
    · rcases clV_c (β := β) (lev := flL β V t) (task := t + 1) (w := β 4 t 0) (k := k) (V := flV V t) (n := β 0 0 5) t' with q | q
      · show (clV _ _ _ _ _ _ _).1 t' 5 ≤ _
        rw [q, eo t' 5 (by decide) (by decide) (by decide)]
        exact a5
      · show (clV _ _ _ _ _ _ _).1 t' 5 ≤ _
        rw [q.2.2]
        exact Nat.zero_le _
    · show FO ((flV V t).2.1 t')
      show FO (if t' = t then FP.fdiv (V.2.1 t) FP.fconst2 else V.2.1 t')
      by_cases d : t' = t
      · rw [if_pos d]; rw [d] at af; exact hFO _ af
      · rw [if_neg d]; exact af
  · have := h3 t' ht'
    rw [e8]
    by_cases d : t' = t
    · rw [if_pos d]; omega
    · rw [if_neg d]; exact this
  · show clK β (flL β V t) (β 4 t 0) k H.1 (β 0 0 4) w ≤ _
    unfold clK
    by_cases c : w < β 0 0 4 ∧ dW β (flL β V t) (β 4 t 0) w = true
    · rw [if_pos c]; exact Nat.le_refl _
    · rw [if_neg c]; exact h4 w
  · rw [hsl]; exact h5
  · rw [hbo]
    by_cases c : flL β V t = 3
    · rw [if_pos c]; omega
    · rw [if_neg c]; omega
  · rw [hbo, hov]
    intro q
    by_cases c : flL β V t = 3
    · rw [if_pos c] at q; omega
    · rw [if_neg c]; exact hb
