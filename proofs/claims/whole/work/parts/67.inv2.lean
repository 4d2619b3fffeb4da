/-! WHAT A TICK KEEPS -/
theorem clV_rs {β : Bw} {lev task w k : Nat} {V : Vw} {n : Nat} (t : Nat) : (clV β lev task w k V n).1 t = V.1 t ∨ (clV β lev task w k V n).1 t = rsF (V.1 t) (rst β t k) := by
  by_cases c : t < n ∧ dR β lev task w t = true
  · exact Or.inr (if_pos c)
  · exact Or.inl (if_neg c)
theorem SJ_cl {β : Bw} {L : Lw} {FM : UInt32 → Prop} {FS : Nat → UInt64 → Prop} {m k lev task w n : Nat} {V : Vw} (h : SJ β L FM FS m k V) : SJ β L FM FS m k (clV β lev task w k V n) := by
  intro t ht
  obtain ⟨j12, j10, j14, j3, j6, jm, js, j5, j2, j8⟩ := h t ht
  rcases clV_rs (β := β) (lev := lev) (task := task) (w := w) (k := k) (V := V) (n := n) t with e | e
  · unfold chV
    rw [e]
    exact ⟨j12, j10, j14, j3, j6, jm, js, j5, j2, j8⟩
  · unfold chV
    rw [e]
    exact ⟨j12, j10, j14, j3, by show (1 : Nat) < 64; omega, jm, js, fun q => absurd rfl q, fun q => absurd q (Nat.lt_irrefl 0), j8⟩
theorem flV_t (V : Vw) (t f : Nat) : (flV V t).1 t f = if f = 7 then V.1 t 7 + 1 else if f = 8 then 0 else if f = 9 then 1 else V.1 t f := by
  show (if t = t then (fun f => if f = 7 then V.1 t 7 + 1 else if f = 8 then 0 else if f = 9 then 1 else V.1 t f) else V.1 t) f = _
  rw [if_pos rfl]
theorem flV_o {V : Vw} {t t' f : Nat} (h7 : f ≠ 7) (h8 : f ≠ 8) (h9 : f ≠ 9) : (flV V t).1 t' f = V.1 t' f := by
  by_cases c : t' = t
  · subst c
    rw [flV_t, if_neg h7, if_neg h8, if_neg h9]
  · rw [(flV_ne c).1]
theorem SJ_fl {β : Bw} {L : Lw} {FM : UInt32 → Prop} {FS : Nat → UInt64 → Prop} {m k t0 : Nat} {V : Vw} (h : SJ β L FM FS m k V) : SJ β L FM FS m k (flV V t0) := by
  intro t ht
  obtain ⟨j12, j10, j14, j3, j6, jm, js, j5, j2, j8⟩ := h t ht
  have e := fun f a b c => flV_o (V := V) (t := t0) (t' := t) (f := f) a b c
  have ec : chV L (flV V t0) t = chV L V t := by
    unfold chV
    rw [e 1 (by decide) (by decide) (by decide), e 2 (by decide) (by decide) (by decide)]
  rw [ec, e 12 (by decide) (by decide) (by decide), e 10 (by decide) (by decide) (by decide), e 14 (by decide) (by decide) (by decide), e 3 (by decide) (by decide) (by decide), e 6 (by decide) (by decide) (by decide), e 5 (by decide) (by decide) (by decide), e 0 (by decide) (by decide) (by decide), e 2 (by decide) (by decide) (by decide), e 1 (by decide) (by decide) (by decide)]
  refine ⟨j12, j10, j14, j3, j6, jm, js, j5, j2, ?_⟩
  by_cases c : t = t0
  · subst c
    refine ⟨?_, ?_⟩
    · rw [flV_t, if_neg (by decide), if_pos rfl]
      omega
    · rw [flV_t, if_neg (by decide), if_neg (by decide), if_pos rfl]
      omega
  · rw [(flV_ne c).1]
    exact j8
theorem SJ_fail {β : Bw} {L : Lw} {FM : UInt32 → Prop} {FS : Nat → UInt64 → Prop} {m k kind t : Nat} {s : Vw × Hw} (h : SJ β L FM FS m k s.1) : SJ β L FM FS m k (failS β k kind t s).1 := SJ_cl (SJ_fl h)
theorem clH_b {β : Bw} {lev w k : Nat} {H : Hw} : (clH β lev w k H).2.2.2.1 = if lev = 3 then H.2.2.2.1 + 1 else H.2.2.2.1 := by
  show (if lev = 3 then (H.2.2.2.1 + 1, if H.2.2.2.1 + 1 = 3 then k + 1 else H.2.2.2.2.1, 1) else H.2.2.2).1 = _
  by_cases c : lev = 3
  · rw [if_pos c, if_pos c]
  · rw [if_neg c, if_neg c]
theorem clH_o {β : Bw} {lev w k : Nat} {H : Hw} : (clH β lev w k H).2.2.2.2.2 = if lev = 3 then 1 else H.2.2.2.2.2 := by
  show (if lev = 3 then (H.2.2.2.1 + 1, if H.2.2.2.1 + 1 = 3 then k + 1 else H.2.2.2.2.1, 1) else H.2.2.2).2.2 = _
  by_cases c : lev = 3
  · rw [if_pos c, if_pos c]
  · rw [if_neg c, if_neg c]
theorem clV_3 {β : Bw} {task w k : Nat} {V : Vw} {n t : Nat} (h : t < n) : (clV β 3 task w k V n).1 t = rsF (V.1 t) (rst β t k) := if_pos ⟨h, by unfold dR; simp⟩
theorem SI_cl {β : Bw} {L : Lw} {FO : UInt32 → Prop} {k cy lev task w : Nat} {D : Nat → Nat} {V : Vw} {H : Hw} (hg : GB β L) (hk : k ≤ 200)
    (h1 : H.2.2.1.length ≤ sm (fun t => min 3 (V.1 t 7) + D t) (β 0 0 5) + sm (fun w => H.2.1 w) (β 0 0 4) + H.2.2.2.1 + (if lev = 3 then 1 else 0))
    (h2 : ∀ t, t < β 0 0 5 → V.1 t 7 ≤ 3 + H.2.2.2.1 ∧ V.1 t 0 ≤ 1000 ∧ V.1 t 1 ≤ k + 1 ∧ V.1 t 2 ≤ β 4 t 6 ∧ V.1 t 5 ≤ k + 1 ∧ FO (V.2.1 t))
    (h3 : ∀ t, t < β 0 0 5 → 3 * D t + V.1 t 8 ≤ cy) (h4 : ∀ w, H.1 w ≤ k + 1) (h5 : ∀ w, w < β 0 0 4 → H.2.1 w ≤ 1) (hb : H.2.2.2.1 ≤ 2) : SI β FO k cy D (clV β lev task w k V (β 0 0 5)) (clH β lev w k H) := by
  have e7 : ∀ t f, f ≠ 0 → f ≠ 2 → f ≠ 5 → f ≠ 6 → (clV β lev task w k V (β 0 0 5)).1 t f = V.1 t f := fun t f a b c d => clV_f a b c d
  have es : sm (fun t => min 3 ((clV β lev task w k V (β 0 0 5)).1 t 7) + D t) (β 0 0 5) = sm (fun t => min 3 (V.1 t 7) + D t) (β 0 0 5) := sm_same (fun j hj => by rw [e7 j 7 (by decide) (by decide) (by decide) (by decide)])
  refine ⟨?_, fun t ht => ?_, fun t ht => ?_, fun j => ?_, fun j hj => h5 j hj, ?_, fun q => ?_⟩
  · rw [clH_b, es]
    show H.2.2.1.length ≤ _ + sm (fun w => H.2.1 w) (β 0 0 4) + _
    by_cases c : lev = 3
    · rw [if_pos c] at h1 ⊢; omega
    · rw [if_neg c] at h1 ⊢; omega
  · obtain ⟨a7, a0, a1, a2, a5, af⟩ := h2 t ht
    rw [clH_b, e7 t 7 (by decide) (by decide) (by decide) (by decide), e7 t 1 (by decide) (by decide) (by decide) (by decide)]
    refine ⟨?_, ?_, a1, ?_, ?_, af⟩
    · by_cases c : lev = 3
      · rw [if_pos c]; omega
      · rw [if_neg c]; omega
    · rcases clV_rs (β := β) (lev := lev) (task := task) (w := w) (k := k) (V := V) (n := β 0 0 5) t with e | e
      · rw [e]; exact a0
      · rw [e]; exact rst_le hg ht hk
    · rcases clV_rs (β := β) (lev := lev) (task := task) (w := w) (k := k) (V := V) (n := β 0 0 5) t with e | e
      · rw [e]; exact a2
      · rw [e]; exact Nat.zero_le _
    · rcases clV_rs (β := β) (lev := lev) (task := task) (w := w) (k := k) (V := V) (n := β 0 0 5) t with e | e
      · rw [e]; exact a5
      · rw [e]; exact Nat.zero_le _
  · rw [e7 t 8 (by decide) (by decide) (by decide) (by decide)]
    exact h3 t ht
  · show clK β lev w k H.1 (β 0 0 4) j ≤ _
    unfold clK
    by_cases c : j < β 0 0 4 ∧ dW β lev w j = true
    · rw [if_pos c]; exact Nat.le_refl _
    · rw [if_neg c]; exact h4 j
  · rw [clH_b]
    by_cases c : lev = 3
    · rw [if_pos c]; omega
    · rw [if_neg c]; omega
  · rw [clH_o] at q
    rw [clH_b]
    by_cases c : lev = 3
    · rw [if_pos c] at q; omega
    · rw [if_neg c]; exact hb
/-- all that a tick keeps; m, k, cy as above -/
def IV (β : Bw) (L : Lw) (FO FM : UInt32 → Prop) (FS : Nat → UInt64 → Prop) (m k cy : Nat) (s : Vw × Hw) : Prop :=
  (∃ D, SI β FO k cy D s.1 s.2) ∧ SJ β L FM FS m k s.1 ∧ s.2.2.2.2.2.2 ≤ 1 ∧ (s.2.2.2.2.2.2 ≠ 0 → ∀ t, t < β 0 0 5 → s.1.1 t 2 = 0 ∧ s.1.1 t 5 = 0) ∧ (s.2.2.2.2.2.1 = 0 → s.2.2.2.2.1 ≤ 2) ∧ s.2.2.2.2.2.1 ≤ k + 1
theorem hb_cl {β : Bw} {lev w k : Nat} {H : Hw} (h' : (H.2.2.2.2.1 = 0 → H.2.2.2.1 ≤ 2) ∧ H.2.2.2.2.1 ≤ k + 1) : ((clH β lev w k H).2.2.2.2.1 = 0 → (clH β lev w k H).2.2.2.1 ≤ 2) ∧ (clH β lev w k H).2.2.2.2.1 ≤ k + 1 := by
  obtain ⟨h, hk⟩ := h'
  show ((if lev = 3 then (H.2.2.2.1 + 1, if H.2.2.2.1 + 1 = 3 then k + 1 else H.2.2.2.2.1, 1) else H.2.2.2).2.1 = 0 → (if lev = 3 then (H.2.2.2.1 + 1, if H.2.2.2.1 + 1 = 3 then k + 1 else H.2.2.2.2.1, 1) else H.2.2.2).1 ≤ 2) ∧ (if lev = 3 then (H.2.2.2.1 + 1, if H.2.2.2.1 + 1 = 3 then k + 1 else H.2.2.2.2.1, 1) else H.2.2.2).2.1 ≤ k + 1
  by_cases c : lev = 3
  · rw [if_pos c]
    show ((if H.2.2.2.1 + 1 = 3 then k + 1 else H.2.2.2.2.1) = 0 → H.2.2.2.1 + 1 ≤ 2) ∧ (if H.2.2.2.1 + 1 = 3 then k + 1 else H.2.2.2.2.1) ≤ k + 1
    by_cases c2 : H.2.2.2.1 + 1 = 3
    · rw [if_pos c2]
      exact ⟨fun q => by omega, Nat.le_refl _⟩
    · rw [if_neg c2]
      exact ⟨fun q => by have := h q; omega, hk⟩
  · rw [if_neg c]
    exact ⟨h, hk⟩
theorem IV_fail {β : Bw} {L : Lw} {FO FM : UInt32 → Prop} {FS : Nat → UInt64 → Prop} {m k cy kind t : Nat} {s : Vw × Hw} (hg : GB β L) (hF : FH FO FM FS) (hk : k ≤ 200) (ht : t < β 0 0 5) (ho : s.2.2.2.2.2.2 = 0) (h : IV β L FO FM FS m k cy s) : IV β L FO FM FS m k cy (failS β k kind t s) := by
  obtain ⟨⟨D, h1⟩, h2, h3, h4, h5⟩ := h
  refine ⟨⟨D, SI_fail (V := s.1) (H := s.2) hg (fun x hx => (hF.1 x hx).2) h1 ht hk ho⟩, SJ_fail h2, fail_over h3, fun q t' ht' => ?_, hb_cl (H := adH s.2 (k, kind, t, flL β s.1 t)) h5⟩
  have q' : (clH β (flL β s.1 t) (β 4 t 0) k (adH s.2 (k, kind, t, flL β s.1 t))).2.2.2.2.2 ≠ 0 := q
  rw [clH_o] at q'
  by_cases c : flL β s.1 t = 3
  · have e : (failS β k kind t s).1.1 t' = rsF ((flV s.1 t).1 t') (rst β t' k) := by
      show (clV β (flL β s.1 t) (t + 1) (β 4 t 0) k (flV s.1 t) (β 0 0 5)).1 t' = _
      rw [c]
      exact clV_3 ht'
    rw [e]
    exact ⟨rfl, rfl⟩
  · rw [if_neg c] at q'
    exact absurd ho q'
/-- a watcher that did not look -/
def slH (H : Hw) (o : Nat) : Hw := (H.1, fun j => if j = o then 1 else H.2.1 j, H.2.2)
def fwL (H : Hw) (o : Nat) : Nat := if H.2.1 o = 0 then 2 else 3
def fwS (β : Bw) (k o : Nat) (s : Vw × Hw) : Vw × Hw := (clV β (fwL s.2 o) 0 o k s.1 (β 0 0 5), clH β (fwL s.2 o) o k (adH (slH s.2 o) (k, 6, o, fwL s.2 o)))
def dgS (β : Bw) (k : Nat) (lk : Nat → Nat) (s : Vw × Hw) : Vw × Hw := if s.2.2.2.2.2.2 = 0 ∧ 0 < β 0 0 4 ∧ lk 0 = 0 then (clV β 3 0 0 k s.1 (β 0 0 5), clH β 3 0 k (adH s.2 (k, 7, 0, 3))) else s
theorem IV_fw {β : Bw} {L : Lw} {FO FM : UInt32 → Prop} {FS : Nat → UInt64 → Prop} {m k cy o : Nat} {s : Vw × Hw} (hg : GB β L) (hk : k ≤ 200) (hoW : o < β 0 0 4) (ho : s.2.2.2.2.2.2 = 0) (h : IV β L FO FM FS m k cy s) : IV β L FO FM FS m k cy (fwS β k o s) := by
  obtain ⟨⟨D, h1⟩, h2, h3, h4, h5⟩ := h
  obtain ⟨i1, i2, i3, i4, i5, i6, i7⟩ := h1
  have hsm := sm_upd (f := fun w => s.2.2.1 w) (g := fun w => (slH s.2 o).2.1 w) hoW (fun j hj hne => if_neg hne)
  have e1 : (slH s.2 o).2.1 o = 1 := if_pos rfl
  refine ⟨⟨D, SI_cl hg hk ?_ i2 i3 i4 (fun w hw => ?_) (i7 ho)⟩, SJ_cl h2, ?_, fun q t ht => ?_, hb_cl (H := adH (slH s.2 o) (k, 6, o, fwL s.2 o)) h5⟩
  · show ((slH s.2 o).2.2.1 ++ [_]).length ≤ _ + sm (fun w => (slH s.2 o).2.1 w) (β 0 0 4) + s.2.2.2.2.1 + _
    rw [List.length_append]
    show s.2.2.2.1.length + 1 ≤ _
    have hsm' : sm (fun w => (slH s.2 o).2.1 w) (β 0 0 4) + s.2.2.1 o = sm (fun w => s.2.2.1 w) (β 0 0 4) + 1 := by
      rw [← e1]
      exact hsm
    unfold fwL
    by_cases c : s.2.2.1 o = 0
    · rw [if_pos c, if_neg (by decide)]
      omega
    · have := i5 o hoW
      rw [if_neg c, if_pos rfl]
      omega
  · show (if w = o then 1 else s.2.2.1 w) ≤ 1
    by_cases c : w = o
    · rw [if_pos c]; exact Nat.le_refl 1
    · rw [if_neg c]; exact i5 w hw
  · show (clH β (fwL s.2 o) o k (adH (slH s.2 o) (k, 6, o, fwL s.2 o))).2.2.2.2.2 ≤ 1
    rw [clH_o]
    by_cases c : fwL s.2 o = 3
    · rw [if_pos c]; exact Nat.le_refl 1
    · rw [if_neg c]; exact h3
  · have q' : (clH β (fwL s.2 o) o k (adH (slH s.2 o) (k, 6, o, fwL s.2 o))).2.2.2.2.2 ≠ 0 := q
    rw [clH_o] at q'
    by_cases c : fwL s.2 o = 3
    · have e : (fwS β k o s).1.1 t = rsF (s.1.1 t) (rst β t k) := by
        show (clV β (fwL s.2 o) 0 o k s.1 (β 0 0 5)).1 t = _
        rw [c]
        exact clV_3 ht
      rw [e]
      exact ⟨rfl, rfl⟩
    · rw [if_neg c] at q'
      exact absurd ho q'
theorem IV_dg {β : Bw} {L : Lw} {FO FM : UInt32 → Prop} {FS : Nat → UInt64 → Prop} {m k cy : Nat} {lk : Nat → Nat} {s : Vw × Hw} (hg : GB β L) (hk : k ≤ 200) (h : IV β L FO FM FS m k cy s) : IV β L FO FM FS m k cy (dgS β k lk s) := by
  unfold dgS
  by_cases c : s.2.2.2.2.2.2 = 0 ∧ 0 < β 0 0 4 ∧ lk 0 = 0
  case neg =>
    rw [if_neg c]
    exact h
  rw [if_pos c]
  obtain ⟨⟨D, h1⟩, h2, h3, h4, h5⟩ := h
  obtain ⟨i1, i2, i3, i4, i5, i6, i7⟩ := h1
  refine ⟨⟨D, SI_cl hg hk ?_ i2 i3 i4 i5 (i7 c.1)⟩, SJ_cl h2, ?_, fun q t ht => ?_, hb_cl (H := adH s.2 (k, 7, 0, 3)) h5⟩
  · show (s.2.2.2.1 ++ [_]).length ≤ _ + sm (fun w => s.2.2.1 w) (β 0 0 4) + s.2.2.2.2.1 + _
    rw [List.length_append, if_pos rfl]
    show s.2.2.2.1.length + 1 ≤ _
    omega
  · rw [clH_o, if_pos rfl]
    exact Nat.le_refl 1
  · show (clV β 3 0 0 k s.1 (β 0 0 5)).1 t 2 = 0 ∧ (clV β 3 0 0 k s.1 (β 0 0 5)).1 t 5 = 0
    rw [clV_3 ht]
    exact ⟨rfl, rfl⟩
/-! the looks -/
def misB (β : Bw) (V : Vw) (k t w : Nat) : Bool := decide (β 4 t 0 = w) && decide (V.1 t 0 ≤ k + 1 - β 0 0 1) && decide (V.1 t 10 < β 4 t 4 ∨ β 4 t 5 < V.1 t 10)
def ltT (β : Bw) (k w n : Nat) (s : Vw × Hw) : Vw × Hw := if s.2.2.2.2.2.2 = 0 ∧ misB β s.1 k n w = true then failS β k 5 n s else s
def ltS (β : Bw) (k w : Nat) (s : Vw × Hw) : Nat → Vw × Hw
  | 0 => s
  | n + 1 => ltT β k w n (ltS β k w s n)
def lwT (β : Bw) (k w : Nat) (lk : Nat → Nat) (o : Nat) (s : Vw × Hw) : Vw × Hw := if s.2.2.2.2.2.2 = 0 ∧ β 1 0 o = w + 1 ∧ lk o = 0 then fwS β k o s else s
def lwS (β : Bw) (k w : Nat) (lk : Nat → Nat) (s : Vw × Hw) : Nat → Vw × Hw
  | 0 => s
  | n + 1 => lwT β k w lk n (lwS β k w lk s n)
def lkU (lk : Nat → Nat) (w : Nat) : Nat → Nat := fun j => if j = w then 1 else lk j
def loS (β : Bw) (L : Lw) (k w : Nat) (p : (Vw × Hw) × (Nat → Nat)) : (Vw × Hw) × (Nat → Nat) :=
  if p.1.2.2.2.2.2.2 ≠ 0 then p else if slp L (nI w) (nI k) (nI (p.1.2.1 w) + (-1)) = true then p else (lwS β k w (lkU p.2 w) (ltS β k w p.1 (β 0 0 5)) (β 0 0 4), lkU p.2 w)
/-- the greatest n watchers have been asked -/
def loA (β : Bw) (L : Lw) (k : Nat) (s : Vw × Hw) : Nat → (Vw × Hw) × (Nat → Nat)
  | 0 => (s, fun _ => 0)
  | n + 1 => loS β L k (β 0 0 4 - 1 - n) (loA β L k s n)
theorem lt_over {β : Bw} {k w n : Nat} {s : Vw × Hw} (h : (ltS β k w s n).2.2.2.2.2.2 ≠ 0) : ∀ d, ltS β k w s (n + d) = ltS β k w s n := by
  intro d
  induction d with
  | zero => rfl
  | succ d ih =>
    show ltT β k w (n + d) (ltS β k w s (n + d)) = _
    rw [ih]
    exact if_neg (fun q => h q.1)
theorem lw_over {β : Bw} {k w n : Nat} {lk : Nat → Nat} {s : Vw × Hw} (h : (lwS β k w lk s n).2.2.2.2.2.2 ≠ 0) : ∀ d, lwS β k w lk s (n + d) = lwS β k w lk s n := by
  intro d
  induction d with
  | zero => rfl
  | succ d ih =>
    show lwT β k w lk (n + d) (lwS β k w lk s (n + d)) = _
    rw [ih]
    exact if_neg (fun q => h q.1)
theorem lo_over {β : Bw} {L : Lw} {k n : Nat} {s : Vw × Hw} (h : (loA β L k s n).1.2.2.2.2.2.2 ≠ 0) : ∀ d, loA β L k s (n + d) = loA β L k s n := by
  intro d
  induction d with
  | zero => rfl
  | succ d ih =>
    show loS β L k _ (loA β L k s (n + d)) = _
    rw [ih]
    exact if_pos h
theorem IV_lt {β : Bw} {L : Lw} {FO FM : UInt32 → Prop} {FS : Nat → UInt64 → Prop} {m k cy w : Nat} {s : Vw × Hw} (hg : GB β L) (hF : FH FO FM FS) (hk : k ≤ 200) (h : IV β L FO FM FS m k cy s) : ∀ n, n ≤ β 0 0 5 → IV β L FO FM FS m k cy (ltS β k w s n) := by
  intro n
  induction n with
  | zero => intro _; exact h
  | succ n ih =>
    intro hn
    have := ih (by omega)
    show IV β L FO FM FS m k cy (ltT β k w n (ltS β k w s n))
    unfold ltT
    by_cases c : (ltS β k w s n).2.2.2.2.2.2 = 0 ∧ misB β (ltS β k w s n).1 k n w = true
    · rw [if_pos c]
      exact IV_fail hg hF hk (by omega) c.1 this
    · rw [if_neg c]
      exact this
theorem IV_lw {β : Bw} {L : Lw} {FO FM : UInt32 → Prop} {FS : Nat → UInt64 → Prop} {m k cy w : Nat} {lk : Nat → Nat} {s : Vw × Hw} (hg : GB β L) (hk : k ≤ 200) (h : IV β L FO FM FS m k cy s) : ∀ n, n ≤ β 0 0 4 → IV β L FO FM FS m k cy (lwS β k w lk s n) := by
  intro n
  induction n with
  | zero => intro _; exact h
  | succ n ih =>
    intro hn
    have := ih (by omega)
    show IV β L FO FM FS m k cy (lwT β k w lk n (lwS β k w lk s n))
    unfold lwT
    by_cases c : (lwS β k w lk s n).2.2.2.2.2.2 = 0 ∧ β 1 0 n = w + 1 ∧ lk n = 0
    · rw [if_pos c]
      exact IV_fw hg hk (by omega) c.1 this
    · rw [if_neg c]
      exact this
theorem IV_lo {β : Bw} {L : Lw} {FO FM : UInt32 → Prop} {FS : Nat → UInt64 → Prop} {m k cy : Nat} {s : Vw × Hw} (hg : GB β L) (hF : FH FO FM FS) (hk : k ≤ 200) (h : IV β L FO FM FS m k cy s) : ∀ n, IV β L FO FM FS m k cy (loA β L k s n).1 := by
  intro n
  induction n with
  | zero => exact h
  | succ n ih =>
    show IV β L FO FM FS m k cy (loS β L k _ (loA β L k s n)).1
    unfold loS
    by_cases c : (loA β L k s n).1.2.2.2.2.2.2 ≠ 0
    · rw [if_pos c]; exact ih
    rw [if_neg c]
    by_cases c2 : slp L (nI (β 0 0 4 - 1 - n)) (nI k) (nI ((loA β L k s n).1.2.1 (β 0 0 4 - 1 - n)) + (-1)) = true
    · rw [if_pos c2]; exact ih
    · rw [if_neg c2]
      exact IV_lw hg hk (IV_lt hg hF hk ih _ (Nat.le_refl _)) _ (Nat.le_refl _)
/-- the cycle's end -/
def ecG (F : Nat → Nat) : Nat → Nat := if F 9 = 0 ∧ F 7 ≠ 0 then (if F 8 + 1 = 3 then (fun f => if f = 7 then F 7 - 1 else if f = 8 then 0 else F f) else (fun f => if f = 8 then F 8 + 1 else F f)) else F
def ecV (V : Vw) (n : Nat) : Vw := (fun t => if t < n then ecG (V.1 t) else V.1 t, V.2)
def ecS (β : Bw) (s : Vw × Hw) : Vw × Hw := if s.2.2.2.2.2.2 = 0 then (ecV s.1 (β 0 0 5), s.2) else s
theorem ecG_f {F : Nat → Nat} {f : Nat} (h7 : f ≠ 7) (h8 : f ≠ 8) : ecG F f = F f := by
  unfold ecG
  by_cases c : F 9 = 0 ∧ F 7 ≠ 0
  · rw [if_pos c]
    by_cases c2 : F 8 + 1 = 3
    · rw [if_pos c2]
      show (if f = 7 then _ else if f = 8 then 0 else F f) = _
      rw [if_neg h7, if_neg h8]
    · rw [if_neg c2]
      exact if_neg h8
  · rw [if_neg c]
theorem ecV_f {V : Vw} {n t f : Nat} (h7 : f ≠ 7) (h8 : f ≠ 8) : (ecV V n).1 t f = V.1 t f := by
  show (if t < n then ecG (V.1 t) else V.1 t) f = _
  by_cases c : t < n
  · rw [if_pos c, ecG_f h7 h8]
  · rw [if_neg c]
theorem IV_ec {β : Bw} {L : Lw} {FO FM : UInt32 → Prop} {FS : Nat → UInt64 → Prop} {m k cy : Nat} {s : Vw × Hw} (h : IV β L FO FM FS m k cy s) : IV β L FO FM FS m k (cy + 1) (ecS β s) := by
  obtain ⟨⟨D, h1⟩, h2, h3, h4, h5⟩ := h
  obtain ⟨i1, i2, i3, i4, i5, i6, i7⟩ := h1
  unfold ecS
  by_cases c : s.2.2.2.2.2.2 = 0
  case neg =>
    rw [if_neg c]
    exact ⟨⟨D, i1, i2, fun t ht => by have := i3 t ht; omega, i4, i5, i6, i7⟩, h2, h3, h4, h5⟩
  rw [if_pos c]
  have e := fun t f a b => ecV_f (V := s.1) (n := β 0 0 5) (t := t) (f := f) a b
  have hfall : ∀ t, t < β 0 0 5 → ∃ d, (ecV s.1 (β 0 0 5)).1 t 7 + d = s.1.1 t 7 ∧ 3 * d + (ecV s.1 (β 0 0 5)).1 t 8 ≤ s.1.1 t 8 + 1 ∧ min 3 (s.1.1 t 7) ≤ min 3 ((ecV s.1 (β 0 0 5)).1 t 7) + d ∧ (ecV s.1 (β 0 0 5)).1 t 8 ≤ 2 := by
    intro t ht
    have j8 := (h2 t ht).2.2.2.2.2.2.2.2.2.1
    have e0 : (ecV s.1 (β 0 0 5)).1 t = ecG (s.1.1 t) := if_pos ht
    rw [e0]
    generalize s.1.1 t = F at j8 ⊢
    unfold ecG
    by_cases c1 : F 9 = 0 ∧ F 7 ≠ 0
    · rw [if_pos c1]
      by_cases c2 : F 8 + 1 = 3
      · rw [if_pos c2]
        refine ⟨1, ?_, ?_, ?_, ?_⟩
        · show F 7 - 1 + 1 = F 7; omega
        · show 3 * 1 + 0 ≤ F 8 + 1; omega
        · show min 3 (F 7) ≤ min 3 (F 7 - 1) + 1; omega
        · show 0 ≤ 2; omega
      · rw [if_neg c2]
        refine ⟨0, rfl, ?_, ?_, ?_⟩
        · show 3 * 0 + (F 8 + 1) ≤ F 8 + 1; omega
        · show min 3 (F 7) ≤ min 3 (F 7) + 0; omega
        · show F 8 + 1 ≤ 2; omega
    · rw [if_neg c1]
      exact ⟨0, rfl, by omega, by omega, j8⟩
  refine ⟨⟨fun t => D t + (s.1.1 t 7 - (ecV s.1 (β 0 0 5)).1 t 7), ?_, fun t ht => ?_, fun t ht => ?_, i4, i5, i6, i7⟩, fun t ht => ?_, h3, fun q => absurd c q, h5⟩
  · refine Nat.le_trans i1 ?_
    have : sm (fun t => min 3 (s.1.1 t 7) + D t) (β 0 0 5) ≤ sm (fun t => min 3 ((ecV s.1 (β 0 0 5)).1 t 7) + (D t + (s.1.1 t 7 - (ecV s.1 (β 0 0 5)).1 t 7))) (β 0 0 5) := by
      have hgen : ∀ n, n ≤ β 0 0 5 → sm (fun t => min 3 (s.1.1 t 7) + D t) n ≤ sm (fun t => min 3 ((ecV s.1 (β 0 0 5)).1 t 7) + (D t + (s.1.1 t 7 - (ecV s.1 (β 0 0 5)).1 t 7))) n := by
        intro n
        induction n with
        | zero => intro _; exact Nat.le_refl _
        | succ n ih =>
          intro hn
          obtain ⟨d, d1, d2, d3, d4⟩ := hfall n (by omega)
          have := ih (by omega)
          show sm _ n + (min 3 (s.1.1 n 7) + D n) ≤ sm _ n + (min 3 ((ecV s.1 (β 0 0 5)).1 n 7) + (D n + (s.1.1 n 7 - (ecV s.1 (β 0 0 5)).1 n 7)))
          omega
      exact hgen _ (Nat.le_refl _)
    show _ ≤ sm (fun t => min 3 ((ecV s.1 (β 0 0 5)).1 t 7) + (D t + (s.1.1 t 7 - (ecV s.1 (β 0 0 5)).1 t 7))) (β 0 0 5) + sm (fun w => s.2.2.1 w) (β 0 0 4) + s.2.2.2.2.1
    omega
  · obtain ⟨a7, a0, a1, a2, a5, af⟩ := i2 t ht
    obtain ⟨d, d1, d2, d3, d4⟩ := hfall t ht
    show (ecV s.1 (β 0 0 5)).1 t 7 ≤ _ ∧ (ecV s.1 (β 0 0 5)).1 t 0 ≤ _ ∧ (ecV s.1 (β 0 0 5)).1 t 1 ≤ _ ∧ (ecV s.1 (β 0 0 5)).1 t 2 ≤ _ ∧ (ecV s.1 (β 0 0 5)).1 t 5 ≤ _ ∧ _
    rw [e t 0 (by decide) (by decide), e t 1 (by decide) (by decide), e t 2 (by decide) (by decide), e t 5 (by decide) (by decide)]
    exact ⟨by show (ecV s.1 (β 0 0 5)).1 t 7 ≤ 3 + s.2.2.2.2.1; omega, a0, a1, a2, a5, af⟩
  · obtain ⟨d, d1, d2, d3, d4⟩ := hfall t ht
    have := i3 t ht
    show 3 * (D t + (s.1.1 t 7 - (ecV s.1 (β 0 0 5)).1 t 7)) + (ecV s.1 (β 0 0 5)).1 t 8 ≤ cy + 1
    omega
  · obtain ⟨j12, j10, j14, j3, j6, jm, js, j5, j2, j8⟩ := h2 t ht
    obtain ⟨d, d1, d2, d3, d4⟩ := hfall t ht
    have ec : chV L (ecV s.1 (β 0 0 5)) t = chV L s.1 t := by
      unfold chV
      rw [e t 1 (by decide) (by decide), e t 2 (by decide) (by decide)]
    show (ecV s.1 (β 0 0 5)).1 t 12 ≤ m ∧ _
    rw [ec, e t 12 (by decide) (by decide), e t 10 (by decide) (by decide), e t 14 (by decide) (by decide), e t 3 (by decide) (by decide), e t 6 (by decide) (by decide), e t 5 (by decide) (by decide), e t 0 (by decide) (by decide), e t 2 (by decide) (by decide), e t 1 (by decide) (by decide), e t 9 (by decide) (by decide)]
    exact ⟨j12, j10, j14, j3, j6, jm, js, j5, j2, d4, j8.2⟩
