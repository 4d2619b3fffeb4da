/-! THE RECORDS: a tick adds its own at the end -/
def GR (k : Nat) (r : Nat × Nat × Nat × Nat) : Prop := r.1 = k ∧ 1 ≤ r.2.1 ∧ r.2.1 ≤ 7 ∧ (r.2.1 = 7 → r.2.2.1 = 0) ∧ r.2.2.1 < 5 ∧ r.2.2.2 ≤ 3
def AR (k : Nat) (s s' : Vw × Hw) : Prop := ∃ X, s'.2.2.2.1 = s.2.2.2.1 ++ X ∧ ∀ r ∈ X, GR k r
theorem AR.rfl {k : Nat} {s : Vw × Hw} : AR k s s := ⟨[], by rw [List.append_nil], fun r hr => absurd hr List.not_mem_nil⟩
theorem AR.trans {k : Nat} {s s1 s2 : Vw × Hw} (h : AR k s s1) (h2 : AR k s1 s2) : AR k s s2 := by
  obtain ⟨X, e, hX⟩ := h
  obtain ⟨Y, e2, hY⟩ := h2
  refine ⟨X ++ Y, by rw [e2, e, List.append_assoc], fun r hr => ?_⟩
  rcases List.mem_append.mp hr with h | h
  · exact hX r h
  · exact hY r h
theorem ar_one {k : Nat} {s s' : Vw × Hw} {r : Nat × Nat × Nat × Nat} (e : s'.2.2.2.1 = s.2.2.2.1 ++ [r]) (h : GR k r) : AR k s s' := ⟨[r], e, fun q hq => by rw [List.mem_singleton.mp hq]; exact h⟩
theorem ar_fail {β : Bw} {k kind t : Nat} {s : Vw × Hw} (hk1 : 1 ≤ kind) (hk : kind ≤ 6) (ht : t < 5) : AR k s (failS β k kind t s) := ar_one (r := (k, kind, t, flL β s.1 t)) rfl ⟨rfl, hk1, Nat.le_succ_of_le hk, fun q => by have q' : kind = 7 := q; omega, ht, Nat.min_le_left _ _⟩
theorem ar_fw {β : Bw} {k o : Nat} {s : Vw × Hw} (ho : o < 5) : AR k s (fwS β k o s) := ar_one (r := (k, 6, o, fwL s.2 o)) rfl ⟨rfl, by show 1 ≤ 6; omega, by show 6 ≤ 7; omega, fun q => by have q' : 6 = 7 := q; omega, ho, by show fwL s.2 o ≤ 3; rcases fwL_le s.2 o with q | q <;> omega⟩
theorem ar_dg {β : Bw} {k : Nat} {lk : Nat → Nat} {s : Vw × Hw} : AR k s (dgS β k lk s) := by
  unfold dgS
  by_cases c : s.2.2.2.2.2.2 = 0 ∧ 0 < β 0 0 4 ∧ lk 0 = 0
  · rw [if_pos c]
    exact ar_one (r := (k, 7, 0, 3)) rfl ⟨rfl, by show 1 ≤ 7; omega, Nat.le_refl 7, fun _ => rfl, by show 0 < 5; omega, Nat.le_refl 3⟩
  · rw [if_neg c]
    exact AR.rfl
theorem ar_lt {β : Bw} {k w : Nat} {s : Vw × Hw} : ∀ n, n ≤ 5 → AR k s (ltS β k w s n) := by
  intro n
  induction n with
  | zero => intro _; exact AR.rfl
  | succ n ih =>
    intro hn
    refine (ih (by omega)).trans ?_
    show AR k _ (ltT β k w n (ltS β k w s n))
    unfold ltT
    by_cases c : (ltS β k w s n).2.2.2.2.2.2 = 0 ∧ misB β (ltS β k w s n).1 k n w = true
    · rw [if_pos c]; exact ar_fail (by omega) (by omega) (by omega)
    · rw [if_neg c]; exact AR.rfl
theorem ar_lw {β : Bw} {k w : Nat} {lk : Nat → Nat} {s : Vw × Hw} : ∀ n, n ≤ 5 → AR k s (lwS β k w lk s n) := by
  intro n
  induction n with
  | zero => intro _; exact AR.rfl
  | succ n ih =>
    intro hn
    refine (ih (by omega)).trans ?_
    show AR k _ (lwT β k w lk n (lwS β k w lk s n))
    unfold lwT
    by_cases c : (lwS β k w lk s n).2.2.2.2.2.2 = 0 ∧ β 1 0 n = w + 1 ∧ lk n = 0
    · rw [if_pos c]; exact ar_fw (by omega)
    · rw [if_neg c]; exact AR.rfl
theorem ar_lo {β : Bw} {L : Lw} {k : Nat} {s : Vw × Hw} (hg : GB β L) : ∀ n, AR k s (loA β L k s n).1 := by
  have h5 := hg.1.2.2.2.2
  have h3 := hg.1.2.2.2.1
  intro n
  induction n with
  | zero => exact AR.rfl
  | succ n ih =>
    refine ih.trans ?_
    show AR k _ (loS β L k (β 0 0 4 - 1 - n) (loA β L k s n)).1
    unfold loS
    by_cases c : (loA β L k s n).1.2.2.2.2.2.2 ≠ 0
    · rw [if_pos c]; exact AR.rfl
    rw [if_neg c]
    by_cases c2 : slp L (nI (β 0 0 4 - 1 - n)) (nI k) (nI ((loA β L k s n).1.2.1 (β 0 0 4 - 1 - n)) + (-1)) = true
    · rw [if_pos c2]; exact AR.rfl
    · rw [if_neg c2]
      exact (ar_lt _ h5).trans (ar_lw _ (by omega))
theorem ar_cy {β : Bw} {L : Lw} {k : Nat} {s : Vw × Hw} (hg : GB β L) : AR k s (cyS β L k s) := by
  unfold cyS
  refine ((ar_lo hg (k := k) (s := s) (β 0 0 4)).trans (ar_dg (β := β) (k := k) (lk := (loA β L k s (β 0 0 4)).2))).trans ?_
  generalize dgS β k (loA β L k s (β 0 0 4)).2 (loA β L k s (β 0 0 4)).1 = s1
  unfold ecS
  by_cases c : s1.2.2.2.2.2.2 = 0
  · rw [if_pos c]
    exact ⟨[], (List.append_nil _).symm, fun r hr => absurd hr List.not_mem_nil⟩
  · rw [if_neg c]
    exact AR.rfl
theorem ar_la {β : Bw} {k : Nat} {s : Vw × Hw} : ∀ n, n ≤ 5 → AR k s (laS β k s n) := by
  intro n
  induction n with
  | zero => intro _; exact AR.rfl
  | succ n ih =>
    intro hn
    refine (ih (by omega)).trans ?_
    show AR k _ (laT β k n (laS β k s n))
    unfold laT
    by_cases c : (laS β k s n).2.2.2.2.2.2 = 0 ∧ (laS β k s n).1.1 n 0 ≤ k ∧ β 4 n 3 ≤ gpN (laS β k s n).1 n k
    · rw [if_pos c]; exact ar_fail (by omega) (by omega) (by omega)
    · rw [if_neg c]; exact AR.rfl
theorem kk_le {β : Bw} {L : Lw} {k t cut : Nat} {V : Vw} : kkN β L k t cut V ≤ 4 := by
  unfold kkN
  by_cases c0 : cut ≠ 0
  · rw [if_pos c0]; omega
  rw [if_neg c0]
  by_cases c1 : chg L (nI t) (nI (V.1 t 1 - 1)) (-1) = 4
  · rw [if_pos c1]; omega
  rw [if_neg c1]
  by_cases c2 : V.1 t 5 ≠ 0 ∧ gpN V t k < β 4 t 2
  · rw [if_pos c2]; omega
  · rw [if_neg c2]; omega
theorem ar_wk {β : Bw} {L : Lw} {k t : Nat} {s : Vw × Hw} (ht : t < 5) : AR k s (wkS β L k t s) := by
  unfold wkS
  by_cases c0 : wkC β L s.1 t = 0
  · rw [if_pos c0]
    exact ⟨[], (List.append_nil _).symm, fun r hr => absurd hr List.not_mem_nil⟩
  rw [if_neg c0]
  by_cases c1 : wkC β L s.1 t = 1
  · rw [if_pos c1]
    exact ⟨[], (List.append_nil _).symm, fun r hr => absurd hr List.not_mem_nil⟩
  rw [if_neg c1]
  by_cases ck : kkN β L k t (fol β t (s.1.1 t 2 - 1) (s.1.1 t 1 - 1)) s.1 = 0
  · rw [if_pos ck]
    exact ⟨[], (List.append_nil _).symm, fun r hr => absurd hr List.not_mem_nil⟩
  · rw [if_neg ck]
    have := kk_le (β := β) (L := L) (k := k) (t := t) (cut := fol β t (s.1.1 t 2 - 1) (s.1.1 t 1 - 1)) (V := s.1)
    obtain ⟨X, e, hX⟩ := ar_fail (β := β) (k := k) (kind := kkN β L k t (fol β t (s.1.1 t 2 - 1) (s.1.1 t 1 - 1)) s.1) (t := t) (s := (unV s.1 t, s.2)) (by omega) (by omega) ht
    exact ⟨X, e, hX⟩
theorem ar_tk {β : Bw} {L : Lw} {k : Nat} {s : Vw × Hw} (hg : GB β L) : AR k s (tkS β L k s) := by
  have h5 := hg.1.2.2.2.2
  have h0 : AR k s (beS β k s) := ⟨[], (List.append_nil _).symm, fun r hr => absurd hr List.not_mem_nil⟩
  have h1 : AR k s (tk1 β L k s) := by
    unfold tk1
    by_cases c : tkO β L k s = 0
    · rw [if_pos c]; exact h0
    · rw [if_neg c]
      have := (tkO_wB c).1
      exact h0.trans (ar_wk (by omega))
  have h2 : AR k s (tk2 β L k s) := h1.trans (ar_la _ h5)
  unfold tkS
  by_cases c : (k + 1) % β 0 0 1 = 0
  · rw [if_pos c]; exact h2.trans (ar_cy hg)
  · rw [if_neg c]; exact h2
abbrev rcs (β : Bw) (L : Lw) (k : Nat) : List (Nat × Nat × Nat × Nat) := (rn β L k).1.2.2.2.1
theorem rcs_s {β : Bw} {L : Lw} (hg : GB β L) (k : Nat) : ∃ X, rcs β L (k + 1) = rcs β L k ++ X ∧ ∀ r ∈ X, GR k r := by
  show ∃ X, (stR β L k (rn β L k)).1.2.2.2.1 = _ ∧ _
  unfold stR
  by_cases c : (rn β L k).1.2.2.2.2.2.1 ≠ 0
  · rw [if_pos c]
    exact ⟨[], (List.append_nil _).symm, fun r hr => absurd hr List.not_mem_nil⟩
  · rw [if_neg c]
    exact ar_tk hg
/-- the records of k ticks are those of any more ticks that lie ahead of k -/
theorem rcs_d {β : Bw} {L : Lw} (hg : GB β L) (k : Nat) : ∀ d, ∃ X, rcs β L (k + d) = rcs β L k ++ X ∧ ∀ r ∈ X, k ≤ r.1 ∧ GR r.1 r ∧ r.1 < k + d := by
  intro d
  induction d with
  | zero => exact ⟨[], (List.append_nil _).symm, fun r hr => absurd hr List.not_mem_nil⟩
  | succ d ih =>
    obtain ⟨X, e, hX⟩ := ih
    obtain ⟨Y, e2, hY⟩ := rcs_s hg (k + d)
    refine ⟨X ++ Y, by rw [show k + (d + 1) = k + d + 1 by omega, e2, e, List.append_assoc], fun r hr => ?_⟩
    rcases List.mem_append.mp hr with h | h
    · obtain ⟨a, b, c⟩ := hX r h
      exact ⟨a, b, by omega⟩
    · obtain ⟨g1, g2⟩ := hY r h
      refine ⟨by omega, ⟨rfl, g2⟩, by omega⟩
theorem rcs_g {β : Bw} {L : Lw} (hg : GB β L) (k : Nat) : ∀ r ∈ rcs β L k, GR r.1 r ∧ r.1 < k := by
  obtain ⟨X, e, hX⟩ := rcs_d hg 0 k
  rw [Nat.zero_add] at e
  intro r hr
  rw [e] at hr
  rcases List.mem_append.mp hr with h | h
  · exact absurd h List.not_mem_nil
  · obtain ⟨a, b, c⟩ := hX r h
    exact ⟨b, by omega⟩
