theorem tb_c1 {w : Cond} (i : Nat) (h : tables_1_1[i]? = some w) : w ∈ lw_tbl := List.mem_append_right _ (List.mem_append_left _ (List.mem_of_getElem? h))
theorem tb_c2 {w : Cond} (i : Nat) (h : tables_1_2[i]? = some w) : w ∈ lw_tbl := List.mem_append_right _ (List.mem_append_right _ (List.mem_append_left _ (List.mem_of_getElem? h)))
theorem tb_c3 {w : Cond} (i : Nat) (h : tables_1_3[i]? = some w) : w ∈ lw_tbl := List.mem_append_right _ (List.mem_append_right _ (List.mem_append_right _ (List.mem_append_left _ (List.mem_of_getElem? h))))
theorem tb_c4 {w : Cond} (i : Nat) (h : tables_1_4[i]? = some w) : w ∈ lw_tbl := List.mem_append_right _ (List.mem_append_right _ (List.mem_append_right _ (List.mem_append_right _ (List.mem_append_left _ (List.mem_of_getElem? h)))))
theorem tb_c5 {w : Cond} (i : Nat) (h : tables_1_5[i]? = some w) : w ∈ lw_tbl := List.mem_append_right _ (List.mem_append_right _ (List.mem_append_right _ (List.mem_append_right _ (List.mem_append_right _ (List.mem_append_left _ (List.mem_of_getElem? h))))))
theorem tb_c6 {w : Cond} (i : Nat) (h : tables_1_6[i]? = some w) : w ∈ lw_tbl := List.mem_append_right _ (List.mem_append_right _ (List.mem_append_right _ (List.mem_append_right _ (List.mem_append_right _ (List.mem_append_right _ (List.mem_append_left _ (List.mem_of_getElem? h)))))))
theorem tb_c7 {w : Cond} (i : Nat) (h : tables_1_7[i]? = some w) : w ∈ lw_tbl := List.mem_append_right _ (List.mem_append_right _ (List.mem_append_right _ (List.mem_append_right _ (List.mem_append_right _ (List.mem_append_right _ (List.mem_append_right _ (List.mem_append_left _ (List.mem_of_getElem? h))))))))
theorem tb_c8 {w : Cond} (i : Nat) (h : tables_1_8[i]? = some w) : w ∈ lw_tbl := List.mem_append_right _ (List.mem_append_right _ (List.mem_append_right _ (List.mem_append_right _ (List.mem_append_right _ (List.mem_append_right _ (List.mem_append_right _ (List.mem_append_right _ (List.mem_append_left _ (List.mem_of_getElem? h)))))))))
theorem tb_c9 {w : Cond} (i : Nat) (h : tables_1_9[i]? = some w) : w ∈ lw_tbl := List.mem_append_right _ (List.mem_append_right _ (List.mem_append_right _ (List.mem_append_right _ (List.mem_append_right _ (List.mem_append_right _ (List.mem_append_right _ (List.mem_append_right _ (List.mem_append_right _ (List.mem_of_getElem? h)))))))))
def tmS (i : Nat) : Term := match i with
  | 0 => Term.string RX1 169
  | 1 => Term.string RX1 66
  | 2 => Term.string RX1 152
  | 3 => Term.string RX1 121
  | 4 => Term.string RX1 100
  | 5 => Term.string RX1 188
  | 6 => Term.string RX1 154
  | 7 => Term.string RX1 123
  | 8 => Term.string RX1 156
  | 9 => Term.string RX1 88
  | 10 => Term.string RX1 150
  | 11 => Term.string RX1 148
  | 12 => Term.string RX1 137
  | 13 => Term.string RX1 104
  | 14 => Term.string RX1 110
  | 15 => Term.string RX1 106
  | 16 => Term.string RX1 102
  | 17 => Term.string RX1 83
  | 18 => Term.string RX1 183
  | 19 => Term.string RX1 115
  | 20 => Term.string RX1 190
  | 21 => Term.string RX1 142
  | 22 => Term.string RX1 78
  | 23 => Term.string RX1 108
  | _ => Term.string RX1 0
abbrev stFl : List Cond := flatC (Jvm.Cond.and given_1 narrow_1)
theorem st_ex : ∀ i, i < 24 → Cond.exactly (tmS i) "java/lang/String" ∈ stFl := by decide +kernel
theorem st_co : ∀ i, i < 24 → Cond.eq (.field (tmS i) "java/lang/String" "coder" "B") (.int 0) ∈ stFl := by decide +kernel
theorem st_ar : ∀ i, i < 24 → Cond.arrayOf (.field (tmS i) "java/lang/String" "value" "[B") .byte ∈ stFl := by decide +kernel
theorem st_le : ∀ i, i < 24 → Cond.eq (.length (.field (tmS i) "java/lang/String" "value" "[B")) (.int (Int32.ofNat (lenStW i))) ∈ stFl := by decide +kernel
theorem st_el : ∀ i, i < 24 → ∀ j, j < lenStW i → Cond.eq (.elem (.field (tmS i) "java/lang/String" "value" "[B") (.int (Int32.ofNat j))) (.int (chStW i j)) ∈ stFl := by decide +kernel
theorem st_eqv : ∀ q ∈ tabStW, Term.string q.1 q.2.1 = tmS q.2.2.2 ∨ (Cond.eq (tmS q.2.2.2) (Term.string q.1 q.2.1) ∈ stFl ∧ Cond.exactly (Term.string q.1 q.2.1) "java/lang/String" ∈ stFl) := by decide +kernel
theorem st_i24 : ∀ q ∈ tabStW, q.2.2.2 < 24 := by decide +kernel
theorem st_str : ∀ q ∈ tabStW, Cond.stringRef q.1 q.2.1 q.2.2.1 ∈ lw_tbl := (List.forall_mem_cons.mpr ⟨tb_c3 125 (by decide +kernel), (List.forall_mem_cons.mpr ⟨tb_c3 126 (by decide +kernel), (List.forall_mem_cons.mpr ⟨tb_c3 127 (by decide +kernel), (List.forall_mem_cons.mpr ⟨tb_c3 128 (by decide +kernel), (List.forall_mem_cons.mpr ⟨tb_c3 129 (by decide +kernel), (List.forall_mem_cons.mpr ⟨tb_c3 130 (by decide +kernel), (List.forall_mem_cons.mpr ⟨tb_c3 59 (by decide +kernel), (List.forall_mem_cons.mpr ⟨tb_c3 72 (by decide +kernel), (List.forall_mem_cons.mpr ⟨tb_c3 73 (by decide +kernel), (List.forall_mem_cons.mpr ⟨tb_c3 83 (by decide +kernel), (List.forall_mem_cons.mpr ⟨tb_c3 84 (by decide +kernel), (List.forall_mem_cons.mpr ⟨tb_c3 94 (by decide +kernel), (List.forall_mem_cons.mpr ⟨tb_c3 95 (by decide +kernel), (List.forall_mem_cons.mpr ⟨tb_c3 96 (by decide +kernel), (List.forall_mem_cons.mpr ⟨tb_c3 97 (by decide +kernel), (List.forall_mem_cons.mpr ⟨tb_c3 98 (by decide +kernel), (List.forall_mem_cons.mpr ⟨tb_c3 108 (by decide +kernel), (List.forall_mem_cons.mpr ⟨tb_c3 135 (by decide +kernel), (List.forall_mem_cons.mpr ⟨tb_c3 141 (by decide +kernel), (List.forall_mem_cons.mpr ⟨tb_c3 142 (by decide +kernel), (List.forall_mem_cons.mpr ⟨tb_c2 237 (by decide +kernel), (List.forall_mem_cons.mpr ⟨tb_c3 78 (by decide +kernel), (List.forall_mem_cons.mpr ⟨tb_c3 89 (by decide +kernel), (List.forall_mem_cons.mpr ⟨tb_c3 99 (by decide +kernel), (List.forall_mem_cons.mpr ⟨tb_c7 63 (by decide +kernel), (List.forall_mem_cons.mpr ⟨tb_c7 72 (by decide +kernel), (List.forall_mem_cons.mpr ⟨tb_c7 81 (by decide +kernel), (List.forall_mem_cons.mpr ⟨tb_c7 82 (by decide +kernel), (List.forall_mem_cons.mpr ⟨tb_c7 92 (by decide +kernel), (List.forall_mem_cons.mpr ⟨tb_c7 93 (by decide +kernel), (List.forall_mem_cons.mpr ⟨tb_c7 99 (by decide +kernel), (List.forall_mem_cons.mpr ⟨tb_c7 100 (by decide +kernel), (List.forall_mem_cons.mpr ⟨tb_c7 101 (by decide +kernel), (List.forall_mem_cons.mpr ⟨tb_c7 102 (by decide +kernel), (List.forall_mem_cons.mpr ⟨tb_c7 103 (by decide +kernel), (List.forall_mem_cons.mpr ⟨tb_c7 109 (by decide +kernel), (List.forall_mem_cons.mpr ⟨tb_c7 47 (by decide +kernel), (List.forall_mem_cons.mpr ⟨tb_c7 48 (by decide +kernel), (List.forall_mem_cons.mpr ⟨tb_c7 49 (by decide +kernel), (List.forall_mem_cons.mpr ⟨tb_c7 50 (by decide +kernel), (List.forall_mem_cons.mpr ⟨tb_c7 51 (by decide +kernel), (List.forall_mem_cons.mpr ⟨tb_c7 52 (by decide +kernel), (List.forall_mem_cons.mpr ⟨tb_c7 118 (by decide +kernel), (List.forall_mem_cons.mpr ⟨tb_c7 123 (by decide +kernel), (List.forall_mem_cons.mpr ⟨tb_c7 104 (by decide +kernel), (List.forall_mem_cons.mpr ⟨tb_c7 124 (by decide +kernel), (List.forall_mem_cons.mpr ⟨tb_c7 83 (by decide +kernel), (List.forall_mem_cons.mpr ⟨tb_c7 94 (by decide +kernel), (fun _ h => absurd h List.not_mem_nil)⟩)⟩)⟩)⟩)⟩)⟩)⟩)⟩)⟩)⟩)⟩)⟩)⟩)⟩)⟩)⟩)⟩)⟩)⟩)⟩)⟩)⟩)⟩)⟩)⟩)⟩)⟩)⟩)⟩)⟩)⟩)⟩)⟩)⟩)⟩)⟩)⟩)⟩)⟩)⟩)⟩)⟩)⟩)⟩)⟩)⟩)⟩)⟩)
theorem st_nest : ∀ q ∈ tabNestW, Cond.methodLinkNest q.1 q.2.1 q.2.2.1 q.2.2.2 ∈ lw_tbl := (List.forall_mem_cons.mpr ⟨tb_c1 184 (by decide +kernel), (List.forall_mem_cons.mpr ⟨tb_c1 188 (by decide +kernel), (List.forall_mem_cons.mpr ⟨tb_c1 203 (by decide +kernel), (List.forall_mem_cons.mpr ⟨tb_c2 141 (by decide +kernel), (List.forall_mem_cons.mpr ⟨tb_c1 31 (by decide +kernel), (List.forall_mem_cons.mpr ⟨tb_c1 37 (by decide +kernel), (List.forall_mem_cons.mpr ⟨tb_c1 67 (by decide +kernel), (List.forall_mem_cons.mpr ⟨tb_c4 165 (by decide +kernel), (List.forall_mem_cons.mpr ⟨tb_c4 176 (by decide +kernel), (List.forall_mem_cons.mpr ⟨tb_c1 225 (by decide +kernel), (List.forall_mem_cons.mpr ⟨tb_c3 206 (by decide +kernel), (List.forall_mem_cons.mpr ⟨tb_c1 230 (by decide +kernel), (List.forall_mem_cons.mpr ⟨tb_c5 166 (by decide +kernel), (List.forall_mem_cons.mpr ⟨tb_c2 7 (by decide +kernel), (fun _ h => absurd h List.not_mem_nil)⟩)⟩)⟩)⟩)⟩)⟩)⟩)⟩)⟩)⟩)⟩)⟩)⟩)⟩)
theorem st_refs {args : Array Value} {s : State} {t u : Term} {a : Nat} (h : (Cond.eq t u).before args s = true) (ht : t.eval args s none [] s = some (.ref a)) (hu : (Cond.exactly u "java/lang/String").before args s = true) : u.eval args s none [] s = some (.ref a) := by
  obtain ⟨b, c, cA, kA, q1, -⟩ := Cond.exactly_spec (args := args) (first := s) (o := none) (s := s) (idx := []) (t := u) (cls := "java/lang/String") hu
  have e : a = b := by
    simp [Cond.before, Cond.holds, Cond.value, ht, q1] at h
    exact h
  rw [e]
  exact q1
theorem st_S {args : Array Value} {s : State} {A : Nat → Prop} (hf : ∀ c ∈ stFl, c.before args s = true) (hA : ∀ a : Nat, a < s.heap.size → ¬ A a) :
    ∃ adK adV : Nat → Nat, (∀ i : Nat, i < 24 → va_O "java/lang/String" (adK i) A s s.heap ∧ va_OF "java/lang/String" "coder" "B" (.int 0) (adK i) A s s.heap ∧ va_OF "java/lang/String" "value" "[B" (.ref (adV i)) (adK i) A s s.heap ∧ va_T .byte (adV i) (lenStW i) (fun j => .int (chStW i j)) A s s.heap) ∧ ∀ i : Nat, i < 24 → (tmS i).eval args s none [] s = some (.ref (adK i)) := by
  have hl : ∀ i, i < 24 → lenStW i < 2 ^ 31 := by decide +kernel
  have h0 : ∀ i : Nat, ∃ q : Nat × Nat, i < 24 → (tmS i).eval args s none [] s = some (.ref q.1) ∧ va_O "java/lang/String" q.1 A s s.heap ∧ va_OF "java/lang/String" "coder" "B" (.int 0) q.1 A s s.heap ∧ va_OF "java/lang/String" "value" "[B" (.ref q.2) q.1 A s s.heap ∧ va_T .byte q.2 (lenStW i) (fun j => .int (chStW i j)) A s s.heap := by
    intro i
    by_cases hi : i < 24
    · obtain ⟨a, c, cA, kA, q1, q2, q3, q4, q5, q6, -⟩ := Cond.exactly_spec (args := args) (first := s) (o := none) (s := s) (idx := []) (t := tmS i) (cls := "java/lang/String") (hf _ (st_ex i hi))
      obtain ⟨t, ht, hT⟩ := va_Tof (f := fun j => .int (chStW i j)) (A := A) (hl i hi) (hf _ (st_ar i hi)) (va_eqt (hf _ (st_le i hi))) (fun j hj => va_eqt (hf _ (st_el i hi j hj))) hA
      exact ⟨(a, t), fun _ => ⟨q1, ⟨cA, q3, q5, by rw [q6]; exact q2, hA a (Array.getElem?_eq_some_iff.mp q3).1⟩, vk_OFof q1 (va_eqt (hf _ (st_co i hi))) hA, vk_OFof q1 ht hA, hT⟩⟩
    · exact ⟨(0, 0), fun h => absurd h hi⟩
  obtain ⟨ad, had⟩ := Classical.axiomOfChoice h0
  exact ⟨fun i => (ad i).1, fun i => (ad i).2, fun i hi => (had i hi).2, fun i hi => (had i hi).1⟩
theorem st_D {args : Array Value} {s : State} (hts : ∀ w ∈ U0w, w.before args s = true) : ∃ D : va_G, ∀ (k : Nat) (q : vw_C), vwCl[k]? = some q → u_Kn s q.1 q.2.1 q.2.2 (D.1 k) (D.2 k) := by
  obtain ⟨c0, i0, h0⟩ := u_known (C := RX0) (T := TX0) (N := 15) (n := 15) hts inUX0 (hts _ u_175)
  obtain ⟨c1, i1, h1⟩ := u_known (C := RX1) (T := TX1) (N := 5) (n := 5) hts inUX1 (hts _ u_154)
  obtain ⟨c2, i2, h2⟩ := u_known (C := RX2) (T := TX2) (N := 2) (n := 2) hts inUX2 (hts _ u_250)
  obtain ⟨c3, i3, h3⟩ := u_known (C := RX3) (T := TX3) (N := 3) (n := 3) hts inUX3 (hts _ u_259)
  obtain ⟨c4, i4, h4⟩ := u_known (C := RX4) (T := TX4) (N := 2) (n := 2) hts inUX4 (hts _ u_276)
  obtain ⟨c5, i5, h5⟩ := u_known (C := RX5) (T := TX5) (N := 16) (n := 16) hts inUX5 (hts _ u_268)
  obtain ⟨c6, i6, h6⟩ := u_known (C := RX6) (T := TX6) (N := 6) (n := 6) hts inUX6 (hts _ u_159)
  obtain ⟨c7, i7, h7⟩ := u_known (C := RX7) (T := TX7) (N := 17) (n := 17) hts inUX7 (hts _ u_287)
  obtain ⟨c8, i8, h8⟩ := u_known (C := RX8) (T := TX8) (N := 3) (n := 3) hts inUX8 (hts _ u_352)
  obtain ⟨c9, i9, h9⟩ := u_known (C := RX9) (T := TX9) (N := 9) (n := 9) hts inUX9 (hts _ u_146)
  obtain ⟨c10, i10, h10⟩ := u_known (C := RX10) (T := TX10) (N := 62) (n := 62) hts inUX10 (hts _ u_1101)
  refine ⟨(fun k => match k with | 0 => c0 | 1 => c1 | 2 => c2 | 3 => c3 | 4 => c4 | 5 => c5 | 6 => c6 | 7 => c7 | 8 => c8 | 9 => c9 | _ => c10, fun k => match k with | 0 => i0 | 1 => i1 | 2 => i2 | 3 => i3 | 4 => i4 | 5 => i5 | 6 => i6 | 7 => i7 | 8 => i8 | 9 => i9 | _ => i10), ?_⟩
  intro k q hq
  match k, hq with
  | 0, hq => cases hq; exact h0
  | 1, hq => cases hq; exact h1
  | 2, hq => cases hq; exact h2
  | 3, hq => cases hq; exact h3
  | 4, hq => cases hq; exact h4
  | 5, hq => cases hq; exact h5
  | 6, hq => cases hq; exact h6
  | 7, hq => cases hq; exact h7
  | 8, hq => cases hq; exact h8
  | 9, hq => cases hq; exact h9
  | 10, hq => cases hq; exact h10
  | k + 11, hq => simp [vwCl] at hq
theorem st_ty {args : Array Value} {s : State} (hU : ∀ w ∈ U0w, w.before args s = true) (hts : ∀ w ∈ lw_tbl, w.before args s = true) : ∃ gc : Nat → ClassId, ∀ (k : Nat) (q : ClassId × FieldType), [(gc 0, FieldType.int), (gc 1, .boolean), (gc 2, .byte), (gc 3, .float), (gc 4, .double), (gc 5, .array .int), (gc 6, .object "WatchStack$Board"), (gc 7, .object "WatchStack$TaskState")][k]? = some q → ArrOfT s q.1 q.2 ∧ va_RA s q.1 q.2 := by
  obtain ⟨c0, k0, m0, f0, e0, d0⟩ := Cond.arrayClass_spec (hU _ u_173)
  obtain ⟨c1, k1, m1, f1, e1, d1⟩ := Cond.arrayClass_spec (hU _ u_257)
  obtain ⟨c2, k2, m2, f2, e2, d2⟩ := Cond.arrayClass_spec (hU _ u_690)
  obtain ⟨c3, k3, m3, f3, e3, d3⟩ := Cond.arrayClass_spec (hU _ u_1167)
  obtain ⟨c4, k4, m4, f4, e4, d4⟩ := Cond.arrayClass_spec (hU _ u_1168)
  obtain ⟨m5, c5, k5, b5, -, e5, d5, f5⟩ := va_AOA.spec (ty := .int) (va_AOA.of (hts _ (tb_c1 72 (by decide +kernel))))
  obtain ⟨m6, c6, k6, b6, -, e6, d6, f6⟩ := Cond.arrayOver_spec (n := "WatchStack$Board") (va_AO.use (A := args) (va_AO.of (hts _ (tb_c1 185 (by decide +kernel)))))
  obtain ⟨m7, c7, k7, b7, -, e7, d7, f7⟩ := Cond.arrayOver_spec (n := "WatchStack$TaskState") (va_AO.use (A := args) (va_AO.of (hts _ (tb_c1 227 (by decide +kernel)))))
  refine ⟨fun k => match k with | 0 => c0 | 1 => c1 | 2 => c2 | 3 => c3 | 4 => c4 | 5 => c5 | 6 => c6 | _ => c7, ?_⟩
  intro k q hq
  match k, hq with
  | 0, hq => cases hq; exact ⟨fun N z => ⟨(fun q hq => by cases hq), k0, e0, m0, d0⟩, f0⟩
  | 1, hq => cases hq; exact ⟨fun N z => ⟨(fun q hq => by cases hq), k1, e1, m1, d1⟩, f1⟩
  | 2, hq => cases hq; exact ⟨fun N z => ⟨(fun q hq => by cases hq), k2, e2, m2, d2⟩, f2⟩
  | 3, hq => cases hq; exact ⟨fun N z => ⟨(fun q hq => by cases hq), k3, e3, m3, d3⟩, f3⟩
  | 4, hq => cases hq; exact ⟨fun N z => ⟨(fun q hq => by cases hq), k4, e4, m4, d4⟩, f4⟩
  | 5, hq => cases hq; exact ⟨fun N z => ⟨(fun q hq => by cases hq), k5, e5, m5, d5⟩, f5⟩
  | 6, hq => cases hq; exact ⟨fun N z => ⟨(fun q hq => by cases hq), k6, e6, m6, d6⟩, k6, m6, e6, d6, b6, f6⟩
  | 7, hq => cases hq; exact ⟨fun N z => ⟨(fun q hq => by cases hq), k7, e7, m7, d7⟩, k7, m7, e7, d7, b7, f7⟩
  | k + 8, hq => simp at hq
theorem st_CN {args : Array Value} {s : State} (hts : ∀ w ∈ lw_tbl, w.before args s = true) : CNw s :=
  ⟨fun q hq => va_Nw.of rfl (hts _ (st_nest q hq)), va_AO.of (hts _ (tb_c1 185 (by decide +kernel))), va_AO.of (hts _ (tb_c1 227 (by decide +kernel))), va_AOA.of (hts _ (tb_c1 72 (by decide +kernel)))⟩
theorem st_SK {g : Gw} {args : Array Value} {s : State} {A : Nat → Prop} (hU : ∀ w ∈ U0w, w.before args s = true) (hts : ∀ w ∈ lw_tbl, w.before args s = true) (hf : ∀ c ∈ stFl, c.before args s = true) (hA : ∀ a : Nat, a < s.heap.size → ¬ A a) (hS : ∀ i : Nat, i < 24 → va_O "java/lang/String" (gK g i) A s s.heap ∧ va_OF "java/lang/String" "coder" "B" (.int 0) (gK g i) A s s.heap ∧ va_OF "java/lang/String" "value" "[B" (.ref (gV g i)) (gK g i) A s s.heap ∧ va_T .byte (gV g i) (lenStW i) (fun j => .int (chStW i j)) A s s.heap) (hE : ∀ i : Nat, i < 24 → (tmS i).eval args s none [] s = some (.ref (gK g i))) : SKw g A s s.heap := by
  refine ⟨fun i hi => hS i hi, fun q hq => ?_, ?_, ?_, fun q hq => va_Nw.of rfl (hts _ (st_nest q hq))⟩
  · refine vk_R.of (A := args) (hts _ (st_str q hq)) ?_
    have hi := hE q.2.2.2 (st_i24 q hq)
    rcases st_eqv q hq with h | h
    · rw [h]
      exact hi
    · exact st_refs (hf _ h.1) hi (hf _ h.2)
  · exact va_Zof (hts _ (tb_c3 11 (by decide +kernel))) (hU _ u_136) (va_eqt (hf _ (by decide +kernel))) hA
  · have hr : (Cond.isRef (Term.static "jdk/internal/util/Preconditions" "SIOOBE_FORMATTER" "Ljava/util/function/BiFunction;")).before args s = true := hf _ (by decide +kernel)
    cases hv : (Term.static "jdk/internal/util/Preconditions" "SIOOBE_FORMATTER" "Ljava/util/function/BiFunction;").eval args s none [] s with
    | none => simp [Cond.before, Cond.holds, Cond.value, hv] at hr
    | some v =>
      cases v with
      | ref a => exact ⟨_, Or.inr ⟨a, rfl⟩, va_Zof (hts _ (tb_c3 27 (by decide +kernel))) (hU _ u_138) hv hA⟩
      | null => exact ⟨_, Or.inl rfl, va_Zof (hts _ (tb_c3 27 (by decide +kernel))) (hU _ u_138) hv hA⟩
      | _ => simp [Cond.before, Cond.holds, Cond.value, hv] at hr
