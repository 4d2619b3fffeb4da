theorem flatMap_cg {α β : Type} {l : List α} {f g : α → List β} (h : ∀ a, a ∈ l → f a = g a) : l.flatMap f = l.flatMap g := by
  induction l with
  | nil => rfl
  | cons a l ih =>
    rw [List.flatMap_cons, List.flatMap_cons, h a List.mem_cons_self, ih (fun b hb => h b (List.mem_cons_of_mem _ hb))]
theorem layW_split (g : Gw) : layW g = (List.range 98).flatMap (fun κ => (List.range (nbW g κ)).flatMap (fun b => (List.range (niW κ)).map (fun i => (κ, b, i)))) ++ ((List.range (gT g)).flatMap (fun b => [(98, b, 0)]) ++ (List.range (gT g)).flatMap (fun b => [(99, b, 0)])) := by
  have h : List.range 100 = List.range 98 ++ [98, 99] := by decide
  unfold layW
  rw [h, List.flatMap_append]
  congr 1
  simp [nbW, niW]
theorem nbW_geo {g g' : Gw} {κ : Nat} (h : κ < 98) : nbW g' κ = nbW g κ := by
  unfold nbW
  repeat' split
  all_goals first | rfl | omega
/-- the geometry with the two rows -/
def gTmp (g : Gw) (q1 q2 : Nat) : Gw := (g.1, fun κ b i => if κ = 98 then q1 else if κ = 99 then q2 else gA g κ b i, gC g, gK g, gV g, 1)
theorem gTmp_A {g : Gw} {q1 q2 κ b i : Nat} (h : κ < 98) : gA (gTmp g q1 q2) κ b i = gA g κ b i := by
  show (if κ = 98 then q1 else if κ = 99 then q2 else gA g κ b i) = _
  rw [if_neg (by omega), if_neg (by omega)]
set_option maxHeartbeats 4000000 in
theorem contW_geo {g g' : Gw} (hA : ∀ κ b i, κ < 98 → gA g' κ b i = gA g κ b i) (hC : gC g' = gC g) {κ b i : Nat} {r : Nat → Int32} {f : Nat → UInt32} {d : Nat → UInt64} : contW g' κ b i r f d = contW g κ b i r f d := by
  unfold contW
  rw [hC]
  split <;> first | rfl | simp only [hA 0 _ _ (by decide), hA 1 _ _ (by decide), hA 2 _ _ (by decide), hA 3 _ _ (by decide), hA 4 _ _ (by decide), hA 5 _ _ (by decide), hA 6 _ _ (by decide), hA 7 _ _ (by decide), hA 8 _ _ (by decide), hA 9 _ _ (by decide), hA 10 _ _ (by decide), hA 11 _ _ (by decide), hA 12 _ _ (by decide), hA 13 _ _ (by decide), hA 14 _ _ (by decide), hA 15 _ _ (by decide), hA 16 _ _ (by decide), hA 17 _ _ (by decide), hA 18 _ _ (by decide), hA 19 _ _ (by decide), hA 20 _ _ (by decide), hA 21 _ _ (by decide), hA 22 _ _ (by decide), hA 23 _ _ (by decide), hA 24 _ _ (by decide), hA 25 _ _ (by decide), hA 26 _ _ (by decide), hA 27 _ _ (by decide), hA 28 _ _ (by decide), hA 29 _ _ (by decide), hA 30 _ _ (by decide), hA 31 _ _ (by decide), hA 32 _ _ (by decide), hA 33 _ _ (by decide), hA 34 _ _ (by decide), hA 35 _ _ (by decide), hA 36 _ _ (by decide), hA 37 _ _ (by decide), hA 38 _ _ (by decide), hA 39 _ _ (by decide), hA 40 _ _ (by decide), hA 41 _ _ (by decide), hA 42 _ _ (by decide), hA 43 _ _ (by decide), hA 50 _ _ (by decide), hA 51 _ _ (by decide), hA 52 _ _ (by decide), hA 53 _ _ (by decide), hA 54 _ _ (by decide), hA 55 _ _ (by decide), hA 56 _ _ (by decide), hA 57 _ _ (by decide), hA 58 _ _ (by decide), hA 59 _ _ (by decide), hA 60 _ _ (by decide), hA 61 _ _ (by decide), hA 62 _ _ (by decide), hA 63 _ _ (by decide), hA 64 _ _ (by decide), hA 65 _ _ (by decide), hA 66 _ _ (by decide), hA 67 _ _ (by decide), hA 68 _ _ (by decide), hA 69 _ _ (by decide), hA 70 _ _ (by decide), hA 71 _ _ (by decide), hA 72 _ _ (by decide), hA 73 _ _ (by decide), hA 74 _ _ (by decide), hA 75 _ _ (by decide), hA 76 _ _ (by decide), hA 77 _ _ (by decide), hA 78 _ _ (by decide), hA 79 _ _ (by decide), hA 80 _ _ (by decide), hA 81 _ _ (by decide), hA 82 _ _ (by decide), hA 83 _ _ (by decide), hA 84 _ _ (by decide), hA 85 _ _ (by decide), hA 86 _ _ (by decide), hA 87 _ _ (by decide), hA 88 _ _ (by decide), hA 89 _ _ (by decide), hA 90 _ _ (by decide), hA 91 _ _ (by decide)]
def tmpM (M : Mw) : Mw := rIw (rIw M 98 0 0 (fun _ => 0)) 99 0 0 (fun _ => 0)
theorem wlW_tmp {g : Gw} {q1 q2 : Nat} {M : Mw} (hT : gT g = 0) : wlW (gTmp g q1 q2) (tmpM M) = (wlW g M ++ [(q1, .inl (gC g 0, 6, .inl (fun _ => 0)))]) ++ [(q2, .inl (gC g 0, 6, .inl (fun _ => 0)))] := by
  unfold wlW
  rw [layW_split (gTmp g q1 q2), layW_split g, hT, List.append_assoc, List.map_append, List.map_append]
  have e : (List.range 98).flatMap (fun κ => (List.range (nbW (gTmp g q1 q2) κ)).flatMap (fun b => (List.range (niW κ)).map (fun i => (κ, b, i)))) = (List.range 98).flatMap (fun κ => (List.range (nbW g κ)).flatMap (fun b => (List.range (niW κ)).map (fun i => (κ, b, i)))) := by
    apply flatMap_cg
    intro κ hκ
    rw [nbW_geo (g := g) (List.mem_range.mp hκ)]
  rw [e]
  have e2 : ((List.range 0).flatMap (fun b => [(98, b, 0)]) ++ (List.range 0).flatMap (fun b => [(99, b, 0)])) = ([] : List (Nat × Nat × Nat)) := rfl
  rw [e2, List.append_nil]
  have h1 : ((List.range 98).flatMap (fun κ => (List.range (nbW g κ)).flatMap (fun b => (List.range (niW κ)).map (fun i => (κ, b, i))))).map (fun q => (gA (gTmp g q1 q2) q.1 q.2.1 q.2.2, cellW (gTmp g q1 q2) (tmpM M) q.1 q.2.1 q.2.2)) = ((List.range 98).flatMap (fun κ => (List.range (nbW g κ)).flatMap (fun b => (List.range (niW κ)).map (fun i => (κ, b, i))))).map (fun q => (gA g q.1 q.2.1 q.2.2, cellW g M q.1 q.2.1 q.2.2)) := by
    apply List.map_congr_left
    intro q hq
    obtain ⟨κ, hκ, hq⟩ := List.mem_flatMap.mp hq
    obtain ⟨b, hb, hq⟩ := List.mem_flatMap.mp hq
    obtain ⟨i, hi, rfl⟩ := List.mem_map.mp hq
    have hκ := List.mem_range.mp hκ
    show (gA (gTmp g q1 q2) κ b i, cellW (gTmp g q1 q2) (tmpM M) κ b i) = (gA g κ b i, cellW g M κ b i)
    rw [gTmp_A hκ]
    have e1 : cellW (gTmp g q1 q2) (tmpM M) κ b i = cellW g M κ b i := by
      unfold tmpM
      rw [rIw_ne (gTmp g q1 q2) _ _ κ b i (by omega), rIw_ne (gTmp g q1 q2) _ _ κ b i (by omega)]
      exact contW_geo (fun _ _ _ h => gTmp_A h) rfl
    rw [e1]
  rw [h1]
  rfl
theorem AAw_tmp {g : Gw} {q1 q2 sz : Nat} (h1 : AAw g sz q1) (h2 : AAw g sz q2) : ∀ q, AAw (gTmp g q1 q2) sz q → AAw g sz q := by
  intro q hq
  rcases hq with ⟨κ, b, i, hm, rfl⟩ | hq
  · rw [layW_split] at hm
    rcases List.mem_append.mp hm with hm | hm
    · obtain ⟨κ', hκ, hm⟩ := List.mem_flatMap.mp hm
      obtain ⟨b', hb, hm⟩ := List.mem_flatMap.mp hm
      obtain ⟨i', hi, e⟩ := List.mem_map.mp hm
      cases e
      have hκ := List.mem_range.mp hκ
      refine Or.inl ⟨κ, b, i, layW_mem (by omega) (by rw [nbW_geo (g := gTmp g q1 q2) hκ]; exact List.mem_range.mp hb) (List.mem_range.mp hi), ?_⟩
      rw [gTmp_A hκ]
    · rcases List.mem_append.mp hm with hm | hm
      · obtain ⟨b', hb, hm⟩ := List.mem_flatMap.mp hm
        cases List.mem_singleton.mp hm
        exact h1
      · obtain ⟨b', hb, hm⟩ := List.mem_flatMap.mp hm
        cases List.mem_singleton.mp hm
        exact h2
  · exact Or.inr hq
theorem tmp_cA {g : Gw} {s : State} {cA : ClassId} (hK : va_K (gD g) vwCl (tyW g) s) (hK1 : va_K (gD g) vwCl (tyW g ++ [(cA, .int)]) s) : cA = gC g 0 := by
  have h0 := (hK.2 0 _ rfl).2
  have h1 := (hK1.2 8 (cA, .int) rfl).2
  have h0 : s.vm.findClass ("[" ++ FieldType.int.toString) = some (gC g 0) := h0
  have h1 : s.vm.findClass ("[" ++ FieldType.int.toString) = some cA := h1
  exact (Option.some.inj (h0.symm.trans h1)).symm
set_option maxHeartbeats 4000000 in
set_option maxRecDepth 100000 in
theorem r_tmp {g : Gw} {x : Xw} {ret : Option FieldType} {d : Nat} {β : Type} {out : β → Option Value × Mw} {comp : Mw → Option β} {M : Mw} {b : Nat} (C : Cw g x cX0_measureTasks RX0 5 ret d) (hT : gT g = 0) (hm : x.2.2.2.2.2.2.2.2.2.2.2 = (2, 12))
    (kk : ∀ g' : Gw, gT g' = 1 → Cw g' x cX0_measureTasks RX0 5 ret d → ∀ M : Mw, Sw g' x out M 2 12 10 [(2, .ref (gA g' 99 0 0)), (1, .ref (gA g' 98 0 0)), (0, .ref (gA g' 0 b 0))] [] (comp M)) : Sw g x out M 0 0 0 [(0, .ref (gA g 0 b 0))] [] (bd (tmpM M) comp) := by
  have C0 := C
  obtain ⟨hx, hb, hml, hown, hts, hK, hD, hSK, hR, hlk, hrt, hnl⟩ := C
  intro r hr H locs ls hP hS hl
  rw [hnl] at hl
  have hRc : (2 : Nat) ≤ x.2.2.2.1.cells := by rw [hR]; show 2 ≤ x.2.2.2.2.2.2.2.2.2.2.2.1; rw [← xk0 hm]; exact Nat.le_refl _
  have hRs : (12 : Nat) ≤ x.2.2.2.1.slots := by rw [hR]; show 12 ≤ x.2.2.2.2.2.2.2.2.2.2.2.2; rw [← xn0 hm]; exact Nat.le_refl _
  refine lv_bipush (v := 6) hx hb dX0_measureTasks_0 (by decide) ?_
  refine va_newa (atype := .int) (ty := .int) (a0 := (6, .inl (fun _ => 0))) (N' := 6) hx hb (hts _ u_173) rfl hK hP (hD M) hS (fun q h => Or.inr h) (fun cA => rfl) (by decide) (by decide) (by decide) (by omega) (by omega) dX0_measureTasks_2 (fun q1 cA1 H1 hK1 hP1 hD1 hS1 => ?_)
  obtain rfl := tmp_cA hK hK1
  refine lv_astore_n (lv' := [(1, .ref q1), (0, .ref (gA g 0 b 0))]) hx hb dX0_measureTasks_4 rfl hl (by decide) rfl (fun ls hl => ?_)
  refine lv_bipush (v := 6) hx hb dX0_measureTasks_5 (by decide) ?_
  refine va_newa (atype := .int) (ty := .int) (a0 := (6, .inl (fun _ => 0))) (N' := 6) hx hb (hts _ u_173) rfl hK hP1 hD1 hS1 (fun q h => Or.inr h) (fun cA => rfl) (by decide) (by decide) (by decide) (by omega) (by omega) dX0_measureTasks_7 (fun q2 cA2 H2 hK2 hP2 hD2 hS2 => ?_)
  obtain rfl := tmp_cA hK hK2
  refine lv_astore_n (lv' := [(2, .ref q2), (1, .ref q1), (0, .ref (gA g 0 b 0))]) hx hb dX0_measureTasks_9 rfl hl (by decide) rfl (fun ls hl => ?_)
  rw [← wlW_tmp hT] at hP2 hD2
  have a1 : AAw g x.2.2.2.2.1.heap.size q1 := by
    have h := hD1.2 (wlW g M).length (q1, .inl (gC g 0, 6, .inl (fun _ => 0))) (by simp)
    exact h
  have a2 : AAw g x.2.2.2.2.1.heap.size q2 := by
    have h := hD2.2 ((wlW g M).length + 1) (q2, .inl (gC g 0, 6, .inl (fun _ => 0))) (by rw [wlW_tmp hT]; simp)
    exact h
  have hsub := AAw_tmp a1 a2
  have C' : Cw (gTmp g q1 q2) x cX0_measureTasks RX0 5 ret d := by
    refine ⟨hx, hb, hml, hown, hts, hK, fun M' => wlW_A _ hD2, ?_, hR, hlk, hrt, C0.2.2.2.2.2.2.2.2.2.2.2⟩
    have h3 := hSK.narrow hsub
    exact h3
  have hA' : ∀ q, AAw g x.2.2.2.2.1.heap.size q → AAw (gTmp g q1 q2) x.2.2.2.2.1.heap.size q := by
    intro q hq
    rcases hq with ⟨κ, b', i, hm', rfl⟩ | hq
    · have hm2 := hm'
      rw [layW_split, hT] at hm2
      simp only [List.range_zero, List.flatMap_nil, List.append_nil] at hm2
      obtain ⟨κ', hκ, hm3⟩ := List.mem_flatMap.mp hm2
      obtain ⟨b'', hb', hm4⟩ := List.mem_flatMap.mp hm3
      obtain ⟨i', hi', e⟩ := List.mem_map.mp hm4
      cases e
      have hκ := List.mem_range.mp hκ
      refine Or.inl ⟨κ, b', i, layW_mem (by omega) (by rw [nbW_geo (g := g) hκ]; exact List.mem_range.mp hb') (List.mem_range.mp hi'), ?_⟩
      rw [gTmp_A hκ]
    · exact Or.inr hq
  have hw := kk (gTmp g q1 q2) rfl C' (tmpM M) r hr H2 locs ls hP2 ⟨hS2.1, fun q h1 h2 => hS2.2.1 q h1 (fun h => h2 (hA' q h)), fun q hq => hA' _ (hS2.2.2 q hq)⟩ (by rw [hnl]; exact hl)
  intro T hT2 X
  obtain ⟨t, st, oo, w1, w2, ⟨w3, w4, w5⟩, L, w6, w7⟩ := hw T hT2 X
  refine ⟨t, st, oo, w1, w2, ⟨w3, ?_, w5.1, fun q h1 h2 => w5.2 q h1 (fun h => h2 (hsub q h))⟩, L, w6, fun q hq => hsub _ (w7 q hq)⟩
  intro k9 q9 h9
  obtain ⟨κ, b', i, hm', rfl⟩ := wlW_inv h9
  have hm2 := List.mem_of_getElem? hm'
  rw [layW_split, hT] at hm2
  simp only [List.range_zero, List.flatMap_nil, List.append_nil] at hm2
  obtain ⟨κ', hκ, hm3⟩ := List.mem_flatMap.mp hm2
  obtain ⟨b'', hb', hm4⟩ := List.mem_flatMap.mp hm3
  obtain ⟨i', hi', e⟩ := List.mem_map.mp hm4
  cases e
  have hκ := List.mem_range.mp hκ
  obtain ⟨k0, -, hk0'⟩ := wlW_get (g := gTmp g q1 q2) (layW_mem (by omega) (by rw [nbW_geo (g := g) hκ]; exact List.mem_range.mp hb') (List.mem_range.mp hi') : (κ, b', i) ∈ layW (gTmp g q1 q2))
  have h5 := w4 k0 _ (hk0' _)
  rw [gTmp_A hκ] at h5
  have e6 : cellW (gTmp g q1 q2) (out r).2 κ b' i = cellW g (out r).2 κ b' i := contW_geo (fun _ _ _ h => gTmp_A h) rfl
  rw [e6] at h5
  exact h5
def B_X0_measureTasks_33 (b : Nat) (k12 : Int32 → Mw → Option (Mw)) (l3 : Int32) (k33 : Int32 → Mw → Option (Mw)) (l4 : Int32) (M : Mw) : Option (Mw) :=
  (if l4 < 0 then (if inb l3 5 then (bd (uIw M 10 b l3.toNatClampNeg 0 (M.1 98 0 0 0)) (fun M6 => (if inb l3 5 then (bd (uIw M6 10 b l3.toNatClampNeg 1 (M6.1 99 0 0 0)) (fun M8 => (bd (l3 + 1) (fun v9 => (k12 v9 M8))))) else none))) else none) else ((F_X0_measureNode b l3 l4 M).bind (fun M10 => (bd (l4 + (-1)) (fun v12 => (k33 v12 M10))))))
def B_X0_measureTasks_12 (b : Nat) (k12 : Int32 → Mw → Option (Mw)) (l3 : Int32) (M : Mw) : Option (Mw) :=
  (if (M.1 0 b 0 5) ≤ l3 then some M else (if inb l3 5 then (bd ((M.1 4 b l3.toNatClampNeg 6) - 1) (fun v3 => (it (fun _ _ => none) (B_X0_measureTasks_33 b k12 l3) FU v3 M))) else none))
def F_X0_measureTasks (b : Nat) (M : Mw) : Option Mw :=
  (bd (tmpM M) (fun M1 => (it (fun _ _ => none) (B_X0_measureTasks_12 b) FU 0 M1)))
set_option maxRecDepth 100000 in
set_option maxHeartbeats 4000000 in
theorem t_X0_measureTasks_33 {g : Gw} {x : Xw} (C : Cw g x cX0_measureTasks RX0 5 none 5) (hm : x.2.2.2.2.2.2.2.2.2.2.2 = (2, 12)) {b : Nat} (hb : b < 8) (hT : gT g = 1) (k12 : Int32 → Mw → Option (Mw)) (l3 : Int32) (hk12 : ∀ (l3 : Int32) (M : Mw), Sw g x (fun M : Mw => (none, M)) M 2 12 12 [(0, .ref (gA g 0 b 0)), (1, .ref (gA g 98 0 0)), (2, .ref (gA g 99 0 0)), (3, .int l3)] [] (k12 l3 M)) (k33 : Int32 → Mw → Option (Mw)) (hk33 : ∀ (l4 : Int32) (M : Mw), Sw g x (fun M : Mw => (none, M)) M 2 12 33 [(0, .ref (gA g 0 b 0)), (1, .ref (gA g 98 0 0)), (2, .ref (gA g 99 0 0)), (3, .int l3), (4, .int l4)] [] (k33 l4 M)) (l4 : Int32) (M : Mw) : Sw g x (fun M : Mw => (none, M)) M 2 12 33 [(0, .ref (gA g 0 b 0)), (1, .ref (gA g 98 0 0)), (2, .ref (gA g 99 0 0)), (3, .int l3), (4, .int l4)] [] (B_X0_measureTasks_33 b k12 l3 k33 l4 M) := by
  unfold B_X0_measureTasks_33
  refine r_iload C 4 dX0_measureTasks_33 rfl ?_
  refine r_if_lt (tgt := 53) C dX0_measureTasks_35 (by decide) (fun h4 => ?_) (fun h4 => ?_)
  · refine r_aload_n C 0 dX0_measureTasks_53 rfl rfl ?_
    refine gf_0_13 C dX0_measureTasks_54 u_233 (in_0 hb) ?_
    refine r_iload_n C 3 dX0_measureTasks_57 rfl rfl ?_
    refine r_aald (t0 := 5) (ty := .array .int) C dX0_measureTasks_58 (in_9 hb) (contW_9 g _ _ _ _ _) rfl rfl (fun h5 => ?_)
    refine r_iconst (v := 0) C dX0_measureTasks_59 (by decide) ?_
    refine r_aload_n C 1 dX0_measureTasks_60 rfl rfl ?_
    refine r_iconst (v := 0) C dX0_measureTasks_61 (by decide) ?_
    refine r_ialdc C dX0_measureTasks_62 (in_98 hT) (contW_98 g _ _ _ _ _) (by decide) (j := 0) (by decide) ?_
    refine r_iastc C dX0_measureTasks_63 (in_10 hb (inb_lt h5)) (contW_10 g _ _) (by decide) (j := 0) (by decide) (fun M6 => ?_)
    refine r_aload_n C 0 dX0_measureTasks_64 rfl rfl ?_
    refine gf_0_13 C dX0_measureTasks_65 u_233 (in_0 hb) ?_
    refine r_iload_n C 3 dX0_measureTasks_68 rfl rfl ?_
    refine r_aald (t0 := 5) (ty := .array .int) C dX0_measureTasks_69 (in_9 hb) (contW_9 g _ _ _ _ _) rfl rfl (fun h7 => ?_)
    refine r_iconst (v := 1) C dX0_measureTasks_70 (by decide) ?_
    refine r_aload_n C 2 dX0_measureTasks_71 rfl rfl ?_
    refine r_iconst (v := 0) C dX0_measureTasks_72 (by decide) ?_
    refine r_ialdc C dX0_measureTasks_73 (in_99 hT) (contW_99 g _ _ _ _ _) (by decide) (j := 0) (by decide) ?_
    refine r_iastc C dX0_measureTasks_74 (in_10 hb (inb_lt h7)) (contW_10 g _ _) (by decide) (j := 1) (by decide) (fun M8 => ?_)
    refine r_iinc (c := 1) (lv' := fun v9 => [(3, .int v9), (0, .ref (gA g 0 b 0)), (1, .ref (gA g 98 0 0)), (2, .ref (gA g 99 0 0)), (4, .int l4)]) C 3 dX0_measureTasks_75 rfl (by decide) (by decide) (fun _ => rfl) (fun v9 => ?_)
    refine r_goto (tgt := 12) C dX0_measureTasks_78 (by decide) ?_
    refine r_lv [1, 2, 3, 0] rfl ?_
    exact hk12 v9 M8
  · refine r_aload_n C 0 dX0_measureTasks_38 rfl rfl ?_
    refine r_iload_n C 3 dX0_measureTasks_39 rfl rfl ?_
    refine r_iload C 4 dX0_measureTasks_40 rfl ?_
    refine r_aload_n C 1 dX0_measureTasks_42 rfl rfl ?_
    refine r_aload_n C 2 dX0_measureTasks_43 rfl rfl ?_
    refine r_callVU (rest := []) C (c_X0_measureNode hb hT l3 l4 M) dX0_measureTasks_44 u_534 (in_0 hb) (contW_0 g _ _ _ _ _) rfl u_535 u_17 mi_X0_measureNode (by decide) rfl rfl (Nat.le_of_ble_eq_true rfl) (xk1 hm (by decide)) (xn1 hm (by decide)) (fun M10 h11 => ?_)
    refine r_iinc (c := (-1)) (lv' := fun v12 => [(4, .int v12), (0, .ref (gA g 0 b 0)), (1, .ref (gA g 98 0 0)), (2, .ref (gA g 99 0 0)), (3, .int l3)]) C 4 dX0_measureTasks_47 rfl (by decide) (by decide) (fun _ => rfl) (fun v12 => ?_)
    refine r_goto (tgt := 33) C dX0_measureTasks_50 (by decide) ?_
    refine r_lv [1, 2, 3, 4, 0] rfl ?_
    exact hk33 v12 M10
set_option maxRecDepth 100000 in
set_option maxHeartbeats 4000000 in
theorem tl_X0_measureTasks_33 {g : Gw} {x : Xw} (C : Cw g x cX0_measureTasks RX0 5 none 5) (hm : x.2.2.2.2.2.2.2.2.2.2.2 = (2, 12)) {b : Nat} (hb : b < 8) (hT : gT g = 1) (k12 : Int32 → Mw → Option (Mw)) (l3 : Int32) (hk12 : ∀ (l3 : Int32) (M : Mw), Sw g x (fun M : Mw => (none, M)) M 2 12 12 [(0, .ref (gA g 0 b 0)), (1, .ref (gA g 98 0 0)), (2, .ref (gA g 99 0 0)), (3, .int l3)] [] (k12 l3 M)) (n : Nat) : ∀ (l4 : Int32) (M : Mw), Sw g x (fun M : Mw => (none, M)) M 2 12 33 [(0, .ref (gA g 0 b 0)), (1, .ref (gA g 98 0 0)), (2, .ref (gA g 99 0 0)), (3, .int l3), (4, .int l4)] [] (it (fun _ _ => none) (B_X0_measureTasks_33 b k12 l3) n l4 M) := by
  induction n with
  | zero =>
    intro l4 M
    exact r_none
  | succ n ih =>
    intro l4 M
    exact t_X0_measureTasks_33 C hm hb hT k12 l3 hk12 _ ih l4 M
set_option maxRecDepth 100000 in
set_option maxHeartbeats 4000000 in
theorem t_X0_measureTasks_12 {g : Gw} {x : Xw} (C : Cw g x cX0_measureTasks RX0 5 none 5) (hm : x.2.2.2.2.2.2.2.2.2.2.2 = (2, 12)) {b : Nat} (hb : b < 8) (hT : gT g = 1) (k12 : Int32 → Mw → Option (Mw)) (hk12 : ∀ (l3 : Int32) (M : Mw), Sw g x (fun M : Mw => (none, M)) M 2 12 12 [(0, .ref (gA g 0 b 0)), (1, .ref (gA g 98 0 0)), (2, .ref (gA g 99 0 0)), (3, .int l3)] [] (k12 l3 M)) (l3 : Int32) (M : Mw) : Sw g x (fun M : Mw => (none, M)) M 2 12 12 [(0, .ref (gA g 0 b 0)), (1, .ref (gA g 98 0 0)), (2, .ref (gA g 99 0 0)), (3, .int l3)] [] (B_X0_measureTasks_12 b k12 l3 M) := by
  unfold B_X0_measureTasks_12
  refine r_iload_n C 3 dX0_measureTasks_12 rfl rfl ?_
  refine r_aload_n C 0 dX0_measureTasks_13 rfl rfl ?_
  refine gf_0_5 C dX0_measureTasks_14 u_200 (in_0 hb) ?_
  refine r_icmp_ge (tgt := 81) C dX0_measureTasks_17 (by decide) (fun h1 => ?_) (fun h1 => ?_)
  · exact r_vret C dX0_measureTasks_81 rfl rfl (xk0 hm) (xn0 hm)
  · refine r_aload_n C 0 dX0_measureTasks_20 rfl rfl ?_
    refine gf_0_10 C dX0_measureTasks_21 u_218 (in_0 hb) ?_
    refine r_iload_n C 3 dX0_measureTasks_24 rfl rfl ?_
    refine r_aald (t0 := 5) (ty := .array .int) C dX0_measureTasks_25 (in_3 hb) (contW_3 g _ _ _ _ _) rfl rfl (fun h2 => ?_)
    refine r_bipush (v := 6) C dX0_measureTasks_26 (by decide) ?_
    refine r_ialdc C dX0_measureTasks_28 (in_4 hb (inb_lt h2)) (contW_4 g _ _ _ _ _) (by decide) (j := 6) (by decide) ?_
    refine r_iconst (v := 1) C dX0_measureTasks_29 (by decide) ?_
    refine r_isub C dX0_measureTasks_30 ?_
    refine r_istore (lv' := fun v3 => [(4, .int v3), (0, .ref (gA g 0 b 0)), (1, .ref (gA g 98 0 0)), (2, .ref (gA g 99 0 0)), (3, .int l3)]) C dX0_measureTasks_31 (by decide) (fun _ => rfl) (fun v3 => ?_)
    refine r_lv [1, 2, 3, 4, 0] rfl ?_
    exact tl_X0_measureTasks_33 C hm hb hT k12 l3 hk12 FU v3 M
set_option maxRecDepth 100000 in
set_option maxHeartbeats 4000000 in
theorem tl_X0_measureTasks_12 {g : Gw} {x : Xw} (C : Cw g x cX0_measureTasks RX0 5 none 5) (hm : x.2.2.2.2.2.2.2.2.2.2.2 = (2, 12)) {b : Nat} (hb : b < 8) (hT : gT g = 1) (n : Nat) : ∀ (l3 : Int32) (M : Mw), Sw g x (fun M : Mw => (none, M)) M 2 12 12 [(0, .ref (gA g 0 b 0)), (1, .ref (gA g 98 0 0)), (2, .ref (gA g 99 0 0)), (3, .int l3)] [] (it (fun _ _ => none) (B_X0_measureTasks_12 b) n l3 M) := by
  induction n with
  | zero =>
    intro l3 M
    exact r_none
  | succ n ih =>
    intro l3 M
    exact t_X0_measureTasks_12 C hm hb hT _ ih l3 M
set_option maxRecDepth 100000 in
set_option maxHeartbeats 4000000 in
theorem c_X0_measureTasks {g : Gw} {l : Launch} {b : Nat} (hb : b < 8) (hT0 : gT g = 0) (M : Mw) : Kw g l yX0_measureTasks cX0_measureTasks 5 none 5 2 12 [.ref (gA g 0 b 0)] M (fun M : Mw => (none, M)) (F_X0_measureTasks b M) := by
  refine Kw.of (own := RX0) (lv0 := [(0, .ref (gA g 0 b 0))]) (by decide +kernel) rfl (Nat.le_of_ble_eq_true rfl) rfl (fun x C hl hm => ?_)
  subst hl
  unfold F_X0_measureTasks
  refine r_tmp C hT0 hm (fun g hT C M1 => ?_)
  refine r_iconst (v := 0) C dX0_measureTasks_10 (by decide) ?_
  refine r_istore_n0 (lv' := [(3, .int 0), (2, .ref (gA g 99 0 0)), (1, .ref (gA g 98 0 0)), (0, .ref (gA g 0 b 0))]) C dX0_measureTasks_11 rfl (by decide) rfl ?_
  refine r_lv [3, 2, 1, 0] rfl ?_
  exact tl_X0_measureTasks_12 C hm hb hT FU 0 M1
