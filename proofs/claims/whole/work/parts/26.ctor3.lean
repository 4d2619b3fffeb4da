theorem wsLw_cons (g : Gw) (t : Nat × Nat × Nat) (L : List (Nat × Nat × Nat)) (ad : Nat → Nat → Nat → Nat) : wsLw g (t :: L) ad = (ad t.1 t.2.1 t.2.2, cellW (gLw g ad) M0w t.1 t.2.1 t.2.2) :: wsLw g L ad := rfl
/-- a reference array right behind the object -/
theorem n_turn {D : va_G} {cl : List vw_C} {x y : Nat × va_E} {R : va_W} {H : Heap} (h : va_P D cl (x :: (R ++ [y])) H) : va_P D cl (x :: y :: R) H := va_P.swap (a := [x]) (b := R) (c := [y]) h
theorem n_turnD {A : Nat → Prop} {x y : Nat × va_E} {R : va_W} (h : va_D A (x :: (R ++ [y]))) : va_D A (x :: y :: R) := va_D.swap (a := [x]) (b := R) (c := [y]) h
theorem n_rot {D : va_G} {cl : List vw_C} {x y : Nat × va_E} {R w : va_W} {H : Heap} (h : va_P D cl ((x :: y :: R) ++ w) H) : va_P D cl (x :: y :: (w ++ R)) H := va_P.swap (a := [x, y]) (b := R) (c := w) h
theorem n_rotD {A : Nat → Prop} {x y : Nat × va_E} {R w : va_W} (h : va_D A ((x :: y :: R) ++ w)) : va_D A (x :: y :: (w ++ R)) := va_D.swap (a := [x, y]) (b := R) (c := w) h
theorem va_at_refs {D : va_G} {cl : List vw_C} {q n : Nat} {cA : ClassId} {f f' : Nat → Option Nat} {H : Heap} (hf : ∀ j, j < n → f j = f' j) (h : va_at D cl (q, .inl (cA, n, .inr (.inr (.inr (.inr f))))) H) : va_at D cl (q, .inl (cA, n, .inr (.inr (.inr (.inr f'))))) H := by
  have h3 : H[q]? = some (vp_cell cA (n, .inr (.inr (.inr (.inr f))))) := h
  show H[q]? = some (vp_cell cA (n, .inr (.inr (.inr (.inr f')))))
  rw [h3]
  congr 1
  rw [vp_cell_q, vp_cell_q]
  unfold arrV
  congr 1
  apply Array.ext (by simp)
  intro i h1 h2
  simp at h1
  simp [hf i h1]
theorem n_refs {D : va_G} {cl : List vw_C} {x : Nat × va_E} {R : va_W} {q n : Nat} {cA : ClassId} {f f' : Nat → Option Nat} {H : Heap} (hf : ∀ j, j < n → f j = f' j) (h : va_P D cl (x :: (q, .inl (cA, n, .inr (.inr (.inr (.inr f))))) :: R) H) : va_P D cl (x :: (q, .inl (cA, n, .inr (.inr (.inr (.inr f'))))) :: R) H := by
  intro k z hz
  match k, hz with
  | 0, hz => exact h 0 z hz
  | 1, hz =>
    cases hz
    exact va_at_refs hf (h 1 _ rfl)
  | k + 2, hz => exact h (k + 2) z hz
theorem n_refsD {A : Nat → Prop} {x : Nat × va_E} {R : va_W} {q n : Nat} {cA : ClassId} {f f' : Nat → Option Nat} (h : va_D A (x :: (q, .inl (cA, n, .inr (.inr (.inr (.inr f))))) :: R)) : va_D A (x :: (q, .inl (cA, n, .inr (.inr (.inr (.inr f'))))) :: R) := by
  have e : ∀ (k : Nat) (z : Nat × va_E), (x :: ((q, .inl (cA, n, .inr (.inr (.inr (.inr f'))))) : Nat × va_E) :: R)[k]? = some z → ∃ z', (x :: ((q, .inl (cA, n, .inr (.inr (.inr (.inr f))))) : Nat × va_E) :: R)[k]? = some z' ∧ z'.1 = z.1 := by
    intro k z hz
    match k, hz with
    | 0, hz => exact ⟨z, hz, rfl⟩
    | 1, hz =>
      cases hz
      exact ⟨_, rfl, rfl⟩
    | k + 2, hz => exact ⟨z, hz, rfl⟩
  refine ⟨fun i j a b ha hb hab => ?_, fun k z hz => ?_⟩
  · obtain ⟨a', ha', ea⟩ := e i a ha
    obtain ⟨b', hb', eb⟩ := e j b hb
    exact h.1 i j a' b' ha' hb' (by rw [ea, eb, hab])
  · obtain ⟨z', hz', ez⟩ := e k z hz
    rw [← ez]
    exact h.2 k z' hz'
section NAP
variable {p : Program} {l : Launch} {e : Env} {R : Room} {s : State} {m : MethodId} {args : Array Value} {below : List Frame} {meth : Method} {c : Code} {H : Heap} {locs : List Loc} {cells slots : Nat} {Q : State → Prop}
variable {pc : Nat} {ls : Array Slot} {rest : List Value} {g : Gw} {A : Nat → Prop} {cc : ByteArray} {nL d mc ms : Nat} {own : String}
theorem n_arrF {t : Nat} (hx : p.tables.exec = Jvm.exec) (hb : c.code = cc) (hown : s.vm.findClass own = some m.cls) (hts : ∀ w ∈ U0w, w.before args s = true) (hK : va_K (gD g) vwCl (tyW g) s) (hA : ∀ q, s.heap.size ≤ q → A q) (hnm : meth.name = "<init>") {C : String} {T : u_T} {N ci : Nat} {h0 : Nat} {fs : List Value} {TL : va_W} {H : Heap} {ls : Array Slot} {locs : List Loc} {cells slots : Nat}
    (hin : ∀ w ∈ u_ws C T N, w ∈ U0w) (ty0 : Nat → FieldType) (hty : ∀ k, k < N → parseFieldDescriptor (T k).2.2.1 = some (ty0 k)) (hnT : ∀ a, a < N → ∀ b, b < N → a ≠ b → (T a).2.1 ≠ (T b).2.1) (hc : vwCl[ci]? = some (C, T, N)) (hfs : fs.length = N)
    (hP : va_P (gD g) vwCl ((h0, .inr (ci, fs)) :: TL) H) (hD : va_D A ((h0, .inr (ci, fs)) :: TL)) (hS : va_S A s.heap H locs)
    {atype : ArrayType} {ty : FieldType} (hty2 : newarray.typeOf atype = ty) (harr : Cond.arrayClass (newarray.typeOf atype) ∈ U0w) (ca : ∀ cA : ClassId, va_K (gD g) vwCl (tyW g ++ [(cA, ty)]) s → cA = gC g t) {n : Int32} {N' : Nat} {a0 : vp_A} (ha : ∀ cA : ClassId, vp_cell cA a0 = arrV cA N' (fun _ => defaultValue ty)) (hn : ¬ n < 0) (hN : n.toNatClampNeg = N') (hbytes : N' * componentBytes ty ≤ 536870912) (hcells : cells + 1 ≤ R.cells) (hslots : slots + N' ≤ R.slots) (hdN : decode cc pc = .ok (.newarray atype, 2))
    (k : Nat) (hk : k < N) {ref : String} {index : Nat} (hlink : Cond.fieldLink own index ref (T k).2.1 (T k).2.2.1 ∈ U0w) (hr1 : (T k).1 = ref) (hfin : (T k).2.2.2 = true) (hdecl : (T k).1 = own) {ty2 : FieldType} (hd : parseFieldDescriptor (T k).2.2.1 = some ty2) (hd2 : ty2 = .array ty) (hdP : decode cc (pc + 2) = .ok (.putfield index, 3))
    (kk : ∀ (q : Nat) (H1 : Heap) (locs1 : List Loc), va_P (gD g) vwCl ((h0, .inr (ci, fs.set k (.ref q))) :: (TL ++ [(q, .inl (gC g t, a0))])) H1 → va_D A ((h0, .inr (ci, fs.set k (.ref q))) :: (TL ++ [(q, .inl (gC g t, a0))])) → va_S A s.heap H1 locs1 → W p l e R s m args below meth c H1 locs1 (cells + 1) (slots + N') Q (F0 m (pc + 2 + 3) ls rest)) : W p l e R s m args below meth c H locs cells slots Q (F0 m pc ls (.int n :: .ref h0 :: rest)) := by
  subst hd2
  subst hr1
  refine va_newa (atype := atype) (ty := ty) (a0 := a0) (N' := N') hx hb (hts _ harr) hty2 hK hP hD hS hA ha hn hN hbytes hcells hslots hdN (fun q cA H hK1 hP2 hD2 hS2 => ?_)
  obtain rfl := ca cA hK1
  exact va_putF (D := gD g) (ci := ci) (v := .ref q) (ty := .array ty) (C := C) (T := T) (N := N) hx hb hts hin ty0 hty hnT hown hK hP2 hD2 hS2 0 rfl hc k hk (hts _ hlink) (fun _ h9 => h9) hfin hnm hdecl hd rfl rfl (by rw [hfs]; exact hk) hdP (fun H locs hP3 hD3 hS3 => kk q H locs hP3 hD3 hS3)
end NAP
def L_X10 : List (Nat × Nat × Nat) := (50, 0, 0) :: ((((((((((((((((((((((((((((((((((((((((([] ++ [(51, 0, 0)]) ++ [(52, 0, 0)]) ++ [(53, 0, 0)]) ++ [(54, 0, 0)]) ++ [(55, 0, 0)]) ++ [(56, 0, 0)]) ++ [(57, 0, 0)]) ++ [(58, 0, 0)]) ++ [(59, 0, 0)]) ++ [(60, 0, 0)]) ++ [(61, 0, 0)]) ++ [(62, 0, 0)]) ++ [(63, 0, 0)]) ++ [(64, 0, 0)]) ++ [(65, 0, 0)]) ++ [(66, 0, 0)]) ++ [(67, 0, 0)]) ++ [(68, 0, 0)]) ++ [(69, 0, 0)]) ++ [(70, 0, 0)]) ++ [(71, 0, 0)]) ++ [(72, 0, 0)]) ++ [(73, 0, 0)]) ++ [(74, 0, 0)]) ++ [(75, 0, 0)]) ++ [(76, 0, 0)]) ++ [(77, 0, 0)]) ++ [(78, 0, 0)]) ++ [(79, 0, 0)]) ++ [(80, 0, 0)]) ++ [(81, 0, 0)]) ++ [(82, 0, 0)]) ++ [(83, 0, 0)]) ++ [(84, 0, 0)]) ++ [(85, 0, 0)]) ++ [(86, 0, 0)]) ++ [(87, 0, 0)]) ++ [(88, 0, 0)]) ++ [(89, 0, 0)]) ++ [(90, 0, 0)]) ++ [(91, 0, 0)])
set_option maxRecDepth 100000 in
set_option maxHeartbeats 8000000 in
theorem n_X10_init (g : Gw) (l : Launch) (h0 sz : Nat) : NMet g l yX10_init cX10_init 1 1 41 19678 h0 10 [.int 0, .null, .null, .null, .null, .int 0, .null, .int 0, .int 0, .int 0, .int 0, .int 0, .int 0, .int 0, .null, .null, .null, .null, .null, .null, .null, .int 0, .null, .int 0, .int 0, .int 0, .int 0, .int 0, .null, .null, .null, .null, .null, .null, .null, .null, .null, .null, .null, .null, .null, .null, .null, .null, .null, .null, .null, .null, .null, .null, .null, .null, .null, .null, .null, .null, .int 0, .int 0, .int 0, .int 0, .int 0, .int 0] sz (wsLw g (L_X10)) := by
  refine NMet.of (own := RX10) (by decide +kernel) rfl rfl (by decide) ?_
  intro p e R s m args below meth c A hx hb hml hown hts hK hCN hA hR hlk hr hnm H ls hP hD hS hl
  obtain ⟨fs0, hf0⟩ : ∃ x, x = ([.int 0, .null, .null, .null, .null, .int 0, .null, .int 0, .int 0, .int 0, .int 0, .int 0, .int 0, .int 0, .null, .null, .null, .null, .null, .null, .null, .int 0, .null, .int 0, .int 0, .int 0, .int 0, .int 0, .null, .null, .null, .null, .null, .null, .null, .null, .null, .null, .null, .null, .null, .null, .null, .null, .null, .null, .null, .null, .null, .null, .null, .null, .null, .null, .null, .null, .int 0, .int 0, .int 0, .int 0, .int 0, .int 0] : List Value) := ⟨_, rfl⟩
  rw [← hf0] at hP hD
  have e0 : fs0.length = 62 := by rw [hf0]; rfl
  refine lv_aload_n hx hb dX10_init_0 rfl (lv_at hl 0 rfl) ?_
  refine W.objInit hx hb hown (hts _ u_1105) (hts _ u_151) (hts _ u_152) rfl (by rw [hml]; exact hl.1) rfl dX10_init_1 (by rw [hR]; exact Nat.le_of_ble_eq_true rfl) (by rw [hR]; exact Nat.le_of_ble_eq_true rfl) ?_
  refine W.eq (g2 := F0 m 4 ls []) rfl ?_
  refine lv_aload_n hx hb dX10_init_4 rfl (lv_at hl 0 rfl) ?_
  refine lv_sipush (v := 201) hx hb dX10_init_5 (by decide) ?_
  refine n_arrF (t := 0) (N := 62) (a0 := (201, .inl (fun _ => 0))) (N' := 201) (ty := .int) (atype := .int) hx hb hown hts hK hA hnm inUX10 tyX10 tyX10_ok nmX10 rfl e0 hP hD hS rfl u_173 (fun cA h => ca_0 hK h) (fun cA => rfl) (by decide) (by decide) (by decide) (by rw [hR]; exact Nat.le_of_ble_eq_true rfl) (by rw [hR]; exact Nat.le_of_ble_eq_true rfl) dX10_init_8 1 (by decide) u_1106 rfl rfl rfl (by decide +kernel) rfl dX10_init_10 (fun q1 H2 locs2 hP2 hD2 hS2 => ?_)
  clear hP hD hS
  have e1 := (List.length_set (as := _) (i := 1) (a := Value.ref q1)).trans e0
  have hP := hP2
  have hD := hD2
  have hS := hS2
  clear hP2 hD2 hS2
  refine W.widen (k := 1) (n := 201) (by decide) (by decide) ?_
  refine lv_aload_n hx hb dX10_init_13 rfl (lv_at hl 0 rfl) ?_
  refine lv_sipush (v := 603) hx hb dX10_init_14 (by decide) ?_
  refine n_arrF (t := 0) (N := 62) (a0 := (603, .inl (fun _ => 0))) (N' := 603) (ty := .int) (atype := .int) hx hb hown hts hK hA hnm inUX10 tyX10 tyX10_ok nmX10 rfl e1 hP hD hS rfl u_173 (fun cA h => ca_0 hK h) (fun cA => rfl) (by decide) (by decide) (by decide) (by rw [hR]; exact Nat.le_of_ble_eq_true rfl) (by rw [hR]; exact Nat.le_of_ble_eq_true rfl) dX10_init_17 2 (by decide) u_1107 rfl rfl rfl (by decide +kernel) rfl dX10_init_19 (fun q2 H2 locs2 hP2 hD2 hS2 => ?_)
  clear hP hD hS
  have e2 := (List.length_set (as := _) (i := 2) (a := Value.ref q2)).trans e1
  have hP := hP2
  have hD := hD2
  have hS := hS2
  clear hP2 hD2 hS2
  refine W.widen (k := 2) (n := 804) (by decide) (by decide) ?_
  refine lv_aload_n hx hb dX10_init_22 rfl (lv_at hl 0 rfl) ?_
  refine lv_iconst (v := 3) hx hb dX10_init_23 (by decide) ?_
  refine n_arrF (t := 1) (N := 62) (a0 := (3, .inl (fun _ => 0))) (N' := 3) (ty := .boolean) (atype := .boolean) hx hb hown hts hK hA hnm inUX10 tyX10 tyX10_ok nmX10 rfl e2 hP hD hS rfl u_257 (fun cA h => ca_1 hK h) (fun cA => rfl) (by decide) (by decide) (by decide) (by rw [hR]; exact Nat.le_of_ble_eq_true rfl) (by rw [hR]; exact Nat.le_of_ble_eq_true rfl) dX10_init_24 3 (by decide) u_1108 rfl rfl rfl (by decide +kernel) rfl dX10_init_26 (fun q3 H2 locs2 hP2 hD2 hS2 => ?_)
  clear hP hD hS
  have e3 := (List.length_set (as := _) (i := 3) (a := Value.ref q3)).trans e2
  have hP := hP2
  have hD := hD2
  have hS := hS2
  clear hP2 hD2 hS2
  refine W.widen (k := 3) (n := 807) (by decide) (by decide) ?_
  refine lv_aload_n hx hb dX10_init_29 rfl (lv_at hl 0 rfl) ?_
  refine lv_sipush (v := 1000) hx hb dX10_init_30 (by decide) ?_
  refine n_arrF (t := 2) (N := 62) (a0 := (1000, .inl (fun _ => 0))) (N' := 1000) (ty := .byte) (atype := .byte) hx hb hown hts hK hA hnm inUX10 tyX10 tyX10_ok nmX10 rfl e3 hP hD hS rfl u_690 (fun cA h => ca_2 hK h) (fun cA => rfl) (by decide) (by decide) (by decide) (by rw [hR]; exact Nat.le_of_ble_eq_true rfl) (by rw [hR]; exact Nat.le_of_ble_eq_true rfl) dX10_init_33 4 (by decide) u_1109 rfl rfl rfl (by decide +kernel) rfl dX10_init_35 (fun q4 H2 locs2 hP2 hD2 hS2 => ?_)
  clear hP hD hS
  have e4 := (List.length_set (as := _) (i := 4) (a := Value.ref q4)).trans e3
  have hP := hP2
  have hD := hD2
  have hS := hS2
  clear hP2 hD2 hS2
  refine W.widen (k := 4) (n := 1807) (by decide) (by decide) ?_
  refine lv_aload_n hx hb dX10_init_38 rfl (lv_at hl 0 rfl) ?_
  refine lv_iconst (v := 5) hx hb dX10_init_39 (by decide) ?_
  refine n_arrF (t := 0) (N := 62) (a0 := (5, .inl (fun _ => 0))) (N' := 5) (ty := .int) (atype := .int) hx hb hown hts hK hA hnm inUX10 tyX10 tyX10_ok nmX10 rfl e4 hP hD hS rfl u_173 (fun cA h => ca_0 hK h) (fun cA => rfl) (by decide) (by decide) (by decide) (by rw [hR]; exact Nat.le_of_ble_eq_true rfl) (by rw [hR]; exact Nat.le_of_ble_eq_true rfl) dX10_init_40 6 (by decide) u_1111 rfl rfl rfl (by decide +kernel) rfl dX10_init_42 (fun q5 H2 locs2 hP2 hD2 hS2 => ?_)
  clear hP hD hS
  have e5 := (List.length_set (as := _) (i := 6) (a := Value.ref q5)).trans e4
  have hP := hP2
  have hD := hD2
  have hS := hS2
  clear hP2 hD2 hS2
  refine W.widen (k := 5) (n := 1812) (by decide) (by decide) ?_
  refine lv_aload_n hx hb dX10_init_45 rfl (lv_at hl 0 rfl) ?_
  refine lv_iconst (v := (-1)) hx hb dX10_init_46 (by decide) ?_
  refine va_put (D := gD g) (ci := 10) (v := .int (-1)) (ty := .int) (C := RX10) (T := TX10) (N := 62) hx hb hts inUX10 tyX10 tyX10_ok nmX10 hown hK hP hD hS 0 rfl rfl 13 (by decide) (hts _ u_1118) (fun _ h9 => h9) rfl (by decide +kernel) rfl rfl (by rw [e5]; decide) dX10_init_47 (fun H3 locs3 hP2 hD2 hS2 => ?_)
  clear hP hD hS
  have e1013 := (List.length_set (as := _) (i := 13) (a := Value.int (-1))).trans e5
  have e5 := e1013
  clear e1013
  have hP := hP2
  have hD := hD2
  have hS := hS2
  clear hP2 hD2 hS2
  refine lv_aload_n hx hb dX10_init_50 rfl (lv_at hl 0 rfl) ?_
  refine lv_sipush (v := 201) hx hb dX10_init_51 (by decide) ?_
  refine n_arrF (t := 0) (N := 62) (a0 := (201, .inl (fun _ => 0))) (N' := 201) (ty := .int) (atype := .int) hx hb hown hts hK hA hnm inUX10 tyX10 tyX10_ok nmX10 rfl e5 hP hD hS rfl u_173 (fun cA h => ca_0 hK h) (fun cA => rfl) (by decide) (by decide) (by decide) (by rw [hR]; exact Nat.le_of_ble_eq_true rfl) (by rw [hR]; exact Nat.le_of_ble_eq_true rfl) dX10_init_54 14 (by decide) u_1119 rfl rfl rfl (by decide +kernel) rfl dX10_init_56 (fun q6 H2 locs2 hP2 hD2 hS2 => ?_)
  clear hP hD hS
  have e6 := (List.length_set (as := _) (i := 14) (a := Value.ref q6)).trans e5
  have hP := hP2
  have hD := hD2
  have hS := hS2
  clear hP2 hD2 hS2
  refine W.widen (k := 6) (n := 2013) (by decide) (by decide) ?_
  refine lv_aload_n hx hb dX10_init_59 rfl (lv_at hl 0 rfl) ?_
  refine lv_bipush (v := 6) hx hb dX10_init_60 (by decide) ?_
  refine n_arrF (t := 0) (N := 62) (a0 := (6, .inl (fun _ => 0))) (N' := 6) (ty := .int) (atype := .int) hx hb hown hts hK hA hnm inUX10 tyX10 tyX10_ok nmX10 rfl e6 hP hD hS rfl u_173 (fun cA h => ca_0 hK h) (fun cA => rfl) (by decide) (by decide) (by decide) (by rw [hR]; exact Nat.le_of_ble_eq_true rfl) (by rw [hR]; exact Nat.le_of_ble_eq_true rfl) dX10_init_62 15 (by decide) u_1120 rfl rfl rfl (by decide +kernel) rfl dX10_init_64 (fun q7 H2 locs2 hP2 hD2 hS2 => ?_)
  clear hP hD hS
  have e7 := (List.length_set (as := _) (i := 15) (a := Value.ref q7)).trans e6
  have hP := hP2
  have hD := hD2
  have hS := hS2
  clear hP2 hD2 hS2
  refine W.widen (k := 7) (n := 2019) (by decide) (by decide) ?_
  refine lv_aload_n hx hb dX10_init_67 rfl (lv_at hl 0 rfl) ?_
  refine lv_iconst (v := 5) hx hb dX10_init_68 (by decide) ?_
  refine n_arrF (t := 0) (N := 62) (a0 := (5, .inl (fun _ => 0))) (N' := 5) (ty := .int) (atype := .int) hx hb hown hts hK hA hnm inUX10 tyX10 tyX10_ok nmX10 rfl e7 hP hD hS rfl u_173 (fun cA h => ca_0 hK h) (fun cA => rfl) (by decide) (by decide) (by decide) (by rw [hR]; exact Nat.le_of_ble_eq_true rfl) (by rw [hR]; exact Nat.le_of_ble_eq_true rfl) dX10_init_69 16 (by decide) u_1121 rfl rfl rfl (by decide +kernel) rfl dX10_init_71 (fun q8 H2 locs2 hP2 hD2 hS2 => ?_)
  clear hP hD hS
  have e8 := (List.length_set (as := _) (i := 16) (a := Value.ref q8)).trans e7
  have hP := hP2
  have hD := hD2
  have hS := hS2
  clear hP2 hD2 hS2
  refine W.widen (k := 8) (n := 2024) (by decide) (by decide) ?_
  refine lv_aload_n hx hb dX10_init_74 rfl (lv_at hl 0 rfl) ?_
  refine lv_iconst (v := 5) hx hb dX10_init_75 (by decide) ?_
  refine n_arrF (t := 0) (N := 62) (a0 := (5, .inl (fun _ => 0))) (N' := 5) (ty := .int) (atype := .int) hx hb hown hts hK hA hnm inUX10 tyX10 tyX10_ok nmX10 rfl e8 hP hD hS rfl u_173 (fun cA h => ca_0 hK h) (fun cA => rfl) (by decide) (by decide) (by decide) (by rw [hR]; exact Nat.le_of_ble_eq_true rfl) (by rw [hR]; exact Nat.le_of_ble_eq_true rfl) dX10_init_76 17 (by decide) u_1122 rfl rfl rfl (by decide +kernel) rfl dX10_init_78 (fun q9 H2 locs2 hP2 hD2 hS2 => ?_)
  clear hP hD hS
  have e9 := (List.length_set (as := _) (i := 17) (a := Value.ref q9)).trans e8
  have hP := hP2
  have hD := hD2
  have hS := hS2
  clear hP2 hD2 hS2
  refine W.widen (k := 9) (n := 2029) (by decide) (by decide) ?_
  refine lv_aload_n hx hb dX10_init_81 rfl (lv_at hl 0 rfl) ?_
  refine lv_iconst (v := 5) hx hb dX10_init_82 (by decide) ?_
  refine n_arrF (t := 0) (N := 62) (a0 := (5, .inl (fun _ => 0))) (N' := 5) (ty := .int) (atype := .int) hx hb hown hts hK hA hnm inUX10 tyX10 tyX10_ok nmX10 rfl e9 hP hD hS rfl u_173 (fun cA h => ca_0 hK h) (fun cA => rfl) (by decide) (by decide) (by decide) (by rw [hR]; exact Nat.le_of_ble_eq_true rfl) (by rw [hR]; exact Nat.le_of_ble_eq_true rfl) dX10_init_83 18 (by decide) u_1123 rfl rfl rfl (by decide +kernel) rfl dX10_init_85 (fun q10 H2 locs2 hP2 hD2 hS2 => ?_)
  clear hP hD hS
  have e10 := (List.length_set (as := _) (i := 18) (a := Value.ref q10)).trans e9
  have hP := hP2
  have hD := hD2
  have hS := hS2
  clear hP2 hD2 hS2
  refine W.widen (k := 10) (n := 2034) (by decide) (by decide) ?_
  refine lv_aload_n hx hb dX10_init_88 rfl (lv_at hl 0 rfl) ?_
  refine lv_iconst (v := 5) hx hb dX10_init_89 (by decide) ?_
  refine n_arrF (t := 0) (N := 62) (a0 := (5, .inl (fun _ => 0))) (N' := 5) (ty := .int) (atype := .int) hx hb hown hts hK hA hnm inUX10 tyX10 tyX10_ok nmX10 rfl e10 hP hD hS rfl u_173 (fun cA h => ca_0 hK h) (fun cA => rfl) (by decide) (by decide) (by decide) (by rw [hR]; exact Nat.le_of_ble_eq_true rfl) (by rw [hR]; exact Nat.le_of_ble_eq_true rfl) dX10_init_90 19 (by decide) u_1124 rfl rfl rfl (by decide +kernel) rfl dX10_init_92 (fun q11 H2 locs2 hP2 hD2 hS2 => ?_)
  clear hP hD hS
  have e11 := (List.length_set (as := _) (i := 19) (a := Value.ref q11)).trans e10
  have hP := hP2
  have hD := hD2
  have hS := hS2
  clear hP2 hD2 hS2
  refine W.widen (k := 11) (n := 2039) (by decide) (by decide) ?_
  refine lv_aload_n hx hb dX10_init_95 rfl (lv_at hl 0 rfl) ?_
  refine lv_iconst (v := 5) hx hb dX10_init_96 (by decide) ?_
  refine n_arrF (t := 0) (N := 62) (a0 := (5, .inl (fun _ => 0))) (N' := 5) (ty := .int) (atype := .int) hx hb hown hts hK hA hnm inUX10 tyX10 tyX10_ok nmX10 rfl e11 hP hD hS rfl u_173 (fun cA h => ca_0 hK h) (fun cA => rfl) (by decide) (by decide) (by decide) (by rw [hR]; exact Nat.le_of_ble_eq_true rfl) (by rw [hR]; exact Nat.le_of_ble_eq_true rfl) dX10_init_97 20 (by decide) u_1125 rfl rfl rfl (by decide +kernel) rfl dX10_init_99 (fun q12 H2 locs2 hP2 hD2 hS2 => ?_)
  clear hP hD hS
  have e12 := (List.length_set (as := _) (i := 20) (a := Value.ref q12)).trans e11
  have hP := hP2
  have hD := hD2
  have hS := hS2
  clear hP2 hD2 hS2
  refine W.widen (k := 12) (n := 2044) (by decide) (by decide) ?_
  refine lv_aload_n hx hb dX10_init_102 rfl (lv_at hl 0 rfl) ?_
  refine lv_bipush (v := 64) hx hb dX10_init_103 (by decide) ?_
  refine n_arrF (t := 0) (N := 62) (a0 := (64, .inl (fun _ => 0))) (N' := 64) (ty := .int) (atype := .int) hx hb hown hts hK hA hnm inUX10 tyX10 tyX10_ok nmX10 rfl e12 hP hD hS rfl u_173 (fun cA h => ca_0 hK h) (fun cA => rfl) (by decide) (by decide) (by decide) (by rw [hR]; exact Nat.le_of_ble_eq_true rfl) (by rw [hR]; exact Nat.le_of_ble_eq_true rfl) dX10_init_105 22 (by decide) u_1127 rfl rfl rfl (by decide +kernel) rfl dX10_init_107 (fun q13 H2 locs2 hP2 hD2 hS2 => ?_)
  clear hP hD hS
  have e13 := (List.length_set (as := _) (i := 22) (a := Value.ref q13)).trans e12
  have hP := hP2
  have hD := hD2
  have hS := hS2
  clear hP2 hD2 hS2
  refine W.widen (k := 13) (n := 2108) (by decide) (by decide) ?_
  refine lv_aload_n hx hb dX10_init_110 rfl (lv_at hl 0 rfl) ?_
  refine lv_iconst (v := (-1)) hx hb dX10_init_111 (by decide) ?_
  refine va_put (D := gD g) (ci := 10) (v := .int (-1)) (ty := .int) (C := RX10) (T := TX10) (N := 62) hx hb hts inUX10 tyX10 tyX10_ok nmX10 hown hK hP hD hS 0 rfl rfl 23 (by decide) (hts _ u_1128) (fun _ h9 => h9) rfl (by decide +kernel) rfl rfl (by rw [e13]; decide) dX10_init_112 (fun H3 locs3 hP2 hD2 hS2 => ?_)
  clear hP hD hS
  have e1023 := (List.length_set (as := _) (i := 23) (a := Value.int (-1))).trans e13
  have e13 := e1023
  clear e1023
  have hP := hP2
  have hD := hD2
  have hS := hS2
  clear hP2 hD2 hS2
  refine lv_aload_n hx hb dX10_init_115 rfl (lv_at hl 0 rfl) ?_
  refine lv_iconst (v := (-1)) hx hb dX10_init_116 (by decide) ?_
  refine va_put (D := gD g) (ci := 10) (v := .int (-1)) (ty := .int) (C := RX10) (T := TX10) (N := 62) hx hb hts inUX10 tyX10 tyX10_ok nmX10 hown hK hP hD hS 0 rfl rfl 24 (by decide) (hts _ u_1129) (fun _ h9 => h9) rfl (by decide +kernel) rfl rfl (by rw [e13]; decide) dX10_init_117 (fun H3 locs3 hP2 hD2 hS2 => ?_)
  clear hP hD hS
  have e1024 := (List.length_set (as := _) (i := 24) (a := Value.int (-1))).trans e13
  have e13 := e1024
  clear e1024
  have hP := hP2
  have hD := hD2
  have hS := hS2
  clear hP2 hD2 hS2
  refine lv_aload_n hx hb dX10_init_120 rfl (lv_at hl 0 rfl) ?_
  refine lv_iconst (v := 5) hx hb dX10_init_121 (by decide) ?_
  refine n_arrF (t := 0) (N := 62) (a0 := (5, .inl (fun _ => 0))) (N' := 5) (ty := .int) (atype := .int) hx hb hown hts hK hA hnm inUX10 tyX10 tyX10_ok nmX10 rfl e13 hP hD hS rfl u_173 (fun cA h => ca_0 hK h) (fun cA => rfl) (by decide) (by decide) (by decide) (by rw [hR]; exact Nat.le_of_ble_eq_true rfl) (by rw [hR]; exact Nat.le_of_ble_eq_true rfl) dX10_init_122 28 (by decide) u_1133 rfl rfl rfl (by decide +kernel) rfl dX10_init_124 (fun q14 H2 locs2 hP2 hD2 hS2 => ?_)
  clear hP hD hS
  have e14 := (List.length_set (as := _) (i := 28) (a := Value.ref q14)).trans e13
  have hP := hP2
  have hD := hD2
  have hS := hS2
  clear hP2 hD2 hS2
  refine W.widen (k := 14) (n := 2113) (by decide) (by decide) ?_
  refine lv_aload_n hx hb dX10_init_127 rfl (lv_at hl 0 rfl) ?_
  refine lv_iconst (v := 5) hx hb dX10_init_128 (by decide) ?_
  refine n_arrF (t := 0) (N := 62) (a0 := (5, .inl (fun _ => 0))) (N' := 5) (ty := .int) (atype := .int) hx hb hown hts hK hA hnm inUX10 tyX10 tyX10_ok nmX10 rfl e14 hP hD hS rfl u_173 (fun cA h => ca_0 hK h) (fun cA => rfl) (by decide) (by decide) (by decide) (by rw [hR]; exact Nat.le_of_ble_eq_true rfl) (by rw [hR]; exact Nat.le_of_ble_eq_true rfl) dX10_init_129 29 (by decide) u_1134 rfl rfl rfl (by decide +kernel) rfl dX10_init_131 (fun q15 H2 locs2 hP2 hD2 hS2 => ?_)
  clear hP hD hS
  have e15 := (List.length_set (as := _) (i := 29) (a := Value.ref q15)).trans e14
  have hP := hP2
  have hD := hD2
  have hS := hS2
  clear hP2 hD2 hS2
  refine W.widen (k := 15) (n := 2118) (by decide) (by decide) ?_
  refine lv_aload_n hx hb dX10_init_134 rfl (lv_at hl 0 rfl) ?_
  refine lv_iconst (v := 5) hx hb dX10_init_135 (by decide) ?_
  refine n_arrF (t := 0) (N := 62) (a0 := (5, .inl (fun _ => 0))) (N' := 5) (ty := .int) (atype := .int) hx hb hown hts hK hA hnm inUX10 tyX10 tyX10_ok nmX10 rfl e15 hP hD hS rfl u_173 (fun cA h => ca_0 hK h) (fun cA => rfl) (by decide) (by decide) (by decide) (by rw [hR]; exact Nat.le_of_ble_eq_true rfl) (by rw [hR]; exact Nat.le_of_ble_eq_true rfl) dX10_init_136 30 (by decide) u_1135 rfl rfl rfl (by decide +kernel) rfl dX10_init_138 (fun q16 H2 locs2 hP2 hD2 hS2 => ?_)
  clear hP hD hS
  have e16 := (List.length_set (as := _) (i := 30) (a := Value.ref q16)).trans e15
  have hP := hP2
  have hD := hD2
  have hS := hS2
  clear hP2 hD2 hS2
  refine W.widen (k := 16) (n := 2123) (by decide) (by decide) ?_
  refine lv_aload_n hx hb dX10_init_141 rfl (lv_at hl 0 rfl) ?_
  refine lv_iconst (v := 5) hx hb dX10_init_142 (by decide) ?_
  refine n_arrF (t := 0) (N := 62) (a0 := (5, .inl (fun _ => 0))) (N' := 5) (ty := .int) (atype := .int) hx hb hown hts hK hA hnm inUX10 tyX10 tyX10_ok nmX10 rfl e16 hP hD hS rfl u_173 (fun cA h => ca_0 hK h) (fun cA => rfl) (by decide) (by decide) (by decide) (by rw [hR]; exact Nat.le_of_ble_eq_true rfl) (by rw [hR]; exact Nat.le_of_ble_eq_true rfl) dX10_init_143 31 (by decide) u_1136 rfl rfl rfl (by decide +kernel) rfl dX10_init_145 (fun q17 H2 locs2 hP2 hD2 hS2 => ?_)
  clear hP hD hS
  have e17 := (List.length_set (as := _) (i := 31) (a := Value.ref q17)).trans e16
  have hP := hP2
  have hD := hD2
  have hS := hS2
  clear hP2 hD2 hS2
  refine W.widen (k := 17) (n := 2128) (by decide) (by decide) ?_
  refine lv_aload_n hx hb dX10_init_148 rfl (lv_at hl 0 rfl) ?_
  refine lv_iconst (v := 5) hx hb dX10_init_149 (by decide) ?_
  refine n_arrF (t := 0) (N := 62) (a0 := (5, .inl (fun _ => 0))) (N' := 5) (ty := .int) (atype := .int) hx hb hown hts hK hA hnm inUX10 tyX10 tyX10_ok nmX10 rfl e17 hP hD hS rfl u_173 (fun cA h => ca_0 hK h) (fun cA => rfl) (by decide) (by decide) (by decide) (by rw [hR]; exact Nat.le_of_ble_eq_true rfl) (by rw [hR]; exact Nat.le_of_ble_eq_true rfl) dX10_init_150 32 (by decide) u_1137 rfl rfl rfl (by decide +kernel) rfl dX10_init_152 (fun q18 H2 locs2 hP2 hD2 hS2 => ?_)
  clear hP hD hS
  have e18 := (List.length_set (as := _) (i := 32) (a := Value.ref q18)).trans e17
  have hP := hP2
  have hD := hD2
  have hS := hS2
  clear hP2 hD2 hS2
  refine W.widen (k := 18) (n := 2133) (by decide) (by decide) ?_
  refine lv_aload_n hx hb dX10_init_155 rfl (lv_at hl 0 rfl) ?_
  refine lv_iconst (v := 5) hx hb dX10_init_156 (by decide) ?_
  refine n_arrF (t := 0) (N := 62) (a0 := (5, .inl (fun _ => 0))) (N' := 5) (ty := .int) (atype := .int) hx hb hown hts hK hA hnm inUX10 tyX10 tyX10_ok nmX10 rfl e18 hP hD hS rfl u_173 (fun cA h => ca_0 hK h) (fun cA => rfl) (by decide) (by decide) (by decide) (by rw [hR]; exact Nat.le_of_ble_eq_true rfl) (by rw [hR]; exact Nat.le_of_ble_eq_true rfl) dX10_init_157 33 (by decide) u_1138 rfl rfl rfl (by decide +kernel) rfl dX10_init_159 (fun q19 H2 locs2 hP2 hD2 hS2 => ?_)
  clear hP hD hS
  have e19 := (List.length_set (as := _) (i := 33) (a := Value.ref q19)).trans e18
  have hP := hP2
  have hD := hD2
  have hS := hS2
  clear hP2 hD2 hS2
  refine W.widen (k := 19) (n := 2138) (by decide) (by decide) ?_
  refine lv_aload_n hx hb dX10_init_162 rfl (lv_at hl 0 rfl) ?_
  refine lv_iconst (v := 5) hx hb dX10_init_163 (by decide) ?_
  refine n_arrF (t := 0) (N := 62) (a0 := (5, .inl (fun _ => 0))) (N' := 5) (ty := .int) (atype := .int) hx hb hown hts hK hA hnm inUX10 tyX10 tyX10_ok nmX10 rfl e19 hP hD hS rfl u_173 (fun cA h => ca_0 hK h) (fun cA => rfl) (by decide) (by decide) (by decide) (by rw [hR]; exact Nat.le_of_ble_eq_true rfl) (by rw [hR]; exact Nat.le_of_ble_eq_true rfl) dX10_init_164 34 (by decide) u_1139 rfl rfl rfl (by decide +kernel) rfl dX10_init_166 (fun q20 H2 locs2 hP2 hD2 hS2 => ?_)
  clear hP hD hS
  have e20 := (List.length_set (as := _) (i := 34) (a := Value.ref q20)).trans e19
  have hP := hP2
  have hD := hD2
  have hS := hS2
  clear hP2 hD2 hS2
  refine W.widen (k := 20) (n := 2143) (by decide) (by decide) ?_
  refine lv_aload_n hx hb dX10_init_169 rfl (lv_at hl 0 rfl) ?_
  refine lv_iconst (v := 5) hx hb dX10_init_170 (by decide) ?_
  refine n_arrF (t := 1) (N := 62) (a0 := (5, .inl (fun _ => 0))) (N' := 5) (ty := .boolean) (atype := .boolean) hx hb hown hts hK hA hnm inUX10 tyX10 tyX10_ok nmX10 rfl e20 hP hD hS rfl u_257 (fun cA h => ca_1 hK h) (fun cA => rfl) (by decide) (by decide) (by decide) (by rw [hR]; exact Nat.le_of_ble_eq_true rfl) (by rw [hR]; exact Nat.le_of_ble_eq_true rfl) dX10_init_171 35 (by decide) u_1140 rfl rfl rfl (by decide +kernel) rfl dX10_init_173 (fun q21 H2 locs2 hP2 hD2 hS2 => ?_)
  clear hP hD hS
  have e21 := (List.length_set (as := _) (i := 35) (a := Value.ref q21)).trans e20
  have hP := hP2
  have hD := hD2
  have hS := hS2
  clear hP2 hD2 hS2
  refine W.widen (k := 21) (n := 2148) (by decide) (by decide) ?_
  refine lv_aload_n hx hb dX10_init_176 rfl (lv_at hl 0 rfl) ?_
  refine lv_iconst (v := 5) hx hb dX10_init_177 (by decide) ?_
  refine n_arrF (t := 0) (N := 62) (a0 := (5, .inl (fun _ => 0))) (N' := 5) (ty := .int) (atype := .int) hx hb hown hts hK hA hnm inUX10 tyX10 tyX10_ok nmX10 rfl e21 hP hD hS rfl u_173 (fun cA h => ca_0 hK h) (fun cA => rfl) (by decide) (by decide) (by decide) (by rw [hR]; exact Nat.le_of_ble_eq_true rfl) (by rw [hR]; exact Nat.le_of_ble_eq_true rfl) dX10_init_178 36 (by decide) u_1141 rfl rfl rfl (by decide +kernel) rfl dX10_init_180 (fun q22 H2 locs2 hP2 hD2 hS2 => ?_)
  clear hP hD hS
  have e22 := (List.length_set (as := _) (i := 36) (a := Value.ref q22)).trans e21
  have hP := hP2
  have hD := hD2
  have hS := hS2
  clear hP2 hD2 hS2
  refine W.widen (k := 22) (n := 2153) (by decide) (by decide) ?_
  refine lv_aload_n hx hb dX10_init_183 rfl (lv_at hl 0 rfl) ?_
  refine lv_iconst (v := 5) hx hb dX10_init_184 (by decide) ?_
  refine n_arrF (t := 0) (N := 62) (a0 := (5, .inl (fun _ => 0))) (N' := 5) (ty := .int) (atype := .int) hx hb hown hts hK hA hnm inUX10 tyX10 tyX10_ok nmX10 rfl e22 hP hD hS rfl u_173 (fun cA h => ca_0 hK h) (fun cA => rfl) (by decide) (by decide) (by decide) (by rw [hR]; exact Nat.le_of_ble_eq_true rfl) (by rw [hR]; exact Nat.le_of_ble_eq_true rfl) dX10_init_185 37 (by decide) u_1142 rfl rfl rfl (by decide +kernel) rfl dX10_init_187 (fun q23 H2 locs2 hP2 hD2 hS2 => ?_)
  clear hP hD hS
  have e23 := (List.length_set (as := _) (i := 37) (a := Value.ref q23)).trans e22
  have hP := hP2
  have hD := hD2
  have hS := hS2
  clear hP2 hD2 hS2
  refine W.widen (k := 23) (n := 2158) (by decide) (by decide) ?_
  refine lv_aload_n hx hb dX10_init_190 rfl (lv_at hl 0 rfl) ?_
  refine lv_iconst (v := 5) hx hb dX10_init_191 (by decide) ?_
  refine n_arrF (t := 3) (N := 62) (a0 := (5, .inr (.inr (.inl (fun _ => 0))))) (N' := 5) (ty := .float) (atype := .float) hx hb hown hts hK hA hnm inUX10 tyX10 tyX10_ok nmX10 rfl e23 hP hD hS rfl u_1167 (fun cA h => ca_3 hK h) (fun cA => rfl) (by decide) (by decide) (by decide) (by rw [hR]; exact Nat.le_of_ble_eq_true rfl) (by rw [hR]; exact Nat.le_of_ble_eq_true rfl) dX10_init_192 38 (by decide) u_1143 rfl rfl rfl (by decide +kernel) rfl dX10_init_194 (fun q24 H2 locs2 hP2 hD2 hS2 => ?_)
  clear hP hD hS
  have e24 := (List.length_set (as := _) (i := 38) (a := Value.ref q24)).trans e23
  have hP := hP2
  have hD := hD2
  have hS := hS2
  clear hP2 hD2 hS2
  refine W.widen (k := 24) (n := 2163) (by decide) (by decide) ?_
  refine lv_aload_n hx hb dX10_init_197 rfl (lv_at hl 0 rfl) ?_
  refine lv_iconst (v := 5) hx hb dX10_init_198 (by decide) ?_
  refine n_arrF (t := 0) (N := 62) (a0 := (5, .inl (fun _ => 0))) (N' := 5) (ty := .int) (atype := .int) hx hb hown hts hK hA hnm inUX10 tyX10 tyX10_ok nmX10 rfl e24 hP hD hS rfl u_173 (fun cA h => ca_0 hK h) (fun cA => rfl) (by decide) (by decide) (by decide) (by rw [hR]; exact Nat.le_of_ble_eq_true rfl) (by rw [hR]; exact Nat.le_of_ble_eq_true rfl) dX10_init_199 39 (by decide) u_1144 rfl rfl rfl (by decide +kernel) rfl dX10_init_201 (fun q25 H2 locs2 hP2 hD2 hS2 => ?_)
  clear hP hD hS
  have e25 := (List.length_set (as := _) (i := 39) (a := Value.ref q25)).trans e24
  have hP := hP2
  have hD := hD2
  have hS := hS2
  clear hP2 hD2 hS2
  refine W.widen (k := 25) (n := 2168) (by decide) (by decide) ?_
  refine lv_aload_n hx hb dX10_init_204 rfl (lv_at hl 0 rfl) ?_
  refine lv_iconst (v := 5) hx hb dX10_init_205 (by decide) ?_
  refine n_arrF (t := 1) (N := 62) (a0 := (5, .inl (fun _ => 0))) (N' := 5) (ty := .boolean) (atype := .boolean) hx hb hown hts hK hA hnm inUX10 tyX10 tyX10_ok nmX10 rfl e25 hP hD hS rfl u_257 (fun cA h => ca_1 hK h) (fun cA => rfl) (by decide) (by decide) (by decide) (by rw [hR]; exact Nat.le_of_ble_eq_true rfl) (by rw [hR]; exact Nat.le_of_ble_eq_true rfl) dX10_init_206 40 (by decide) u_1145 rfl rfl rfl (by decide +kernel) rfl dX10_init_208 (fun q26 H2 locs2 hP2 hD2 hS2 => ?_)
  clear hP hD hS
  have e26 := (List.length_set (as := _) (i := 40) (a := Value.ref q26)).trans e25
  have hP := hP2
  have hD := hD2
  have hS := hS2
  clear hP2 hD2 hS2
  refine W.widen (k := 26) (n := 2173) (by decide) (by decide) ?_
  refine lv_aload_n hx hb dX10_init_211 rfl (lv_at hl 0 rfl) ?_
  refine lv_iconst (v := 5) hx hb dX10_init_212 (by decide) ?_
  refine n_arrF (t := 0) (N := 62) (a0 := (5, .inl (fun _ => 0))) (N' := 5) (ty := .int) (atype := .int) hx hb hown hts hK hA hnm inUX10 tyX10 tyX10_ok nmX10 rfl e26 hP hD hS rfl u_173 (fun cA h => ca_0 hK h) (fun cA => rfl) (by decide) (by decide) (by decide) (by rw [hR]; exact Nat.le_of_ble_eq_true rfl) (by rw [hR]; exact Nat.le_of_ble_eq_true rfl) dX10_init_213 41 (by decide) u_1146 rfl rfl rfl (by decide +kernel) rfl dX10_init_215 (fun q27 H2 locs2 hP2 hD2 hS2 => ?_)
  clear hP hD hS
  have e27 := (List.length_set (as := _) (i := 41) (a := Value.ref q27)).trans e26
  have hP := hP2
  have hD := hD2
  have hS := hS2
  clear hP2 hD2 hS2
  refine W.widen (k := 27) (n := 2178) (by decide) (by decide) ?_
  refine lv_aload_n hx hb dX10_init_218 rfl (lv_at hl 0 rfl) ?_
  refine lv_iconst (v := 5) hx hb dX10_init_219 (by decide) ?_
  refine n_arrF (t := 0) (N := 62) (a0 := (5, .inl (fun _ => 0))) (N' := 5) (ty := .int) (atype := .int) hx hb hown hts hK hA hnm inUX10 tyX10 tyX10_ok nmX10 rfl e27 hP hD hS rfl u_173 (fun cA h => ca_0 hK h) (fun cA => rfl) (by decide) (by decide) (by decide) (by rw [hR]; exact Nat.le_of_ble_eq_true rfl) (by rw [hR]; exact Nat.le_of_ble_eq_true rfl) dX10_init_220 42 (by decide) u_1147 rfl rfl rfl (by decide +kernel) rfl dX10_init_222 (fun q28 H2 locs2 hP2 hD2 hS2 => ?_)
  clear hP hD hS
  have e28 := (List.length_set (as := _) (i := 42) (a := Value.ref q28)).trans e27
  have hP := hP2
  have hD := hD2
  have hS := hS2
  clear hP2 hD2 hS2
  refine W.widen (k := 28) (n := 2183) (by decide) (by decide) ?_
  refine lv_aload_n hx hb dX10_init_225 rfl (lv_at hl 0 rfl) ?_
  refine lv_iconst (v := 5) hx hb dX10_init_226 (by decide) ?_
  refine n_arrF (t := 3) (N := 62) (a0 := (5, .inr (.inr (.inl (fun _ => 0))))) (N' := 5) (ty := .float) (atype := .float) hx hb hown hts hK hA hnm inUX10 tyX10 tyX10_ok nmX10 rfl e28 hP hD hS rfl u_1167 (fun cA h => ca_3 hK h) (fun cA => rfl) (by decide) (by decide) (by decide) (by rw [hR]; exact Nat.le_of_ble_eq_true rfl) (by rw [hR]; exact Nat.le_of_ble_eq_true rfl) dX10_init_227 43 (by decide) u_1148 rfl rfl rfl (by decide +kernel) rfl dX10_init_229 (fun q29 H2 locs2 hP2 hD2 hS2 => ?_)
  clear hP hD hS
  have e29 := (List.length_set (as := _) (i := 43) (a := Value.ref q29)).trans e28
  have hP := hP2
  have hD := hD2
  have hS := hS2
  clear hP2 hD2 hS2
  refine W.widen (k := 29) (n := 2188) (by decide) (by decide) ?_
  refine lv_aload_n hx hb dX10_init_232 rfl (lv_at hl 0 rfl) ?_
  refine lv_iconst (v := 5) hx hb dX10_init_233 (by decide) ?_
  refine n_arrF (t := 4) (N := 62) (a0 := (5, .inr (.inr (.inr (.inl (fun _ => 0)))))) (N' := 5) (ty := .double) (atype := .double) hx hb hown hts hK hA hnm inUX10 tyX10 tyX10_ok nmX10 rfl e29 hP hD hS rfl u_1168 (fun cA h => ca_4 hK h) (fun cA => rfl) (by decide) (by decide) (by decide) (by rw [hR]; exact Nat.le_of_ble_eq_true rfl) (by rw [hR]; exact Nat.le_of_ble_eq_true rfl) dX10_init_234 44 (by decide) u_1149 rfl rfl rfl (by decide +kernel) rfl dX10_init_236 (fun q30 H2 locs2 hP2 hD2 hS2 => ?_)
  clear hP hD hS
  have e30 := (List.length_set (as := _) (i := 44) (a := Value.ref q30)).trans e29
  have hP := hP2
  have hD := hD2
  have hS := hS2
  clear hP2 hD2 hS2
  refine W.widen (k := 30) (n := 2193) (by decide) (by decide) ?_
  refine lv_aload_n hx hb dX10_init_239 rfl (lv_at hl 0 rfl) ?_
  refine lv_iconst (v := 5) hx hb dX10_init_240 (by decide) ?_
  refine n_arrF (t := 0) (N := 62) (a0 := (5, .inl (fun _ => 0))) (N' := 5) (ty := .int) (atype := .int) hx hb hown hts hK hA hnm inUX10 tyX10 tyX10_ok nmX10 rfl e30 hP hD hS rfl u_173 (fun cA h => ca_0 hK h) (fun cA => rfl) (by decide) (by decide) (by decide) (by rw [hR]; exact Nat.le_of_ble_eq_true rfl) (by rw [hR]; exact Nat.le_of_ble_eq_true rfl) dX10_init_241 45 (by decide) u_1150 rfl rfl rfl (by decide +kernel) rfl dX10_init_243 (fun q31 H2 locs2 hP2 hD2 hS2 => ?_)
  clear hP hD hS
  have e31 := (List.length_set (as := _) (i := 45) (a := Value.ref q31)).trans e30
  have hP := hP2
  have hD := hD2
  have hS := hS2
  clear hP2 hD2 hS2
  refine W.widen (k := 31) (n := 2198) (by decide) (by decide) ?_
  refine lv_aload_n hx hb dX10_init_246 rfl (lv_at hl 0 rfl) ?_
  refine lv_sipush (v := 1000) hx hb dX10_init_247 (by decide) ?_
  refine n_arrF (t := 0) (N := 62) (a0 := (1000, .inl (fun _ => 0))) (N' := 1000) (ty := .int) (atype := .int) hx hb hown hts hK hA hnm inUX10 tyX10 tyX10_ok nmX10 rfl e31 hP hD hS rfl u_173 (fun cA h => ca_0 hK h) (fun cA => rfl) (by decide) (by decide) (by decide) (by rw [hR]; exact Nat.le_of_ble_eq_true rfl) (by rw [hR]; exact Nat.le_of_ble_eq_true rfl) dX10_init_250 46 (by decide) u_1151 rfl rfl rfl (by decide +kernel) rfl dX10_init_252 (fun q32 H2 locs2 hP2 hD2 hS2 => ?_)
  clear hP hD hS
  have e32 := (List.length_set (as := _) (i := 46) (a := Value.ref q32)).trans e31
  have hP := hP2
  have hD := hD2
  have hS := hS2
  clear hP2 hD2 hS2
  refine W.widen (k := 32) (n := 3198) (by decide) (by decide) ?_
  refine lv_aload_n hx hb dX10_init_255 rfl (lv_at hl 0 rfl) ?_
  refine lv_sipush (v := 255) hx hb dX10_init_256 (by decide) ?_
  refine n_arrF (t := 0) (N := 62) (a0 := (255, .inl (fun _ => 0))) (N' := 255) (ty := .int) (atype := .int) hx hb hown hts hK hA hnm inUX10 tyX10 tyX10_ok nmX10 rfl e32 hP hD hS rfl u_173 (fun cA h => ca_0 hK h) (fun cA => rfl) (by decide) (by decide) (by decide) (by rw [hR]; exact Nat.le_of_ble_eq_true rfl) (by rw [hR]; exact Nat.le_of_ble_eq_true rfl) dX10_init_259 47 (by decide) u_1152 rfl rfl rfl (by decide +kernel) rfl dX10_init_261 (fun q33 H2 locs2 hP2 hD2 hS2 => ?_)
  clear hP hD hS
  have e33 := (List.length_set (as := _) (i := 47) (a := Value.ref q33)).trans e32
  have hP := hP2
  have hD := hD2
  have hS := hS2
  clear hP2 hD2 hS2
  refine W.widen (k := 33) (n := 3453) (by decide) (by decide) ?_
  refine lv_aload_n hx hb dX10_init_264 rfl (lv_at hl 0 rfl) ?_
  refine lv_bipush (v := 19) hx hb dX10_init_265 (by decide) ?_
  refine n_arrF (t := 1) (N := 62) (a0 := (19, .inl (fun _ => 0))) (N' := 19) (ty := .boolean) (atype := .boolean) hx hb hown hts hK hA hnm inUX10 tyX10 tyX10_ok nmX10 rfl e33 hP hD hS rfl u_257 (fun cA h => ca_1 hK h) (fun cA => rfl) (by decide) (by decide) (by decide) (by rw [hR]; exact Nat.le_of_ble_eq_true rfl) (by rw [hR]; exact Nat.le_of_ble_eq_true rfl) dX10_init_267 48 (by decide) u_1153 rfl rfl rfl (by decide +kernel) rfl dX10_init_269 (fun q34 H2 locs2 hP2 hD2 hS2 => ?_)
  clear hP hD hS
  have e34 := (List.length_set (as := _) (i := 48) (a := Value.ref q34)).trans e33
  have hP := hP2
  have hD := hD2
  have hS := hS2
  clear hP2 hD2 hS2
  refine W.widen (k := 34) (n := 3472) (by decide) (by decide) ?_
  refine lv_aload_n hx hb dX10_init_272 rfl (lv_at hl 0 rfl) ?_
  refine lv_iconst (v := 3) hx hb dX10_init_273 (by decide) ?_
  refine n_arrF (t := 1) (N := 62) (a0 := (3, .inl (fun _ => 0))) (N' := 3) (ty := .boolean) (atype := .boolean) hx hb hown hts hK hA hnm inUX10 tyX10 tyX10_ok nmX10 rfl e34 hP hD hS rfl u_257 (fun cA h => ca_1 hK h) (fun cA => rfl) (by decide) (by decide) (by decide) (by rw [hR]; exact Nat.le_of_ble_eq_true rfl) (by rw [hR]; exact Nat.le_of_ble_eq_true rfl) dX10_init_274 49 (by decide) u_1154 rfl rfl rfl (by decide +kernel) rfl dX10_init_276 (fun q35 H2 locs2 hP2 hD2 hS2 => ?_)
  clear hP hD hS
  have e35 := (List.length_set (as := _) (i := 49) (a := Value.ref q35)).trans e34
  have hP := hP2
  have hD := hD2
  have hS := hS2
  clear hP2 hD2 hS2
  refine W.widen (k := 35) (n := 3475) (by decide) (by decide) ?_
  refine lv_aload_n hx hb dX10_init_279 rfl (lv_at hl 0 rfl) ?_
  refine lv_iconst (v := 3) hx hb dX10_init_280 (by decide) ?_
  refine n_arrF (t := 1) (N := 62) (a0 := (3, .inl (fun _ => 0))) (N' := 3) (ty := .boolean) (atype := .boolean) hx hb hown hts hK hA hnm inUX10 tyX10 tyX10_ok nmX10 rfl e35 hP hD hS rfl u_257 (fun cA h => ca_1 hK h) (fun cA => rfl) (by decide) (by decide) (by decide) (by rw [hR]; exact Nat.le_of_ble_eq_true rfl) (by rw [hR]; exact Nat.le_of_ble_eq_true rfl) dX10_init_281 50 (by decide) u_1155 rfl rfl rfl (by decide +kernel) rfl dX10_init_283 (fun q36 H2 locs2 hP2 hD2 hS2 => ?_)
  clear hP hD hS
  have e36 := (List.length_set (as := _) (i := 50) (a := Value.ref q36)).trans e35
  have hP := hP2
  have hD := hD2
  have hS := hS2
  clear hP2 hD2 hS2
  refine W.widen (k := 36) (n := 3478) (by decide) (by decide) ?_
  refine lv_aload_n hx hb dX10_init_286 rfl (lv_at hl 0 rfl) ?_
  refine lv_sipush (v := 200) hx hb dX10_init_287 (by decide) ?_
  refine n_arrF (t := 0) (N := 62) (a0 := (200, .inl (fun _ => 0))) (N' := 200) (ty := .int) (atype := .int) hx hb hown hts hK hA hnm inUX10 tyX10 tyX10_ok nmX10 rfl e36 hP hD hS rfl u_173 (fun cA h => ca_0 hK h) (fun cA => rfl) (by decide) (by decide) (by decide) (by rw [hR]; exact Nat.le_of_ble_eq_true rfl) (by rw [hR]; exact Nat.le_of_ble_eq_true rfl) dX10_init_290 51 (by decide) u_1156 rfl rfl rfl (by decide +kernel) rfl dX10_init_292 (fun q37 H2 locs2 hP2 hD2 hS2 => ?_)
  clear hP hD hS
  have e37 := (List.length_set (as := _) (i := 51) (a := Value.ref q37)).trans e36
  have hP := hP2
  have hD := hD2
  have hS := hS2
  clear hP2 hD2 hS2
  refine W.widen (k := 37) (n := 3678) (by decide) (by decide) ?_
  refine lv_aload_n hx hb dX10_init_295 rfl (lv_at hl 0 rfl) ?_
  refine lv_sipush (v := 4000) hx hb dX10_init_296 (by decide) ?_
  refine n_arrF (t := 0) (N := 62) (a0 := (4000, .inl (fun _ => 0))) (N' := 4000) (ty := .int) (atype := .int) hx hb hown hts hK hA hnm inUX10 tyX10 tyX10_ok nmX10 rfl e37 hP hD hS rfl u_173 (fun cA h => ca_0 hK h) (fun cA => rfl) (by decide) (by decide) (by decide) (by rw [hR]; exact Nat.le_of_ble_eq_true rfl) (by rw [hR]; exact Nat.le_of_ble_eq_true rfl) dX10_init_299 52 (by decide) u_1157 rfl rfl rfl (by decide +kernel) rfl dX10_init_301 (fun q38 H2 locs2 hP2 hD2 hS2 => ?_)
  clear hP hD hS
  have e38 := (List.length_set (as := _) (i := 52) (a := Value.ref q38)).trans e37
  have hP := hP2
  have hD := hD2
  have hS := hS2
  clear hP2 hD2 hS2
  refine W.widen (k := 38) (n := 7678) (by decide) (by decide) ?_
  refine lv_aload_n hx hb dX10_init_304 rfl (lv_at hl 0 rfl) ?_
  refine lv_sipush (v := 4000) hx hb dX10_init_305 (by decide) ?_
  refine n_arrF (t := 0) (N := 62) (a0 := (4000, .inl (fun _ => 0))) (N' := 4000) (ty := .int) (atype := .int) hx hb hown hts hK hA hnm inUX10 tyX10 tyX10_ok nmX10 rfl e38 hP hD hS rfl u_173 (fun cA h => ca_0 hK h) (fun cA => rfl) (by decide) (by decide) (by decide) (by rw [hR]; exact Nat.le_of_ble_eq_true rfl) (by rw [hR]; exact Nat.le_of_ble_eq_true rfl) dX10_init_308 53 (by decide) u_1158 rfl rfl rfl (by decide +kernel) rfl dX10_init_310 (fun q39 H2 locs2 hP2 hD2 hS2 => ?_)
  clear hP hD hS
  have e39 := (List.length_set (as := _) (i := 53) (a := Value.ref q39)).trans e38
  have hP := hP2
  have hD := hD2
  have hS := hS2
  clear hP2 hD2 hS2
  refine W.widen (k := 39) (n := 11678) (by decide) (by decide) ?_
  refine lv_aload_n hx hb dX10_init_313 rfl (lv_at hl 0 rfl) ?_
  refine lv_sipush (v := 4000) hx hb dX10_init_314 (by decide) ?_
  refine n_arrF (t := 0) (N := 62) (a0 := (4000, .inl (fun _ => 0))) (N' := 4000) (ty := .int) (atype := .int) hx hb hown hts hK hA hnm inUX10 tyX10 tyX10_ok nmX10 rfl e39 hP hD hS rfl u_173 (fun cA h => ca_0 hK h) (fun cA => rfl) (by decide) (by decide) (by decide) (by rw [hR]; exact Nat.le_of_ble_eq_true rfl) (by rw [hR]; exact Nat.le_of_ble_eq_true rfl) dX10_init_317 54 (by decide) u_1159 rfl rfl rfl (by decide +kernel) rfl dX10_init_319 (fun q40 H2 locs2 hP2 hD2 hS2 => ?_)
  clear hP hD hS
  have e40 := (List.length_set (as := _) (i := 54) (a := Value.ref q40)).trans e39
  have hP := hP2
  have hD := hD2
  have hS := hS2
  clear hP2 hD2 hS2
  refine W.widen (k := 40) (n := 15678) (by decide) (by decide) ?_
  refine lv_aload_n hx hb dX10_init_322 rfl (lv_at hl 0 rfl) ?_
  refine lv_sipush (v := 4000) hx hb dX10_init_323 (by decide) ?_
  refine n_arrF (t := 0) (N := 62) (a0 := (4000, .inl (fun _ => 0))) (N' := 4000) (ty := .int) (atype := .int) hx hb hown hts hK hA hnm inUX10 tyX10 tyX10_ok nmX10 rfl e40 hP hD hS rfl u_173 (fun cA h => ca_0 hK h) (fun cA => rfl) (by decide) (by decide) (by decide) (by rw [hR]; exact Nat.le_of_ble_eq_true rfl) (by rw [hR]; exact Nat.le_of_ble_eq_true rfl) dX10_init_326 55 (by decide) u_1160 rfl rfl rfl (by decide +kernel) rfl dX10_init_328 (fun q41 H2 locs2 hP2 hD2 hS2 => ?_)
  clear hP hD hS
  have e41 := (List.length_set (as := _) (i := 55) (a := Value.ref q41)).trans e40
  have hP := hP2
  have hD := hD2
  have hS := hS2
  clear hP2 hD2 hS2
  refine W.widen (k := 41) (n := 19678) (by decide) (by decide) ?_
  have hfs : ((((((((((((((((((((((((((((((((((((((((((((fs0.set 1 (.ref q1)).set 2 (.ref q2)).set 3 (.ref q3)).set 4 (.ref q4)).set 6 (.ref q5)).set 13 (.int (-1))).set 14 (.ref q6)).set 15 (.ref q7)).set 16 (.ref q8)).set 17 (.ref q9)).set 18 (.ref q10)).set 19 (.ref q11)).set 20 (.ref q12)).set 22 (.ref q13)).set 23 (.int (-1))).set 24 (.int (-1))).set 28 (.ref q14)).set 29 (.ref q15)).set 30 (.ref q16)).set 31 (.ref q17)).set 32 (.ref q18)).set 33 (.ref q19)).set 34 (.ref q20)).set 35 (.ref q21)).set 36 (.ref q22)).set 37 (.ref q23)).set 38 (.ref q24)).set 39 (.ref q25)).set 40 (.ref q26)).set 41 (.ref q27)).set 42 (.ref q28)).set 43 (.ref q29)).set 44 (.ref q30)).set 45 (.ref q31)).set 46 (.ref q32)).set 47 (.ref q33)).set 48 (.ref q34)).set 49 (.ref q35)).set 50 (.ref q36)).set 51 (.ref q37)).set 52 (.ref q38)).set 53 (.ref q39)).set 54 (.ref q40)).set 55 (.ref q41)) = [.int 0, .ref q1, .ref q2, .ref q3, .ref q4, .int 0, .ref q5, .int 0, .int 0, .int 0, .int 0, .int 0, .int 0, .int (-1), .ref q6, .ref q7, .ref q8, .ref q9, .ref q10, .ref q11, .ref q12, .int 0, .ref q13, .int 0, .int 0, .int 0, .int 0, .int 0, .ref q14, .ref q15, .ref q16, .ref q17, .ref q18, .ref q19, .ref q20, .ref q21, .ref q22, .ref q23, .ref q24, .ref q25, .ref q26, .ref q27, .ref q28, .ref q29, .ref q30, .ref q31, .ref q32, .ref q33, .ref q34, .ref q35, .ref q36, .ref q37, .ref q38, .ref q39, .ref q40, .ref q41, .int 0, .int 0, .int 0, .int 0, .int 0, .int 0] := by rw [hf0]; rfl
  rw [hfs] at hP hD
  have e : wsLw g L_X10 (fun κ _ _ => match κ with | 50 => h0 | 51 => q1 | 52 => q2 | 53 => q3 | 54 => q4 | 55 => q5 | 56 => q6 | 57 => q7 | 58 => q8 | 59 => q9 | 60 => q10 | 61 => q11 | 62 => q12 | 63 => q13 | 64 => q14 | 65 => q15 | 66 => q16 | 67 => q17 | 68 => q18 | 69 => q19 | 70 => q20 | 71 => q21 | 72 => q22 | 73 => q23 | 74 => q24 | 75 => q25 | 76 => q26 | 77 => q27 | 78 => q28 | 79 => q29 | 80 => q30 | 81 => q31 | 82 => q32 | 83 => q33 | 84 => q34 | 85 => q35 | 86 => q36 | 87 => q37 | 88 => q38 | 89 => q39 | 90 => q40 | 91 => q41 | _ => 0) = (h0, .inr (10, [.int 0, .ref q1, .ref q2, .ref q3, .ref q4, .int 0, .ref q5, .int 0, .int 0, .int 0, .int 0, .int 0, .int 0, .int (-1), .ref q6, .ref q7, .ref q8, .ref q9, .ref q10, .ref q11, .ref q12, .int 0, .ref q13, .int 0, .int 0, .int 0, .int 0, .int 0, .ref q14, .ref q15, .ref q16, .ref q17, .ref q18, .ref q19, .ref q20, .ref q21, .ref q22, .ref q23, .ref q24, .ref q25, .ref q26, .ref q27, .ref q28, .ref q29, .ref q30, .ref q31, .ref q32, .ref q33, .ref q34, .ref q35, .ref q36, .ref q37, .ref q38, .ref q39, .ref q40, .ref q41, .int 0, .int 0, .int 0, .int 0, .int 0, .int 0])) :: ((((((((((((((((((((((((((((((((((((((((([] ++ [(q1, .inl (gC g 0, 201, .inl (fun _ => 0)))]) ++ [(q2, .inl (gC g 0, 603, .inl (fun _ => 0)))]) ++ [(q3, .inl (gC g 1, 3, .inl (fun _ => 0)))]) ++ [(q4, .inl (gC g 2, 1000, .inl (fun _ => 0)))]) ++ [(q5, .inl (gC g 0, 5, .inl (fun _ => 0)))]) ++ [(q6, .inl (gC g 0, 201, .inl (fun _ => 0)))]) ++ [(q7, .inl (gC g 0, 6, .inl (fun _ => 0)))]) ++ [(q8, .inl (gC g 0, 5, .inl (fun _ => 0)))]) ++ [(q9, .inl (gC g 0, 5, .inl (fun _ => 0)))]) ++ [(q10, .inl (gC g 0, 5, .inl (fun _ => 0)))]) ++ [(q11, .inl (gC g 0, 5, .inl (fun _ => 0)))]) ++ [(q12, .inl (gC g 0, 5, .inl (fun _ => 0)))]) ++ [(q13, .inl (gC g 0, 64, .inl (fun _ => 0)))]) ++ [(q14, .inl (gC g 0, 5, .inl (fun _ => 0)))]) ++ [(q15, .inl (gC g 0, 5, .inl (fun _ => 0)))]) ++ [(q16, .inl (gC g 0, 5, .inl (fun _ => 0)))]) ++ [(q17, .inl (gC g 0, 5, .inl (fun _ => 0)))]) ++ [(q18, .inl (gC g 0, 5, .inl (fun _ => 0)))]) ++ [(q19, .inl (gC g 0, 5, .inl (fun _ => 0)))]) ++ [(q20, .inl (gC g 0, 5, .inl (fun _ => 0)))]) ++ [(q21, .inl (gC g 1, 5, .inl (fun _ => 0)))]) ++ [(q22, .inl (gC g 0, 5, .inl (fun _ => 0)))]) ++ [(q23, .inl (gC g 0, 5, .inl (fun _ => 0)))]) ++ [(q24, .inl (gC g 3, 5, .inr (.inr (.inl (fun _ => 0)))))]) ++ [(q25, .inl (gC g 0, 5, .inl (fun _ => 0)))]) ++ [(q26, .inl (gC g 1, 5, .inl (fun _ => 0)))]) ++ [(q27, .inl (gC g 0, 5, .inl (fun _ => 0)))]) ++ [(q28, .inl (gC g 0, 5, .inl (fun _ => 0)))]) ++ [(q29, .inl (gC g 3, 5, .inr (.inr (.inl (fun _ => 0)))))]) ++ [(q30, .inl (gC g 4, 5, .inr (.inr (.inr (.inl (fun _ => 0))))))]) ++ [(q31, .inl (gC g 0, 5, .inl (fun _ => 0)))]) ++ [(q32, .inl (gC g 0, 1000, .inl (fun _ => 0)))]) ++ [(q33, .inl (gC g 0, 255, .inl (fun _ => 0)))]) ++ [(q34, .inl (gC g 1, 19, .inl (fun _ => 0)))]) ++ [(q35, .inl (gC g 1, 3, .inl (fun _ => 0)))]) ++ [(q36, .inl (gC g 1, 3, .inl (fun _ => 0)))]) ++ [(q37, .inl (gC g 0, 200, .inl (fun _ => 0)))]) ++ [(q38, .inl (gC g 0, 4000, .inl (fun _ => 0)))]) ++ [(q39, .inl (gC g 0, 4000, .inl (fun _ => 0)))]) ++ [(q40, .inl (gC g 0, 4000, .inl (fun _ => 0)))]) ++ [(q41, .inl (gC g 0, 4000, .inl (fun _ => 0)))]) := rfl
  rw [← e] at hP hD
  exact W.vret hx hb hr (fun t ht hW => ⟨rfl, ⟨_, by rw [ht]; exact hP, hD, rfl⟩, hS.F ht⟩) hS.2.2 dX10_init_331 hlk
