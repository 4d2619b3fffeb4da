/-- the memory of new objects -/
def m0I (κ j : Nat) : Int32 := match κ with
  | 13 => (if j = 3 then -1 else 0)
  | 15 => (if j = 2 then 4 else 0)
  | 21 => (if j = 1 then -1 else 0)
  | 23 => (if j = 3 then -1 else (if j = 5 then -1 else 0))
  | 50 => (if j = 13 then -1 else (if j = 23 then -1 else (if j = 24 then -1 else 0)))
  | _ => 0
def M0w : Mw := (fun κ _ _ j => m0I κ j, fun _ _ _ _ => 0, fun _ _ _ _ => 0)
/-- a geometry by its addresses alone -/
def gLw (g : Gw) (ad : Nat → Nat → Nat → Nat) : Gw := (g.1, ad, gC g, gK g, gV g, 0)
def wsLw (g : Gw) (L : List (Nat × Nat × Nat)) (ad : Nat → Nat → Nat → Nat) : va_W := L.map (fun q => (ad q.1 q.2.1 q.2.2, cellW (gLw g ad) M0w q.1 q.2.1 q.2.2))
theorem wsLw_app (g : Gw) (L L2 : List (Nat × Nat × Nat)) (ad : Nat → Nat → Nat → Nat) : wsLw g (L ++ L2) ad = wsLw g L ad ++ wsLw g L2 ad := List.map_append
def L_X6 : List (Nat × Nat × Nat) := (15, 0, 0) :: ([] ++ [(16, 0, 0)])
set_option maxRecDepth 100000 in
set_option maxHeartbeats 8000000 in
theorem n_X6_init (g : Gw) (l : Launch) (h0 sz : Nat) : NMet g l yX6_init cX6_init 1 1 1 1000 h0 6 [.null, .int 0, .int 0, .int 0, .int 0, .int 0] sz (wsLw g (L_X6)) := by
  refine NMet.of (own := RX6) (by decide +kernel) rfl rfl (by decide) ?_
  intro p e R s m args below meth c A hx hb hml hown hts hK hCN hA hR hlk hr hnm H ls hP hD hS hl
  refine lv_aload_n hx hb dX6_init_0 rfl (lv_at hl 0 rfl) ?_
  refine W.objInit hx hb hown (hts _ u_162) (hts _ u_151) (hts _ u_152) rfl (by rw [hml]; exact hl.1) rfl dX6_init_1 (by rw [hR]; exact Nat.le_of_ble_eq_true rfl) (by rw [hR]; exact Nat.le_of_ble_eq_true rfl) ?_
  refine W.eq (g2 := F0 m 4 ls []) rfl ?_
  refine lv_aload_n hx hb dX6_init_4 rfl (lv_at hl 0 rfl) ?_
  refine lv_sipush (v := 1000) hx hb dX6_init_5 (by decide) ?_
  refine va_newa (atype := .int) (ty := .int) (a0 := (1000, .inl (fun _ => 0))) (N' := 1000) hx hb (hts _ u_173) rfl hK hP hD hS hA (fun cA => rfl) (by decide) (by decide) (by decide) (by rw [hR]; exact Nat.le_of_ble_eq_true rfl) (by rw [hR]; exact Nat.le_of_ble_eq_true rfl) dX6_init_8 (fun q1 cA H hK1 hP2 hD2 hS2 => ?_)
  obtain rfl := ca_0 hK hK1
  clear hK1
  clear hP hD hS
  have hP : va_P (gD g) vwCl (((h0, .inr (6, [.null, .int 0, .int 0, .int 0, .int 0, .int 0])) :: ([] ++ [(q1, .inl (gC g 0, 1000, .inl (fun _ => 0)))]))) H := hP2
  have hD : va_D A (((h0, .inr (6, [.null, .int 0, .int 0, .int 0, .int 0, .int 0])) :: ([] ++ [(q1, .inl (gC g 0, 1000, .inl (fun _ => 0)))]))) := hD2
  have hS := hS2
  clear hP2 hD2 hS2
  refine W.widen (k := 1) (n := 1000) (by decide) (by decide) ?_
  refine va_putF (D := gD g) (ci := 6) (v := .ref q1) (ty := (.array .int)) (C := RX6) (T := TX6) (N := 6) hx hb hts inUX6 tyX6 tyX6_ok nmX6 hown hK hP hD hS 0 rfl rfl 0 (by decide) (hts _ u_163) (fun _ h9 => h9) rfl hnm rfl (by decide +kernel) rfl rfl (Nat.le_of_ble_eq_true rfl) dX6_init_10 (fun H locs hP2 hD2 hS2 => ?_)
  clear hP hD hS
  have hP : va_P (gD g) vwCl (((h0, .inr (6, [.ref q1, .int 0, .int 0, .int 0, .int 0, .int 0])) :: ([] ++ [(q1, .inl (gC g 0, 1000, .inl (fun _ => 0)))]))) H := hP2
  have hD : va_D A (((h0, .inr (6, [.ref q1, .int 0, .int 0, .int 0, .int 0, .int 0])) :: ([] ++ [(q1, .inl (gC g 0, 1000, .inl (fun _ => 0)))]))) := hD2
  have hS := hS2
  clear hP2 hD2 hS2
  refine lv_aload_n hx hb dX6_init_13 rfl (lv_at hl 0 rfl) ?_
  refine lv_iconst (v := 4) hx hb dX6_init_14 (by decide) ?_
  refine va_put (D := gD g) (ci := 6) (v := .int 4) (ty := .int) (C := RX6) (T := TX6) (N := 6) hx hb hts inUX6 tyX6 tyX6_ok nmX6 hown hK hP hD hS 0 rfl rfl 2 (by decide) (hts _ u_166) (fun _ h9 => h9) rfl (by decide +kernel) rfl rfl (Nat.le_of_ble_eq_true rfl) dX6_init_15 (fun H locs hP2 hD2 hS2 => ?_)
  clear hP hD hS
  have hP : va_P (gD g) vwCl (((h0, .inr (6, [.ref q1, .int 0, .int 4, .int 0, .int 0, .int 0])) :: ([] ++ [(q1, .inl (gC g 0, 1000, .inl (fun _ => 0)))]))) H := hP2
  have hD : va_D A (((h0, .inr (6, [.ref q1, .int 0, .int 4, .int 0, .int 0, .int 0])) :: ([] ++ [(q1, .inl (gC g 0, 1000, .inl (fun _ => 0)))]))) := hD2
  have hS := hS2
  clear hP2 hD2 hS2
  have e : wsLw g (L_X6) (fun κ _ i => match κ with | 15 => h0 | 16 => q1 | _ => 0) = ((h0, .inr (6, [.ref q1, .int 0, .int 4, .int 0, .int 0, .int 0])) :: ([] ++ [(q1, .inl (gC g 0, 1000, .inl (fun _ => 0)))])) := by
    unfold wsLw L_X6
    simp only [List.map_cons, List.map_append, List.map_nil, List.map_map, Function.comp_def]
    rfl
  rw [← e] at hP hD
  exact W.vret hx hb hr (fun t ht hW => ⟨rfl, ⟨_, by rw [ht]; exact hP, hD, rfl⟩, hS.F ht⟩) hS.2.2 dX6_init_18 hlk
def L_X2 : List (Nat × Nat × Nat) := (17, 0, 0) :: (([] ++ ((18, 0, 0) :: (List.range 6).map (fun i => (19, 0, i)))) ++ [(20, 0, 0)])
set_option maxRecDepth 100000 in
set_option maxHeartbeats 8000000 in
theorem n_X2_init (g : Gw) (l : Launch) (h0 sz : Nat) : NMet g l yX2_init cX2_init 1 1 8 454 h0 2 [.null, .null] sz (wsLw g (L_X2)) := by
  refine NMet.of (own := RX2) (by decide +kernel) rfl rfl (by decide) ?_
  intro p e R s m args below meth c A hx hb hml hown hts hK hCN hA hR hlk hr hnm H ls hP hD hS hl
  refine lv_aload_n hx hb dX2_init_0 rfl (lv_at hl 0 rfl) ?_
  refine W.objInit hx hb hown (hts _ u_253) (hts _ u_151) (hts _ u_152) rfl (by rw [hml]; exact hl.1) rfl dX2_init_1 (by rw [hR]; exact Nat.le_of_ble_eq_true rfl) (by rw [hR]; exact Nat.le_of_ble_eq_true rfl) ?_
  refine W.eq (g2 := F0 m 4 ls []) rfl ?_
  refine lv_aload_n hx hb dX2_init_4 rfl (lv_at hl 0 rfl) ?_
  refine lv_bipush (v := 6) hx hb dX2_init_5 (by decide) ?_
  refine lv_bipush (v := 64) hx hb dX2_init_7 (by decide) ?_
  refine n_mna (N := 6) (K := 64) hx hb hown hts hK hCN hA hP hD hS dX2_init_9 u_254 u_173 (by decide) (by decide) (by decide) (by decide) (by decide) (by decide) (by rw [hR]; exact Nat.le_of_ble_eq_true rfl) (by rw [hR]; exact Nat.le_of_ble_eq_true rfl) (fun q1 r1 H hP2 hD2 hS2 => ?_)
  clear hP hD hS
  have hP : va_P (gD g) vwCl (((h0, .inr (2, [.null, .null])) :: ([] ++ ((q1, .inl (gC g 5, 6, .inr (.inr (.inr (.inr (fun i => some (r1 i))))))) :: (List.range 6).map (fun i => (r1 i, .inl (gC g 0, 64, .inl (fun _ => 0)))))))) H := hP2
  have hD : va_D A (((h0, .inr (2, [.null, .null])) :: ([] ++ ((q1, .inl (gC g 5, 6, .inr (.inr (.inr (.inr (fun i => some (r1 i))))))) :: (List.range 6).map (fun i => (r1 i, .inl (gC g 0, 64, .inl (fun _ => 0)))))))) := hD2
  have hS := hS2
  clear hP2 hD2 hS2
  refine W.widen (k := 7) (n := 390) (by decide) (by decide) ?_
  refine va_putF (D := gD g) (ci := 2) (v := .ref q1) (ty := (.array (.array .int))) (C := RX2) (T := TX2) (N := 2) hx hb hts inUX2 tyX2 tyX2_ok nmX2 hown hK hP hD hS 0 rfl rfl 0 (by decide) (hts _ u_255) (fun _ h9 => h9) rfl hnm rfl (by decide +kernel) rfl rfl (Nat.le_of_ble_eq_true rfl) dX2_init_13 (fun H locs hP2 hD2 hS2 => ?_)
  clear hP hD hS
  have hP : va_P (gD g) vwCl (((h0, .inr (2, [.ref q1, .null])) :: ([] ++ ((q1, .inl (gC g 5, 6, .inr (.inr (.inr (.inr (fun i => some (r1 i))))))) :: (List.range 6).map (fun i => (r1 i, .inl (gC g 0, 64, .inl (fun _ => 0)))))))) H := hP2
  have hD : va_D A (((h0, .inr (2, [.ref q1, .null])) :: ([] ++ ((q1, .inl (gC g 5, 6, .inr (.inr (.inr (.inr (fun i => some (r1 i))))))) :: (List.range 6).map (fun i => (r1 i, .inl (gC g 0, 64, .inl (fun _ => 0)))))))) := hD2
  have hS := hS2
  clear hP2 hD2 hS2
  refine lv_aload_n hx hb dX2_init_16 rfl (lv_at hl 0 rfl) ?_
  refine lv_bipush (v := 64) hx hb dX2_init_17 (by decide) ?_
  refine va_newa (atype := .int) (ty := .int) (a0 := (64, .inl (fun _ => 0))) (N' := 64) hx hb (hts _ u_173) rfl hK hP hD hS hA (fun cA => rfl) (by decide) (by decide) (by decide) (by rw [hR]; exact Nat.le_of_ble_eq_true rfl) (by rw [hR]; exact Nat.le_of_ble_eq_true rfl) dX2_init_19 (fun q2 cA H hK1 hP2 hD2 hS2 => ?_)
  obtain rfl := ca_0 hK hK1
  clear hK1
  clear hP hD hS
  have hP : va_P (gD g) vwCl (((h0, .inr (2, [.ref q1, .null])) :: (([] ++ ((q1, .inl (gC g 5, 6, .inr (.inr (.inr (.inr (fun i => some (r1 i))))))) :: (List.range 6).map (fun i => (r1 i, .inl (gC g 0, 64, .inl (fun _ => 0)))))) ++ [(q2, .inl (gC g 0, 64, .inl (fun _ => 0)))]))) H := hP2
  have hD : va_D A (((h0, .inr (2, [.ref q1, .null])) :: (([] ++ ((q1, .inl (gC g 5, 6, .inr (.inr (.inr (.inr (fun i => some (r1 i))))))) :: (List.range 6).map (fun i => (r1 i, .inl (gC g 0, 64, .inl (fun _ => 0)))))) ++ [(q2, .inl (gC g 0, 64, .inl (fun _ => 0)))]))) := hD2
  have hS := hS2
  clear hP2 hD2 hS2
  refine W.widen (k := 8) (n := 454) (by decide) (by decide) ?_
  refine va_putF (D := gD g) (ci := 2) (v := .ref q2) (ty := (.array .int)) (C := RX2) (T := TX2) (N := 2) hx hb hts inUX2 tyX2 tyX2_ok nmX2 hown hK hP hD hS 0 rfl rfl 1 (by decide) (hts _ u_256) (fun _ h9 => h9) rfl hnm rfl (by decide +kernel) rfl rfl (Nat.le_of_ble_eq_true rfl) dX2_init_21 (fun H locs hP2 hD2 hS2 => ?_)
  clear hP hD hS
  have hP : va_P (gD g) vwCl (((h0, .inr (2, [.ref q1, .ref q2])) :: (([] ++ ((q1, .inl (gC g 5, 6, .inr (.inr (.inr (.inr (fun i => some (r1 i))))))) :: (List.range 6).map (fun i => (r1 i, .inl (gC g 0, 64, .inl (fun _ => 0)))))) ++ [(q2, .inl (gC g 0, 64, .inl (fun _ => 0)))]))) H := hP2
  have hD : va_D A (((h0, .inr (2, [.ref q1, .ref q2])) :: (([] ++ ((q1, .inl (gC g 5, 6, .inr (.inr (.inr (.inr (fun i => some (r1 i))))))) :: (List.range 6).map (fun i => (r1 i, .inl (gC g 0, 64, .inl (fun _ => 0)))))) ++ [(q2, .inl (gC g 0, 64, .inl (fun _ => 0)))]))) := hD2
  have hS := hS2
  clear hP2 hD2 hS2
  have e : wsLw g (L_X2) (fun κ _ i => match κ with | 17 => h0 | 18 => q1 | 19 => r1 i | 20 => q2 | _ => 0) = ((h0, .inr (2, [.ref q1, .ref q2])) :: (([] ++ ((q1, .inl (gC g 5, 6, .inr (.inr (.inr (.inr (fun i => some (r1 i))))))) :: (List.range 6).map (fun i => (r1 i, .inl (gC g 0, 64, .inl (fun _ => 0)))))) ++ [(q2, .inl (gC g 0, 64, .inl (fun _ => 0)))])) := by
    unfold wsLw L_X2
    simp only [List.map_cons, List.map_append, List.map_nil, List.map_map, Function.comp_def]
    rfl
  rw [← e] at hP hD
  exact W.vret hx hb hr (fun t ht hW => ⟨rfl, ⟨_, by rw [ht]; exact hP, hD, rfl⟩, hS.F ht⟩) hS.2.2 dX2_init_24 hlk
def L_X3 : List (Nat × Nat × Nat) := (21, 0, 0) :: ([] ++ [(22, 0, 0)])
set_option maxRecDepth 100000 in
set_option maxHeartbeats 8000000 in
theorem n_X3_init (g : Gw) (l : Launch) (h0 sz : Nat) : NMet g l yX3_init cX3_init 1 1 1 5 h0 3 [.null, .int 0, .int 0] sz (wsLw g (L_X3)) := by
  refine NMet.of (own := RX3) (by decide +kernel) rfl rfl (by decide) ?_
  intro p e R s m args below meth c A hx hb hml hown hts hK hCN hA hR hlk hr hnm H ls hP hD hS hl
  refine lv_aload_n hx hb dX3_init_0 rfl (lv_at hl 0 rfl) ?_
  refine W.objInit hx hb hown (hts _ u_262) (hts _ u_151) (hts _ u_152) rfl (by rw [hml]; exact hl.1) rfl dX3_init_1 (by rw [hR]; exact Nat.le_of_ble_eq_true rfl) (by rw [hR]; exact Nat.le_of_ble_eq_true rfl) ?_
  refine W.eq (g2 := F0 m 4 ls []) rfl ?_
  refine lv_aload_n hx hb dX3_init_4 rfl (lv_at hl 0 rfl) ?_
  refine lv_iconst (v := 5) hx hb dX3_init_5 (by decide) ?_
  refine va_newa (atype := .int) (ty := .int) (a0 := (5, .inl (fun _ => 0))) (N' := 5) hx hb (hts _ u_173) rfl hK hP hD hS hA (fun cA => rfl) (by decide) (by decide) (by decide) (by rw [hR]; exact Nat.le_of_ble_eq_true rfl) (by rw [hR]; exact Nat.le_of_ble_eq_true rfl) dX3_init_6 (fun q1 cA H hK1 hP2 hD2 hS2 => ?_)
  obtain rfl := ca_0 hK hK1
  clear hK1
  clear hP hD hS
  have hP : va_P (gD g) vwCl (((h0, .inr (3, [.null, .int 0, .int 0])) :: ([] ++ [(q1, .inl (gC g 0, 5, .inl (fun _ => 0)))]))) H := hP2
  have hD : va_D A (((h0, .inr (3, [.null, .int 0, .int 0])) :: ([] ++ [(q1, .inl (gC g 0, 5, .inl (fun _ => 0)))]))) := hD2
  have hS := hS2
  clear hP2 hD2 hS2
  refine W.widen (k := 1) (n := 5) (by decide) (by decide) ?_
  refine va_putF (D := gD g) (ci := 3) (v := .ref q1) (ty := (.array .int)) (C := RX3) (T := TX3) (N := 3) hx hb hts inUX3 tyX3 tyX3_ok nmX3 hown hK hP hD hS 0 rfl rfl 0 (by decide) (hts _ u_263) (fun _ h9 => h9) rfl hnm rfl (by decide +kernel) rfl rfl (Nat.le_of_ble_eq_true rfl) dX3_init_8 (fun H locs hP2 hD2 hS2 => ?_)
  clear hP hD hS
  have hP : va_P (gD g) vwCl (((h0, .inr (3, [.ref q1, .int 0, .int 0])) :: ([] ++ [(q1, .inl (gC g 0, 5, .inl (fun _ => 0)))]))) H := hP2
  have hD : va_D A (((h0, .inr (3, [.ref q1, .int 0, .int 0])) :: ([] ++ [(q1, .inl (gC g 0, 5, .inl (fun _ => 0)))]))) := hD2
  have hS := hS2
  clear hP2 hD2 hS2
  refine lv_aload_n hx hb dX3_init_11 rfl (lv_at hl 0 rfl) ?_
  refine lv_iconst (v := (-1)) hx hb dX3_init_12 (by decide) ?_
  refine va_put (D := gD g) (ci := 3) (v := .int (-1)) (ty := .int) (C := RX3) (T := TX3) (N := 3) hx hb hts inUX3 tyX3 tyX3_ok nmX3 hown hK hP hD hS 0 rfl rfl 1 (by decide) (hts _ u_265) (fun _ h9 => h9) rfl (by decide +kernel) rfl rfl (Nat.le_of_ble_eq_true rfl) dX3_init_13 (fun H locs hP2 hD2 hS2 => ?_)
  clear hP hD hS
  have hP : va_P (gD g) vwCl (((h0, .inr (3, [.ref q1, .int (-1), .int 0])) :: ([] ++ [(q1, .inl (gC g 0, 5, .inl (fun _ => 0)))]))) H := hP2
  have hD : va_D A (((h0, .inr (3, [.ref q1, .int (-1), .int 0])) :: ([] ++ [(q1, .inl (gC g 0, 5, .inl (fun _ => 0)))]))) := hD2
  have hS := hS2
  clear hP2 hD2 hS2
  have e : wsLw g (L_X3) (fun κ _ i => match κ with | 21 => h0 | 22 => q1 | _ => 0) = ((h0, .inr (3, [.ref q1, .int (-1), .int 0])) :: ([] ++ [(q1, .inl (gC g 0, 5, .inl (fun _ => 0)))])) := by
    unfold wsLw L_X3
    simp only [List.map_cons, List.map_append, List.map_nil, List.map_map, Function.comp_def]
    rfl
  rw [← e] at hP hD
  exact W.vret hx hb hr (fun t ht hW => ⟨rfl, ⟨_, by rw [ht]; exact hP, hD, rfl⟩, hS.F ht⟩) hS.2.2 dX3_init_16 hlk
def L_X7 (b : Nat) : List (Nat × Nat × Nat) := (25, b, 0) :: []
set_option maxRecDepth 100000 in
set_option maxHeartbeats 8000000 in
theorem n_X7_init (g : Gw) (l : Launch) (b : Nat) (h0 sz : Nat) : NMet g l yX7_init cX7_init 1 1 0 0 h0 7 [.int 0, .int 0, .int 0, .int 0, .int 0, .int 0, .int 0, .int 0, .int 0, .int 0, .int 0, .float 0, .int 0, .int 0, .int 0, .float 0, .double 0] sz (wsLw g (L_X7 b)) := by
  refine NMet.of (own := RX7) (by decide +kernel) rfl rfl (by decide) ?_
  intro p e R s m args below meth c A hx hb hml hown hts hK hCN hA hR hlk hr hnm H ls hP hD hS hl
  refine lv_aload_n hx hb dX7_init_0 rfl (lv_at hl 0 rfl) ?_
  refine W.objInit hx hb hown (hts _ u_290) (hts _ u_151) (hts _ u_152) rfl (by rw [hml]; exact hl.1) rfl dX7_init_1 (by rw [hR]; exact Nat.le_of_ble_eq_true rfl) (by rw [hR]; exact Nat.le_of_ble_eq_true rfl) ?_
  refine W.eq (g2 := F0 m 4 ls []) rfl ?_
  have e : wsLw g (L_X7 b) (fun κ _ i => match κ with | 25 => h0 | _ => 0) = ((h0, .inr (7, [.int 0, .int 0, .int 0, .int 0, .int 0, .int 0, .int 0, .int 0, .int 0, .int 0, .int 0, .float 0, .int 0, .int 0, .int 0, .float 0, .double 0])) :: []) := by
    unfold wsLw L_X7
    simp only [List.map_cons, List.map_append, List.map_nil, List.map_map, Function.comp_def]
    rfl
  rw [← e] at hP hD
  exact W.vret hx hb hr (fun t ht hW => ⟨rfl, ⟨_, by rw [ht]; exact hP, hD, rfl⟩, hS.F ht⟩) hS.2.2 dX7_init_4 hlk
def L_X0 (b : Nat) : List (Nat × Nat × Nat) := (0, b, 0) :: ((((((([] ++ [(1, b, 0)]) ++ [(2, b, 0)]) ++ ((3, b, 0) :: (List.range 5).map (fun i => (4, b, i)))) ++ ((5, b, 0) :: (List.range 5).map (fun i => (6, b, i)))) ++ ((7, b, 0) :: (List.range 5).map (fun i => (8, b, i)))) ++ ((9, b, 0) :: (List.range 5).map (fun i => (10, b, i)))) ++ ((11, b, 0) :: (List.range 19).map (fun i => (12, b, i))))
set_option maxRecDepth 100000 in
set_option maxHeartbeats 8000000 in
theorem n_X0_init (g : Gw) (l : Launch) (b : Nat) (h0 sz : Nat) : NMet g l yX0_init cX0_init 1 1 46 245 h0 0 [.int 0, .int 0, .int 0, .int 0, .int 0, .int 0, .int 0, .int 0, .null, .null, .null, .null, .null, .null, .null] sz (wsLw g (L_X0 b)) := by
  refine NMet.of (own := RX0) (by decide +kernel) rfl rfl (by decide) ?_
  intro p e R s m args below meth c A hx hb hml hown hts hK hCN hA hR hlk hr hnm H ls hP hD hS hl
  refine lv_aload_n hx hb dX0_init_0 rfl (lv_at hl 0 rfl) ?_
  refine W.objInit hx hb hown (hts _ u_178) (hts _ u_151) (hts _ u_152) rfl (by rw [hml]; exact hl.1) rfl dX0_init_1 (by rw [hR]; exact Nat.le_of_ble_eq_true rfl) (by rw [hR]; exact Nat.le_of_ble_eq_true rfl) ?_
  refine W.eq (g2 := F0 m 4 ls []) rfl ?_
  refine lv_aload_n hx hb dX0_init_4 rfl (lv_at hl 0 rfl) ?_
  refine lv_iconst (v := 3) hx hb dX0_init_5 (by decide) ?_
  refine va_newa (atype := .int) (ty := .int) (a0 := (3, .inl (fun _ => 0))) (N' := 3) hx hb (hts _ u_173) rfl hK hP hD hS hA (fun cA => rfl) (by decide) (by decide) (by decide) (by rw [hR]; exact Nat.le_of_ble_eq_true rfl) (by rw [hR]; exact Nat.le_of_ble_eq_true rfl) dX0_init_6 (fun q1 cA H hK1 hP2 hD2 hS2 => ?_)
  obtain rfl := ca_0 hK hK1
  clear hK1
  clear hP hD hS
  have hP : va_P (gD g) vwCl (((h0, .inr (0, [.int 0, .int 0, .int 0, .int 0, .int 0, .int 0, .int 0, .int 0, .null, .null, .null, .null, .null, .null, .null])) :: ([] ++ [(q1, .inl (gC g 0, 3, .inl (fun _ => 0)))]))) H := hP2
  have hD : va_D A (((h0, .inr (0, [.int 0, .int 0, .int 0, .int 0, .int 0, .int 0, .int 0, .int 0, .null, .null, .null, .null, .null, .null, .null])) :: ([] ++ [(q1, .inl (gC g 0, 3, .inl (fun _ => 0)))]))) := hD2
  have hS := hS2
  clear hP2 hD2 hS2
  refine W.widen (k := 1) (n := 3) (by decide) (by decide) ?_
  refine va_putF (D := gD g) (ci := 0) (v := .ref q1) (ty := (.array .int)) (C := RX0) (T := TX0) (N := 15) hx hb hts inUX0 tyX0 tyX0_ok nmX0 hown hK hP hD hS 0 rfl rfl 8 (by decide) (hts _ u_214) (fun _ h9 => h9) rfl hnm rfl (by decide +kernel) rfl rfl (Nat.le_of_ble_eq_true rfl) dX0_init_8 (fun H locs hP2 hD2 hS2 => ?_)
  clear hP hD hS
  have hP : va_P (gD g) vwCl (((h0, .inr (0, [.int 0, .int 0, .int 0, .int 0, .int 0, .int 0, .int 0, .int 0, .ref q1, .null, .null, .null, .null, .null, .null])) :: ([] ++ [(q1, .inl (gC g 0, 3, .inl (fun _ => 0)))]))) H := hP2
  have hD : va_D A (((h0, .inr (0, [.int 0, .int 0, .int 0, .int 0, .int 0, .int 0, .int 0, .int 0, .ref q1, .null, .null, .null, .null, .null, .null])) :: ([] ++ [(q1, .inl (gC g 0, 3, .inl (fun _ => 0)))]))) := hD2
  have hS := hS2
  clear hP2 hD2 hS2
  refine lv_aload_n hx hb dX0_init_11 rfl (lv_at hl 0 rfl) ?_
  refine lv_iconst (v := 3) hx hb dX0_init_12 (by decide) ?_
  refine va_newa (atype := .int) (ty := .int) (a0 := (3, .inl (fun _ => 0))) (N' := 3) hx hb (hts _ u_173) rfl hK hP hD hS hA (fun cA => rfl) (by decide) (by decide) (by decide) (by rw [hR]; exact Nat.le_of_ble_eq_true rfl) (by rw [hR]; exact Nat.le_of_ble_eq_true rfl) dX0_init_13 (fun q2 cA H hK1 hP2 hD2 hS2 => ?_)
  obtain rfl := ca_0 hK hK1
  clear hK1
  clear hP hD hS
  have hP : va_P (gD g) vwCl (((h0, .inr (0, [.int 0, .int 0, .int 0, .int 0, .int 0, .int 0, .int 0, .int 0, .ref q1, .null, .null, .null, .null, .null, .null])) :: (([] ++ [(q1, .inl (gC g 0, 3, .inl (fun _ => 0)))]) ++ [(q2, .inl (gC g 0, 3, .inl (fun _ => 0)))]))) H := hP2
  have hD : va_D A (((h0, .inr (0, [.int 0, .int 0, .int 0, .int 0, .int 0, .int 0, .int 0, .int 0, .ref q1, .null, .null, .null, .null, .null, .null])) :: (([] ++ [(q1, .inl (gC g 0, 3, .inl (fun _ => 0)))]) ++ [(q2, .inl (gC g 0, 3, .inl (fun _ => 0)))]))) := hD2
  have hS := hS2
  clear hP2 hD2 hS2
  refine W.widen (k := 2) (n := 6) (by decide) (by decide) ?_
  refine va_putF (D := gD g) (ci := 0) (v := .ref q2) (ty := (.array .int)) (C := RX0) (T := TX0) (N := 15) hx hb hts inUX0 tyX0 tyX0_ok nmX0 hown hK hP hD hS 0 rfl rfl 9 (by decide) (hts _ u_217) (fun _ h9 => h9) rfl hnm rfl (by decide +kernel) rfl rfl (Nat.le_of_ble_eq_true rfl) dX0_init_15 (fun H locs hP2 hD2 hS2 => ?_)
  clear hP hD hS
  have hP : va_P (gD g) vwCl (((h0, .inr (0, [.int 0, .int 0, .int 0, .int 0, .int 0, .int 0, .int 0, .int 0, .ref q1, .ref q2, .null, .null, .null, .null, .null])) :: (([] ++ [(q1, .inl (gC g 0, 3, .inl (fun _ => 0)))]) ++ [(q2, .inl (gC g 0, 3, .inl (fun _ => 0)))]))) H := hP2
  have hD : va_D A (((h0, .inr (0, [.int 0, .int 0, .int 0, .int 0, .int 0, .int 0, .int 0, .int 0, .ref q1, .ref q2, .null, .null, .null, .null, .null])) :: (([] ++ [(q1, .inl (gC g 0, 3, .inl (fun _ => 0)))]) ++ [(q2, .inl (gC g 0, 3, .inl (fun _ => 0)))]))) := hD2
  have hS := hS2
  clear hP2 hD2 hS2
  refine lv_aload_n hx hb dX0_init_18 rfl (lv_at hl 0 rfl) ?_
  refine lv_iconst (v := 5) hx hb dX0_init_19 (by decide) ?_
  refine lv_bipush (v := 7) hx hb dX0_init_20 (by decide) ?_
  refine n_mna (N := 5) (K := 7) hx hb hown hts hK hCN hA hP hD hS dX0_init_22 u_179 u_173 (by decide) (by decide) (by decide) (by decide) (by decide) (by decide) (by rw [hR]; exact Nat.le_of_ble_eq_true rfl) (by rw [hR]; exact Nat.le_of_ble_eq_true rfl) (fun q3 r3 H hP2 hD2 hS2 => ?_)
  clear hP hD hS
  have hP : va_P (gD g) vwCl (((h0, .inr (0, [.int 0, .int 0, .int 0, .int 0, .int 0, .int 0, .int 0, .int 0, .ref q1, .ref q2, .null, .null, .null, .null, .null])) :: ((([] ++ [(q1, .inl (gC g 0, 3, .inl (fun _ => 0)))]) ++ [(q2, .inl (gC g 0, 3, .inl (fun _ => 0)))]) ++ ((q3, .inl (gC g 5, 5, .inr (.inr (.inr (.inr (fun i => some (r3 i))))))) :: (List.range 5).map (fun i => (r3 i, .inl (gC g 0, 7, .inl (fun _ => 0)))))))) H := hP2
  have hD : va_D A (((h0, .inr (0, [.int 0, .int 0, .int 0, .int 0, .int 0, .int 0, .int 0, .int 0, .ref q1, .ref q2, .null, .null, .null, .null, .null])) :: ((([] ++ [(q1, .inl (gC g 0, 3, .inl (fun _ => 0)))]) ++ [(q2, .inl (gC g 0, 3, .inl (fun _ => 0)))]) ++ ((q3, .inl (gC g 5, 5, .inr (.inr (.inr (.inr (fun i => some (r3 i))))))) :: (List.range 5).map (fun i => (r3 i, .inl (gC g 0, 7, .inl (fun _ => 0)))))))) := hD2
  have hS := hS2
  clear hP2 hD2 hS2
  refine W.widen (k := 8) (n := 46) (by decide) (by decide) ?_
  refine va_putF (D := gD g) (ci := 0) (v := .ref q3) (ty := (.array (.array .int))) (C := RX0) (T := TX0) (N := 15) hx hb hts inUX0 tyX0 tyX0_ok nmX0 hown hK hP hD hS 0 rfl rfl 10 (by decide) (hts _ u_218) (fun _ h9 => h9) rfl hnm rfl (by decide +kernel) rfl rfl (Nat.le_of_ble_eq_true rfl) dX0_init_26 (fun H locs hP2 hD2 hS2 => ?_)
  clear hP hD hS
  have hP : va_P (gD g) vwCl (((h0, .inr (0, [.int 0, .int 0, .int 0, .int 0, .int 0, .int 0, .int 0, .int 0, .ref q1, .ref q2, .ref q3, .null, .null, .null, .null])) :: ((([] ++ [(q1, .inl (gC g 0, 3, .inl (fun _ => 0)))]) ++ [(q2, .inl (gC g 0, 3, .inl (fun _ => 0)))]) ++ ((q3, .inl (gC g 5, 5, .inr (.inr (.inr (.inr (fun i => some (r3 i))))))) :: (List.range 5).map (fun i => (r3 i, .inl (gC g 0, 7, .inl (fun _ => 0)))))))) H := hP2
  have hD : va_D A (((h0, .inr (0, [.int 0, .int 0, .int 0, .int 0, .int 0, .int 0, .int 0, .int 0, .ref q1, .ref q2, .ref q3, .null, .null, .null, .null])) :: ((([] ++ [(q1, .inl (gC g 0, 3, .inl (fun _ => 0)))]) ++ [(q2, .inl (gC g 0, 3, .inl (fun _ => 0)))]) ++ ((q3, .inl (gC g 5, 5, .inr (.inr (.inr (.inr (fun i => some (r3 i))))))) :: (List.range 5).map (fun i => (r3 i, .inl (gC g 0, 7, .inl (fun _ => 0)))))))) := hD2
  have hS := hS2
  clear hP2 hD2 hS2
  refine lv_aload_n hx hb dX0_init_29 rfl (lv_at hl 0 rfl) ?_
  refine lv_iconst (v := 5) hx hb dX0_init_30 (by decide) ?_
  refine lv_bipush (v := 6) hx hb dX0_init_31 (by decide) ?_
  refine n_mna (N := 5) (K := 6) hx hb hown hts hK hCN hA hP hD hS dX0_init_33 u_179 u_173 (by decide) (by decide) (by decide) (by decide) (by decide) (by decide) (by rw [hR]; exact Nat.le_of_ble_eq_true rfl) (by rw [hR]; exact Nat.le_of_ble_eq_true rfl) (fun q4 r4 H hP2 hD2 hS2 => ?_)
  clear hP hD hS
  have hP : va_P (gD g) vwCl (((h0, .inr (0, [.int 0, .int 0, .int 0, .int 0, .int 0, .int 0, .int 0, .int 0, .ref q1, .ref q2, .ref q3, .null, .null, .null, .null])) :: (((([] ++ [(q1, .inl (gC g 0, 3, .inl (fun _ => 0)))]) ++ [(q2, .inl (gC g 0, 3, .inl (fun _ => 0)))]) ++ ((q3, .inl (gC g 5, 5, .inr (.inr (.inr (.inr (fun i => some (r3 i))))))) :: (List.range 5).map (fun i => (r3 i, .inl (gC g 0, 7, .inl (fun _ => 0)))))) ++ ((q4, .inl (gC g 5, 5, .inr (.inr (.inr (.inr (fun i => some (r4 i))))))) :: (List.range 5).map (fun i => (r4 i, .inl (gC g 0, 6, .inl (fun _ => 0)))))))) H := hP2
  have hD : va_D A (((h0, .inr (0, [.int 0, .int 0, .int 0, .int 0, .int 0, .int 0, .int 0, .int 0, .ref q1, .ref q2, .ref q3, .null, .null, .null, .null])) :: (((([] ++ [(q1, .inl (gC g 0, 3, .inl (fun _ => 0)))]) ++ [(q2, .inl (gC g 0, 3, .inl (fun _ => 0)))]) ++ ((q3, .inl (gC g 5, 5, .inr (.inr (.inr (.inr (fun i => some (r3 i))))))) :: (List.range 5).map (fun i => (r3 i, .inl (gC g 0, 7, .inl (fun _ => 0)))))) ++ ((q4, .inl (gC g 5, 5, .inr (.inr (.inr (.inr (fun i => some (r4 i))))))) :: (List.range 5).map (fun i => (r4 i, .inl (gC g 0, 6, .inl (fun _ => 0)))))))) := hD2
  have hS := hS2
  clear hP2 hD2 hS2
  refine W.widen (k := 14) (n := 81) (by decide) (by decide) ?_
  refine va_putF (D := gD g) (ci := 0) (v := .ref q4) (ty := (.array (.array .int))) (C := RX0) (T := TX0) (N := 15) hx hb hts inUX0 tyX0 tyX0_ok nmX0 hown hK hP hD hS 0 rfl rfl 11 (by decide) (hts _ u_225) (fun _ h9 => h9) rfl hnm rfl (by decide +kernel) rfl rfl (Nat.le_of_ble_eq_true rfl) dX0_init_37 (fun H locs hP2 hD2 hS2 => ?_)
  clear hP hD hS
  have hP : va_P (gD g) vwCl (((h0, .inr (0, [.int 0, .int 0, .int 0, .int 0, .int 0, .int 0, .int 0, .int 0, .ref q1, .ref q2, .ref q3, .ref q4, .null, .null, .null])) :: (((([] ++ [(q1, .inl (gC g 0, 3, .inl (fun _ => 0)))]) ++ [(q2, .inl (gC g 0, 3, .inl (fun _ => 0)))]) ++ ((q3, .inl (gC g 5, 5, .inr (.inr (.inr (.inr (fun i => some (r3 i))))))) :: (List.range 5).map (fun i => (r3 i, .inl (gC g 0, 7, .inl (fun _ => 0)))))) ++ ((q4, .inl (gC g 5, 5, .inr (.inr (.inr (.inr (fun i => some (r4 i))))))) :: (List.range 5).map (fun i => (r4 i, .inl (gC g 0, 6, .inl (fun _ => 0)))))))) H := hP2
  have hD : va_D A (((h0, .inr (0, [.int 0, .int 0, .int 0, .int 0, .int 0, .int 0, .int 0, .int 0, .ref q1, .ref q2, .ref q3, .ref q4, .null, .null, .null])) :: (((([] ++ [(q1, .inl (gC g 0, 3, .inl (fun _ => 0)))]) ++ [(q2, .inl (gC g 0, 3, .inl (fun _ => 0)))]) ++ ((q3, .inl (gC g 5, 5, .inr (.inr (.inr (.inr (fun i => some (r3 i))))))) :: (List.range 5).map (fun i => (r3 i, .inl (gC g 0, 7, .inl (fun _ => 0)))))) ++ ((q4, .inl (gC g 5, 5, .inr (.inr (.inr (.inr (fun i => some (r4 i))))))) :: (List.range 5).map (fun i => (r4 i, .inl (gC g 0, 6, .inl (fun _ => 0)))))))) := hD2
  have hS := hS2
  clear hP2 hD2 hS2
  refine lv_aload_n hx hb dX0_init_40 rfl (lv_at hl 0 rfl) ?_
  refine lv_iconst (v := 5) hx hb dX0_init_41 (by decide) ?_
  refine lv_bipush (v := 6) hx hb dX0_init_42 (by decide) ?_
  refine n_mna (N := 5) (K := 6) hx hb hown hts hK hCN hA hP hD hS dX0_init_44 u_179 u_173 (by decide) (by decide) (by decide) (by decide) (by decide) (by decide) (by rw [hR]; exact Nat.le_of_ble_eq_true rfl) (by rw [hR]; exact Nat.le_of_ble_eq_true rfl) (fun q5 r5 H hP2 hD2 hS2 => ?_)
  clear hP hD hS
  have hP : va_P (gD g) vwCl (((h0, .inr (0, [.int 0, .int 0, .int 0, .int 0, .int 0, .int 0, .int 0, .int 0, .ref q1, .ref q2, .ref q3, .ref q4, .null, .null, .null])) :: ((((([] ++ [(q1, .inl (gC g 0, 3, .inl (fun _ => 0)))]) ++ [(q2, .inl (gC g 0, 3, .inl (fun _ => 0)))]) ++ ((q3, .inl (gC g 5, 5, .inr (.inr (.inr (.inr (fun i => some (r3 i))))))) :: (List.range 5).map (fun i => (r3 i, .inl (gC g 0, 7, .inl (fun _ => 0)))))) ++ ((q4, .inl (gC g 5, 5, .inr (.inr (.inr (.inr (fun i => some (r4 i))))))) :: (List.range 5).map (fun i => (r4 i, .inl (gC g 0, 6, .inl (fun _ => 0)))))) ++ ((q5, .inl (gC g 5, 5, .inr (.inr (.inr (.inr (fun i => some (r5 i))))))) :: (List.range 5).map (fun i => (r5 i, .inl (gC g 0, 6, .inl (fun _ => 0)))))))) H := hP2
  have hD : va_D A (((h0, .inr (0, [.int 0, .int 0, .int 0, .int 0, .int 0, .int 0, .int 0, .int 0, .ref q1, .ref q2, .ref q3, .ref q4, .null, .null, .null])) :: ((((([] ++ [(q1, .inl (gC g 0, 3, .inl (fun _ => 0)))]) ++ [(q2, .inl (gC g 0, 3, .inl (fun _ => 0)))]) ++ ((q3, .inl (gC g 5, 5, .inr (.inr (.inr (.inr (fun i => some (r3 i))))))) :: (List.range 5).map (fun i => (r3 i, .inl (gC g 0, 7, .inl (fun _ => 0)))))) ++ ((q4, .inl (gC g 5, 5, .inr (.inr (.inr (.inr (fun i => some (r4 i))))))) :: (List.range 5).map (fun i => (r4 i, .inl (gC g 0, 6, .inl (fun _ => 0)))))) ++ ((q5, .inl (gC g 5, 5, .inr (.inr (.inr (.inr (fun i => some (r5 i))))))) :: (List.range 5).map (fun i => (r5 i, .inl (gC g 0, 6, .inl (fun _ => 0)))))))) := hD2
  have hS := hS2
  clear hP2 hD2 hS2
  refine W.widen (k := 20) (n := 116) (by decide) (by decide) ?_
  refine va_putF (D := gD g) (ci := 0) (v := .ref q5) (ty := (.array (.array .int))) (C := RX0) (T := TX0) (N := 15) hx hb hts inUX0 tyX0 tyX0_ok nmX0 hown hK hP hD hS 0 rfl rfl 12 (by decide) (hts _ u_229) (fun _ h9 => h9) rfl hnm rfl (by decide +kernel) rfl rfl (Nat.le_of_ble_eq_true rfl) dX0_init_48 (fun H locs hP2 hD2 hS2 => ?_)
  clear hP hD hS
  have hP : va_P (gD g) vwCl (((h0, .inr (0, [.int 0, .int 0, .int 0, .int 0, .int 0, .int 0, .int 0, .int 0, .ref q1, .ref q2, .ref q3, .ref q4, .ref q5, .null, .null])) :: ((((([] ++ [(q1, .inl (gC g 0, 3, .inl (fun _ => 0)))]) ++ [(q2, .inl (gC g 0, 3, .inl (fun _ => 0)))]) ++ ((q3, .inl (gC g 5, 5, .inr (.inr (.inr (.inr (fun i => some (r3 i))))))) :: (List.range 5).map (fun i => (r3 i, .inl (gC g 0, 7, .inl (fun _ => 0)))))) ++ ((q4, .inl (gC g 5, 5, .inr (.inr (.inr (.inr (fun i => some (r4 i))))))) :: (List.range 5).map (fun i => (r4 i, .inl (gC g 0, 6, .inl (fun _ => 0)))))) ++ ((q5, .inl (gC g 5, 5, .inr (.inr (.inr (.inr (fun i => some (r5 i))))))) :: (List.range 5).map (fun i => (r5 i, .inl (gC g 0, 6, .inl (fun _ => 0)))))))) H := hP2
  have hD : va_D A (((h0, .inr (0, [.int 0, .int 0, .int 0, .int 0, .int 0, .int 0, .int 0, .int 0, .ref q1, .ref q2, .ref q3, .ref q4, .ref q5, .null, .null])) :: ((((([] ++ [(q1, .inl (gC g 0, 3, .inl (fun _ => 0)))]) ++ [(q2, .inl (gC g 0, 3, .inl (fun _ => 0)))]) ++ ((q3, .inl (gC g 5, 5, .inr (.inr (.inr (.inr (fun i => some (r3 i))))))) :: (List.range 5).map (fun i => (r3 i, .inl (gC g 0, 7, .inl (fun _ => 0)))))) ++ ((q4, .inl (gC g 5, 5, .inr (.inr (.inr (.inr (fun i => some (r4 i))))))) :: (List.range 5).map (fun i => (r4 i, .inl (gC g 0, 6, .inl (fun _ => 0)))))) ++ ((q5, .inl (gC g 5, 5, .inr (.inr (.inr (.inr (fun i => some (r5 i))))))) :: (List.range 5).map (fun i => (r5 i, .inl (gC g 0, 6, .inl (fun _ => 0)))))))) := hD2
  have hS := hS2
  clear hP2 hD2 hS2
  refine lv_aload_n hx hb dX0_init_51 rfl (lv_at hl 0 rfl) ?_
  refine lv_iconst (v := 5) hx hb dX0_init_52 (by decide) ?_
  refine lv_iconst (v := 2) hx hb dX0_init_53 (by decide) ?_
  refine n_mna (N := 5) (K := 2) hx hb hown hts hK hCN hA hP hD hS dX0_init_54 u_179 u_173 (by decide) (by decide) (by decide) (by decide) (by decide) (by decide) (by rw [hR]; exact Nat.le_of_ble_eq_true rfl) (by rw [hR]; exact Nat.le_of_ble_eq_true rfl) (fun q6 r6 H hP2 hD2 hS2 => ?_)
  clear hP hD hS
  have hP : va_P (gD g) vwCl (((h0, .inr (0, [.int 0, .int 0, .int 0, .int 0, .int 0, .int 0, .int 0, .int 0, .ref q1, .ref q2, .ref q3, .ref q4, .ref q5, .null, .null])) :: (((((([] ++ [(q1, .inl (gC g 0, 3, .inl (fun _ => 0)))]) ++ [(q2, .inl (gC g 0, 3, .inl (fun _ => 0)))]) ++ ((q3, .inl (gC g 5, 5, .inr (.inr (.inr (.inr (fun i => some (r3 i))))))) :: (List.range 5).map (fun i => (r3 i, .inl (gC g 0, 7, .inl (fun _ => 0)))))) ++ ((q4, .inl (gC g 5, 5, .inr (.inr (.inr (.inr (fun i => some (r4 i))))))) :: (List.range 5).map (fun i => (r4 i, .inl (gC g 0, 6, .inl (fun _ => 0)))))) ++ ((q5, .inl (gC g 5, 5, .inr (.inr (.inr (.inr (fun i => some (r5 i))))))) :: (List.range 5).map (fun i => (r5 i, .inl (gC g 0, 6, .inl (fun _ => 0)))))) ++ ((q6, .inl (gC g 5, 5, .inr (.inr (.inr (.inr (fun i => some (r6 i))))))) :: (List.range 5).map (fun i => (r6 i, .inl (gC g 0, 2, .inl (fun _ => 0)))))))) H := hP2
  have hD : va_D A (((h0, .inr (0, [.int 0, .int 0, .int 0, .int 0, .int 0, .int 0, .int 0, .int 0, .ref q1, .ref q2, .ref q3, .ref q4, .ref q5, .null, .null])) :: (((((([] ++ [(q1, .inl (gC g 0, 3, .inl (fun _ => 0)))]) ++ [(q2, .inl (gC g 0, 3, .inl (fun _ => 0)))]) ++ ((q3, .inl (gC g 5, 5, .inr (.inr (.inr (.inr (fun i => some (r3 i))))))) :: (List.range 5).map (fun i => (r3 i, .inl (gC g 0, 7, .inl (fun _ => 0)))))) ++ ((q4, .inl (gC g 5, 5, .inr (.inr (.inr (.inr (fun i => some (r4 i))))))) :: (List.range 5).map (fun i => (r4 i, .inl (gC g 0, 6, .inl (fun _ => 0)))))) ++ ((q5, .inl (gC g 5, 5, .inr (.inr (.inr (.inr (fun i => some (r5 i))))))) :: (List.range 5).map (fun i => (r5 i, .inl (gC g 0, 6, .inl (fun _ => 0)))))) ++ ((q6, .inl (gC g 5, 5, .inr (.inr (.inr (.inr (fun i => some (r6 i))))))) :: (List.range 5).map (fun i => (r6 i, .inl (gC g 0, 2, .inl (fun _ => 0)))))))) := hD2
  have hS := hS2
  clear hP2 hD2 hS2
  refine W.widen (k := 26) (n := 131) (by decide) (by decide) ?_
  refine va_putF (D := gD g) (ci := 0) (v := .ref q6) (ty := (.array (.array .int))) (C := RX0) (T := TX0) (N := 15) hx hb hts inUX0 tyX0 tyX0_ok nmX0 hown hK hP hD hS 0 rfl rfl 13 (by decide) (hts _ u_233) (fun _ h9 => h9) rfl hnm rfl (by decide +kernel) rfl rfl (Nat.le_of_ble_eq_true rfl) dX0_init_58 (fun H locs hP2 hD2 hS2 => ?_)
  clear hP hD hS
  have hP : va_P (gD g) vwCl (((h0, .inr (0, [.int 0, .int 0, .int 0, .int 0, .int 0, .int 0, .int 0, .int 0, .ref q1, .ref q2, .ref q3, .ref q4, .ref q5, .ref q6, .null])) :: (((((([] ++ [(q1, .inl (gC g 0, 3, .inl (fun _ => 0)))]) ++ [(q2, .inl (gC g 0, 3, .inl (fun _ => 0)))]) ++ ((q3, .inl (gC g 5, 5, .inr (.inr (.inr (.inr (fun i => some (r3 i))))))) :: (List.range 5).map (fun i => (r3 i, .inl (gC g 0, 7, .inl (fun _ => 0)))))) ++ ((q4, .inl (gC g 5, 5, .inr (.inr (.inr (.inr (fun i => some (r4 i))))))) :: (List.range 5).map (fun i => (r4 i, .inl (gC g 0, 6, .inl (fun _ => 0)))))) ++ ((q5, .inl (gC g 5, 5, .inr (.inr (.inr (.inr (fun i => some (r5 i))))))) :: (List.range 5).map (fun i => (r5 i, .inl (gC g 0, 6, .inl (fun _ => 0)))))) ++ ((q6, .inl (gC g 5, 5, .inr (.inr (.inr (.inr (fun i => some (r6 i))))))) :: (List.range 5).map (fun i => (r6 i, .inl (gC g 0, 2, .inl (fun _ => 0)))))))) H := hP2
  have hD : va_D A (((h0, .inr (0, [.int 0, .int 0, .int 0, .int 0, .int 0, .int 0, .int 0, .int 0, .ref q1, .ref q2, .ref q3, .ref q4, .ref q5, .ref q6, .null])) :: (((((([] ++ [(q1, .inl (gC g 0, 3, .inl (fun _ => 0)))]) ++ [(q2, .inl (gC g 0, 3, .inl (fun _ => 0)))]) ++ ((q3, .inl (gC g 5, 5, .inr (.inr (.inr (.inr (fun i => some (r3 i))))))) :: (List.range 5).map (fun i => (r3 i, .inl (gC g 0, 7, .inl (fun _ => 0)))))) ++ ((q4, .inl (gC g 5, 5, .inr (.inr (.inr (.inr (fun i => some (r4 i))))))) :: (List.range 5).map (fun i => (r4 i, .inl (gC g 0, 6, .inl (fun _ => 0)))))) ++ ((q5, .inl (gC g 5, 5, .inr (.inr (.inr (.inr (fun i => some (r5 i))))))) :: (List.range 5).map (fun i => (r5 i, .inl (gC g 0, 6, .inl (fun _ => 0)))))) ++ ((q6, .inl (gC g 5, 5, .inr (.inr (.inr (.inr (fun i => some (r6 i))))))) :: (List.range 5).map (fun i => (r6 i, .inl (gC g 0, 2, .inl (fun _ => 0)))))))) := hD2
  have hS := hS2
  clear hP2 hD2 hS2
  refine lv_aload_n hx hb dX0_init_61 rfl (lv_at hl 0 rfl) ?_
  refine lv_bipush (v := 19) hx hb dX0_init_62 (by decide) ?_
  refine lv_iconst (v := 5) hx hb dX0_init_64 (by decide) ?_
  refine n_mna (N := 19) (K := 5) hx hb hown hts hK hCN hA hP hD hS dX0_init_65 u_179 u_173 (by decide) (by decide) (by decide) (by decide) (by decide) (by decide) (by rw [hR]; exact Nat.le_of_ble_eq_true rfl) (by rw [hR]; exact Nat.le_of_ble_eq_true rfl) (fun q7 r7 H hP2 hD2 hS2 => ?_)
  clear hP hD hS
  have hP : va_P (gD g) vwCl (((h0, .inr (0, [.int 0, .int 0, .int 0, .int 0, .int 0, .int 0, .int 0, .int 0, .ref q1, .ref q2, .ref q3, .ref q4, .ref q5, .ref q6, .null])) :: ((((((([] ++ [(q1, .inl (gC g 0, 3, .inl (fun _ => 0)))]) ++ [(q2, .inl (gC g 0, 3, .inl (fun _ => 0)))]) ++ ((q3, .inl (gC g 5, 5, .inr (.inr (.inr (.inr (fun i => some (r3 i))))))) :: (List.range 5).map (fun i => (r3 i, .inl (gC g 0, 7, .inl (fun _ => 0)))))) ++ ((q4, .inl (gC g 5, 5, .inr (.inr (.inr (.inr (fun i => some (r4 i))))))) :: (List.range 5).map (fun i => (r4 i, .inl (gC g 0, 6, .inl (fun _ => 0)))))) ++ ((q5, .inl (gC g 5, 5, .inr (.inr (.inr (.inr (fun i => some (r5 i))))))) :: (List.range 5).map (fun i => (r5 i, .inl (gC g 0, 6, .inl (fun _ => 0)))))) ++ ((q6, .inl (gC g 5, 5, .inr (.inr (.inr (.inr (fun i => some (r6 i))))))) :: (List.range 5).map (fun i => (r6 i, .inl (gC g 0, 2, .inl (fun _ => 0)))))) ++ ((q7, .inl (gC g 5, 19, .inr (.inr (.inr (.inr (fun i => some (r7 i))))))) :: (List.range 19).map (fun i => (r7 i, .inl (gC g 0, 5, .inl (fun _ => 0)))))))) H := hP2
  have hD : va_D A (((h0, .inr (0, [.int 0, .int 0, .int 0, .int 0, .int 0, .int 0, .int 0, .int 0, .ref q1, .ref q2, .ref q3, .ref q4, .ref q5, .ref q6, .null])) :: ((((((([] ++ [(q1, .inl (gC g 0, 3, .inl (fun _ => 0)))]) ++ [(q2, .inl (gC g 0, 3, .inl (fun _ => 0)))]) ++ ((q3, .inl (gC g 5, 5, .inr (.inr (.inr (.inr (fun i => some (r3 i))))))) :: (List.range 5).map (fun i => (r3 i, .inl (gC g 0, 7, .inl (fun _ => 0)))))) ++ ((q4, .inl (gC g 5, 5, .inr (.inr (.inr (.inr (fun i => some (r4 i))))))) :: (List.range 5).map (fun i => (r4 i, .inl (gC g 0, 6, .inl (fun _ => 0)))))) ++ ((q5, .inl (gC g 5, 5, .inr (.inr (.inr (.inr (fun i => some (r5 i))))))) :: (List.range 5).map (fun i => (r5 i, .inl (gC g 0, 6, .inl (fun _ => 0)))))) ++ ((q6, .inl (gC g 5, 5, .inr (.inr (.inr (.inr (fun i => some (r6 i))))))) :: (List.range 5).map (fun i => (r6 i, .inl (gC g 0, 2, .inl (fun _ => 0)))))) ++ ((q7, .inl (gC g 5, 19, .inr (.inr (.inr (.inr (fun i => some (r7 i))))))) :: (List.range 19).map (fun i => (r7 i, .inl (gC g 0, 5, .inl (fun _ => 0)))))))) := hD2
  have hS := hS2
  clear hP2 hD2 hS2
  refine W.widen (k := 46) (n := 245) (by decide) (by decide) ?_
  refine va_putF (D := gD g) (ci := 0) (v := .ref q7) (ty := (.array (.array .int))) (C := RX0) (T := TX0) (N := 15) hx hb hts inUX0 tyX0 tyX0_ok nmX0 hown hK hP hD hS 0 rfl rfl 14 (by decide) (hts _ u_236) (fun _ h9 => h9) rfl hnm rfl (by decide +kernel) rfl rfl (Nat.le_of_ble_eq_true rfl) dX0_init_69 (fun H locs hP2 hD2 hS2 => ?_)
  clear hP hD hS
  have hP : va_P (gD g) vwCl (((h0, .inr (0, [.int 0, .int 0, .int 0, .int 0, .int 0, .int 0, .int 0, .int 0, .ref q1, .ref q2, .ref q3, .ref q4, .ref q5, .ref q6, .ref q7])) :: ((((((([] ++ [(q1, .inl (gC g 0, 3, .inl (fun _ => 0)))]) ++ [(q2, .inl (gC g 0, 3, .inl (fun _ => 0)))]) ++ ((q3, .inl (gC g 5, 5, .inr (.inr (.inr (.inr (fun i => some (r3 i))))))) :: (List.range 5).map (fun i => (r3 i, .inl (gC g 0, 7, .inl (fun _ => 0)))))) ++ ((q4, .inl (gC g 5, 5, .inr (.inr (.inr (.inr (fun i => some (r4 i))))))) :: (List.range 5).map (fun i => (r4 i, .inl (gC g 0, 6, .inl (fun _ => 0)))))) ++ ((q5, .inl (gC g 5, 5, .inr (.inr (.inr (.inr (fun i => some (r5 i))))))) :: (List.range 5).map (fun i => (r5 i, .inl (gC g 0, 6, .inl (fun _ => 0)))))) ++ ((q6, .inl (gC g 5, 5, .inr (.inr (.inr (.inr (fun i => some (r6 i))))))) :: (List.range 5).map (fun i => (r6 i, .inl (gC g 0, 2, .inl (fun _ => 0)))))) ++ ((q7, .inl (gC g 5, 19, .inr (.inr (.inr (.inr (fun i => some (r7 i))))))) :: (List.range 19).map (fun i => (r7 i, .inl (gC g 0, 5, .inl (fun _ => 0)))))))) H := hP2
  have hD : va_D A (((h0, .inr (0, [.int 0, .int 0, .int 0, .int 0, .int 0, .int 0, .int 0, .int 0, .ref q1, .ref q2, .ref q3, .ref q4, .ref q5, .ref q6, .ref q7])) :: ((((((([] ++ [(q1, .inl (gC g 0, 3, .inl (fun _ => 0)))]) ++ [(q2, .inl (gC g 0, 3, .inl (fun _ => 0)))]) ++ ((q3, .inl (gC g 5, 5, .inr (.inr (.inr (.inr (fun i => some (r3 i))))))) :: (List.range 5).map (fun i => (r3 i, .inl (gC g 0, 7, .inl (fun _ => 0)))))) ++ ((q4, .inl (gC g 5, 5, .inr (.inr (.inr (.inr (fun i => some (r4 i))))))) :: (List.range 5).map (fun i => (r4 i, .inl (gC g 0, 6, .inl (fun _ => 0)))))) ++ ((q5, .inl (gC g 5, 5, .inr (.inr (.inr (.inr (fun i => some (r5 i))))))) :: (List.range 5).map (fun i => (r5 i, .inl (gC g 0, 6, .inl (fun _ => 0)))))) ++ ((q6, .inl (gC g 5, 5, .inr (.inr (.inr (.inr (fun i => some (r6 i))))))) :: (List.range 5).map (fun i => (r6 i, .inl (gC g 0, 2, .inl (fun _ => 0)))))) ++ ((q7, .inl (gC g 5, 19, .inr (.inr (.inr (.inr (fun i => some (r7 i))))))) :: (List.range 19).map (fun i => (r7 i, .inl (gC g 0, 5, .inl (fun _ => 0)))))))) := hD2
  have hS := hS2
  clear hP2 hD2 hS2
  have e : wsLw g (L_X0 b) (fun κ _ i => match κ with | 0 => h0 | 1 => q1 | 2 => q2 | 3 => q3 | 4 => r3 i | 5 => q4 | 6 => r4 i | 7 => q5 | 8 => r5 i | 9 => q6 | 10 => r6 i | 11 => q7 | 12 => r7 i | _ => 0) = ((h0, .inr (0, [.int 0, .int 0, .int 0, .int 0, .int 0, .int 0, .int 0, .int 0, .ref q1, .ref q2, .ref q3, .ref q4, .ref q5, .ref q6, .ref q7])) :: ((((((([] ++ [(q1, .inl (gC g 0, 3, .inl (fun _ => 0)))]) ++ [(q2, .inl (gC g 0, 3, .inl (fun _ => 0)))]) ++ ((q3, .inl (gC g 5, 5, .inr (.inr (.inr (.inr (fun i => some (r3 i))))))) :: (List.range 5).map (fun i => (r3 i, .inl (gC g 0, 7, .inl (fun _ => 0)))))) ++ ((q4, .inl (gC g 5, 5, .inr (.inr (.inr (.inr (fun i => some (r4 i))))))) :: (List.range 5).map (fun i => (r4 i, .inl (gC g 0, 6, .inl (fun _ => 0)))))) ++ ((q5, .inl (gC g 5, 5, .inr (.inr (.inr (.inr (fun i => some (r5 i))))))) :: (List.range 5).map (fun i => (r5 i, .inl (gC g 0, 6, .inl (fun _ => 0)))))) ++ ((q6, .inl (gC g 5, 5, .inr (.inr (.inr (.inr (fun i => some (r6 i))))))) :: (List.range 5).map (fun i => (r6 i, .inl (gC g 0, 2, .inl (fun _ => 0)))))) ++ ((q7, .inl (gC g 5, 19, .inr (.inr (.inr (.inr (fun i => some (r7 i))))))) :: (List.range 19).map (fun i => (r7 i, .inl (gC g 0, 5, .inl (fun _ => 0))))))) := by
    unfold wsLw L_X0
    simp only [List.map_cons, List.map_append, List.map_nil, List.map_map, Function.comp_def]
    rfl
  rw [← e] at hP hD
  exact W.vret hx hb hr (fun t ht hW => ⟨rfl, ⟨_, by rw [ht]; exact hP, hD, rfl⟩, hS.F ht⟩) hS.2.2 dX0_init_72 hlk
