def L_X5 (b : Nat) : List (Nat × Nat × Nat) := (23, b, 0) :: (24, b, 0) :: ([(25, b, 4)] ++ ([(25, b, 3)] ++ ([(25, b, 2)] ++ ([(25, b, 1)] ++ ([(25, b, 0)] ++ (((((((([] ++ (L_X0 ((b + 5)))) ++ (L_X4 b)) ++ ((29, b, 0) :: (List.range 5).map (fun i => (30, b, i)))) ++ [(31, b, 0)]) ++ [(32, b, 0)]) ++ [(33, b, 0)]) ++ [(34, b, 0)]) ++ [(35, b, 0)]))))))
set_option maxRecDepth 100000 in
set_option maxHeartbeats 8000000 in
theorem n_X5_init (g : Gw) (l : Launch) (b : Nat) (h0 sz : Nat) : NMet g l yX5_init cX5_init 2 2 194 1661 h0 5 [.null, .null, .null, .int 0, .int 0, .int 0, .int 0, .int 0, .int 0, .null, .null, .null, .int 0, .null, .null, .null] sz (wsLw g (L_X5 b)) := by
  refine NMet.of (own := RX5) (by decide +kernel) rfl rfl (by decide) ?_
  intro p e R s m args below meth c A hx hb hml hown hts hK hCN hA hR hlk hr hnm H ls hP hD hS hl
  refine lv_aload_n hx hb dX5_init_0 rfl (lv_at hl 0 rfl) ?_
  refine W.objInit hx hb hown (hts _ u_272) (hts _ u_151) (hts _ u_152) rfl (by rw [hml]; exact hl.1) rfl dX5_init_1 (by rw [hR]; exact Nat.le_of_ble_eq_true rfl) (by rw [hR]; exact Nat.le_of_ble_eq_true rfl) ?_
  refine W.eq (g2 := F0 m 4 ls []) rfl ?_
  refine lv_aload_n hx hb dX5_init_4 rfl (lv_at hl 0 rfl) ?_
  refine va_new (ci := 0) (fs := [.int 0, .int 0, .int 0, .int 0, .int 0, .int 0, .int 0, .int 0, .null, .null, .null, .null, .null, .null, .null]) (C := RX0) (T := TX0) (N := 15) hx hb hts inUX0 tyX0 tyX0_ok hown (hts _ u_273) (hts _ u_175) (hts _ u_128) hK hP hD hS hA rfl (by decide +kernel) (by rw [hR]; exact Nat.le_of_ble_eq_true rfl) (by rw [hR]; exact Nat.le_of_ble_eq_true rfl) dX5_init_5 (fun q1 H hP2 hD2 hS2 => ?_)
  refine W.widen (k := 1) (n := 15) (by decide) (by decide) ?_
  clear hP hD hS
  have hP := hP2
  have hD := hD2
  have hS := hS2
  clear hP2 hD2 hS2
  refine lv_dup hx hb dX5_init_8 rfl ?_
  refine n_callN (rest := [.ref q1, .ref h0]) (wr := ((h0, .inr (5, [.null, .null, .null, .int 0, .int 0, .int 0, .int 0, .int 0, .int 0, .null, .null, .null, .int 0, .null, .null, .null])) :: [])) hx hb hml hown hts hK hCN hA hR hl hP hD hS (n_X0_init g l ((b + 5)) q1 _) dX5_init_9 ⟨"WatchStack", by decide +kernel⟩ rfl u_176 mi_X0_init (by decide) (Nat.le_of_ble_eq_true rfl) (by decide) (by decide) (fun ad1 H locs hh hP2 hD2 hS2 => ?_)
  have hh2 : ad1 0 ((b + 5)) 0 = q1 := Option.some.inj hh
  clear hh
  clear hP hD hS
  have hP : va_P (gD g) vwCl ((h0, .inr (5, [.null, .null, .null, .int 0, .int 0, .int 0, .int 0, .int 0, .int 0, .null, .null, .null, .int 0, .null, .null, .null])) :: ([] ++ wsLw g (L_X0 ((b + 5))) ad1)) H := hP2
  have hD : va_D A ((h0, .inr (5, [.null, .null, .null, .int 0, .int 0, .int 0, .int 0, .int 0, .int 0, .null, .null, .null, .int 0, .null, .null, .null])) :: ([] ++ wsLw g (L_X0 ((b + 5))) ad1)) := hD2
  have hS := hS2
  clear hP2 hD2 hS2
  subst hh2
  refine W.widen (k := 47) (n := 260) (by decide) (by decide) ?_
  refine va_putF (D := gD g) (ci := 5) (v := .ref (ad1 0 ((b + 5)) 0)) (ty := (.object "WatchStack$Board")) (C := RX5) (T := TX5) (N := 16) hx hb hts inUX5 tyX5 tyX5_ok nmX5 hown hK hP hD hS 0 rfl rfl 0 (by decide) (hts _ u_328) (fun _ h9 => h9) rfl hnm rfl (by decide +kernel) rfl rfl (Nat.le_of_ble_eq_true rfl) dX5_init_12 (fun H locs hP2 hD2 hS2 => ?_)
  clear hP hD hS
  have hP : va_P (gD g) vwCl ((h0, .inr (5, [.ref (ad1 0 ((b + 5)) 0), .null, .null, .int 0, .int 0, .int 0, .int 0, .int 0, .int 0, .null, .null, .null, .int 0, .null, .null, .null])) :: ([] ++ wsLw g (L_X0 ((b + 5))) ad1)) H := hP2
  have hD : va_D A ((h0, .inr (5, [.ref (ad1 0 ((b + 5)) 0), .null, .null, .int 0, .int 0, .int 0, .int 0, .int 0, .int 0, .null, .null, .null, .int 0, .null, .null, .null])) :: ([] ++ wsLw g (L_X0 ((b + 5))) ad1)) := hD2
  have hS := hS2
  clear hP2 hD2 hS2
  refine lv_aload_n hx hb dX5_init_15 rfl (lv_at hl 0 rfl) ?_
  refine lv_iconst (v := 5) hx hb dX5_init_16 (by decide) ?_
  refine va_newq (C := "WatchStack$TaskState") (N' := 5) hx hb hown (hts _ u_274) hCN.2.2.1 hK hP hD hS hA (by decide) (by decide) (by decide) (by rw [hR]; exact Nat.le_of_ble_eq_true rfl) (by rw [hR]; exact Nat.le_of_ble_eq_true rfl) dX5_init_17 (fun q2 cA H hK1 hP2 hD2 hS2 => ?_)
  obtain rfl := ca_7 hK hK1
  clear hK1
  clear hP hD hS
  have hP : va_P (gD g) vwCl ((h0, .inr (5, [.ref (ad1 0 ((b + 5)) 0), .null, .null, .int 0, .int 0, .int 0, .int 0, .int 0, .int 0, .null, .null, .null, .int 0, .null, .null, .null])) :: (q2, .inl (gC g 7, 5, .inr (.inr (.inr (.inr (fun _ => none)))))) :: ([] ++ wsLw g (L_X0 ((b + 5))) ad1)) H := n_turn hP2
  have hD : va_D A ((h0, .inr (5, [.ref (ad1 0 ((b + 5)) 0), .null, .null, .int 0, .int 0, .int 0, .int 0, .int 0, .int 0, .null, .null, .null, .int 0, .null, .null, .null])) :: (q2, .inl (gC g 7, 5, .inr (.inr (.inr (.inr (fun _ => none)))))) :: ([] ++ wsLw g (L_X0 ((b + 5))) ad1)) := n_turnD hD2
  have hS := hS2
  clear hP2 hD2 hS2
  refine W.widen (k := 48) (n := 265) (by decide) (by decide) ?_
  refine va_putF (D := gD g) (ci := 5) (v := .ref q2) (ty := (.array (.object "WatchStack$TaskState"))) (C := RX5) (T := TX5) (N := 16) hx hb hts inUX5 tyX5 tyX5_ok nmX5 hown hK hP hD hS 0 rfl rfl 1 (by decide) (hts _ u_331) (fun _ h9 => h9) rfl hnm rfl (by decide +kernel) rfl rfl (Nat.le_of_ble_eq_true rfl) dX5_init_20 (fun H locs hP2 hD2 hS2 => ?_)
  clear hP hD hS
  have hP : va_P (gD g) vwCl ((h0, .inr (5, [.ref (ad1 0 ((b + 5)) 0), .ref q2, .null, .int 0, .int 0, .int 0, .int 0, .int 0, .int 0, .null, .null, .null, .int 0, .null, .null, .null])) :: (q2, .inl (gC g 7, 5, .inr (.inr (.inr (.inr (fun _ => none)))))) :: ([] ++ wsLw g (L_X0 ((b + 5))) ad1)) H := hP2
  have hD : va_D A ((h0, .inr (5, [.ref (ad1 0 ((b + 5)) 0), .ref q2, .null, .int 0, .int 0, .int 0, .int 0, .int 0, .int 0, .null, .null, .null, .int 0, .null, .null, .null])) :: (q2, .inl (gC g 7, 5, .inr (.inr (.inr (.inr (fun _ => none)))))) :: ([] ++ wsLw g (L_X0 ((b + 5))) ad1)) := hD2
  have hS := hS2
  clear hP2 hD2 hS2
  refine lv_aload_n hx hb dX5_init_23 rfl (lv_at hl 0 rfl) ?_
  refine va_new (ci := 4) (fs := [.null, .int 0]) (C := RX4) (T := TX4) (N := 2) hx hb hts inUX4 tyX4 tyX4_ok hown (hts _ u_275) (hts _ u_276) (hts _ u_132) hK hP hD hS hA rfl (by decide +kernel) (by rw [hR]; exact Nat.le_of_ble_eq_true rfl) (by rw [hR]; exact Nat.le_of_ble_eq_true rfl) dX5_init_24 (fun q3 H hP2 hD2 hS2 => ?_)
  refine W.widen (k := 49) (n := 267) (by decide) (by decide) ?_
  clear hP hD hS
  have hP := hP2
  have hD := hD2
  have hS := hS2
  clear hP2 hD2 hS2
  refine lv_dup hx hb dX5_init_27 rfl ?_
  refine n_callN (rest := [.ref q3, .ref h0]) (wr := ((h0, .inr (5, [.ref (ad1 0 ((b + 5)) 0), .ref q2, .null, .int 0, .int 0, .int 0, .int 0, .int 0, .int 0, .null, .null, .null, .int 0, .null, .null, .null])) :: (q2, .inl (gC g 7, 5, .inr (.inr (.inr (.inr (fun _ => none)))))) :: ([] ++ wsLw g (L_X0 ((b + 5))) ad1))) hx hb hml hown hts hK hCN hA hR hl hP hD hS (n_X4_init g l b q3 _) dX5_init_28 ⟨"WatchStack", by decide +kernel⟩ rfl u_277 mi_X4_init (by decide) (Nat.le_of_ble_eq_true rfl) (by decide) (by decide) (fun ad3 H locs hh hP2 hD2 hS2 => ?_)
  have hh2 : ad3 26 b 0 = q3 := Option.some.inj hh
  clear hh
  clear hP hD hS
  have hP : va_P (gD g) vwCl ((h0, .inr (5, [.ref (ad1 0 ((b + 5)) 0), .ref q2, .null, .int 0, .int 0, .int 0, .int 0, .int 0, .int 0, .null, .null, .null, .int 0, .null, .null, .null])) :: (q2, .inl (gC g 7, 5, .inr (.inr (.inr (.inr (fun _ => none)))))) :: (([] ++ wsLw g (L_X0 ((b + 5))) ad1) ++ wsLw g (L_X4 b) ad3)) H := hP2
  have hD : va_D A ((h0, .inr (5, [.ref (ad1 0 ((b + 5)) 0), .ref q2, .null, .int 0, .int 0, .int 0, .int 0, .int 0, .int 0, .null, .null, .null, .int 0, .null, .null, .null])) :: (q2, .inl (gC g 7, 5, .inr (.inr (.inr (.inr (fun _ => none)))))) :: (([] ++ wsLw g (L_X0 ((b + 5))) ad1) ++ wsLw g (L_X4 b) ad3)) := hD2
  have hS := hS2
  clear hP2 hD2 hS2
  subst hh2
  refine W.widen (k := 178) (n := 907) (by decide) (by decide) ?_
  refine va_putF (D := gD g) (ci := 5) (v := .ref (ad3 26 b 0)) (ty := (.object "WatchStack$Records")) (C := RX5) (T := TX5) (N := 16) hx hb hts inUX5 tyX5 tyX5_ok nmX5 hown hK hP hD hS 0 rfl rfl 2 (by decide) (hts _ u_333) (fun _ h9 => h9) rfl hnm rfl (by decide +kernel) rfl rfl (Nat.le_of_ble_eq_true rfl) dX5_init_31 (fun H locs hP2 hD2 hS2 => ?_)
  clear hP hD hS
  have hP : va_P (gD g) vwCl ((h0, .inr (5, [.ref (ad1 0 ((b + 5)) 0), .ref q2, .ref (ad3 26 b 0), .int 0, .int 0, .int 0, .int 0, .int 0, .int 0, .null, .null, .null, .int 0, .null, .null, .null])) :: (q2, .inl (gC g 7, 5, .inr (.inr (.inr (.inr (fun _ => none)))))) :: (([] ++ wsLw g (L_X0 ((b + 5))) ad1) ++ wsLw g (L_X4 b) ad3)) H := hP2
  have hD : va_D A ((h0, .inr (5, [.ref (ad1 0 ((b + 5)) 0), .ref q2, .ref (ad3 26 b 0), .int 0, .int 0, .int 0, .int 0, .int 0, .int 0, .null, .null, .null, .int 0, .null, .null, .null])) :: (q2, .inl (gC g 7, 5, .inr (.inr (.inr (.inr (fun _ => none)))))) :: (([] ++ wsLw g (L_X0 ((b + 5))) ad1) ++ wsLw g (L_X4 b) ad3)) := hD2
  have hS := hS2
  clear hP2 hD2 hS2
  refine lv_aload_n hx hb dX5_init_34 rfl (lv_at hl 0 rfl) ?_
  refine lv_iconst (v := (-1)) hx hb dX5_init_35 (by decide) ?_
  refine va_put (D := gD g) (ci := 5) (v := .int (-1)) (ty := .int) (C := RX5) (T := TX5) (N := 16) hx hb hts inUX5 tyX5 tyX5_ok nmX5 hown hK hP hD hS 0 rfl rfl 3 (by decide) (hts _ u_335) (fun _ h9 => h9) rfl (by decide +kernel) rfl rfl (Nat.le_of_ble_eq_true rfl) dX5_init_36 (fun H locs hP2 hD2 hS2 => ?_)
  clear hP hD hS
  have hP : va_P (gD g) vwCl ((h0, .inr (5, [.ref (ad1 0 ((b + 5)) 0), .ref q2, .ref (ad3 26 b 0), .int (-1), .int 0, .int 0, .int 0, .int 0, .int 0, .null, .null, .null, .int 0, .null, .null, .null])) :: (q2, .inl (gC g 7, 5, .inr (.inr (.inr (.inr (fun _ => none)))))) :: (([] ++ wsLw g (L_X0 ((b + 5))) ad1) ++ wsLw g (L_X4 b) ad3)) H := hP2
  have hD : va_D A ((h0, .inr (5, [.ref (ad1 0 ((b + 5)) 0), .ref q2, .ref (ad3 26 b 0), .int (-1), .int 0, .int 0, .int 0, .int 0, .int 0, .null, .null, .null, .int 0, .null, .null, .null])) :: (q2, .inl (gC g 7, 5, .inr (.inr (.inr (.inr (fun _ => none)))))) :: (([] ++ wsLw g (L_X0 ((b + 5))) ad1) ++ wsLw g (L_X4 b) ad3)) := hD2
  have hS := hS2
  clear hP2 hD2 hS2
  refine lv_aload_n hx hb dX5_init_39 rfl (lv_at hl 0 rfl) ?_
  refine lv_iconst (v := (-1)) hx hb dX5_init_40 (by decide) ?_
  refine va_put (D := gD g) (ci := 5) (v := .int (-1)) (ty := .int) (C := RX5) (T := TX5) (N := 16) hx hb hts inUX5 tyX5 tyX5_ok nmX5 hown hK hP hD hS 0 rfl rfl 5 (by decide) (hts _ u_339) (fun _ h9 => h9) rfl (by decide +kernel) rfl rfl (Nat.le_of_ble_eq_true rfl) dX5_init_41 (fun H locs hP2 hD2 hS2 => ?_)
  clear hP hD hS
  have hP : va_P (gD g) vwCl ((h0, .inr (5, [.ref (ad1 0 ((b + 5)) 0), .ref q2, .ref (ad3 26 b 0), .int (-1), .int 0, .int (-1), .int 0, .int 0, .int 0, .null, .null, .null, .int 0, .null, .null, .null])) :: (q2, .inl (gC g 7, 5, .inr (.inr (.inr (.inr (fun _ => none)))))) :: (([] ++ wsLw g (L_X0 ((b + 5))) ad1) ++ wsLw g (L_X4 b) ad3)) H := hP2
  have hD : va_D A ((h0, .inr (5, [.ref (ad1 0 ((b + 5)) 0), .ref q2, .ref (ad3 26 b 0), .int (-1), .int 0, .int (-1), .int 0, .int 0, .int 0, .null, .null, .null, .int 0, .null, .null, .null])) :: (q2, .inl (gC g 7, 5, .inr (.inr (.inr (.inr (fun _ => none)))))) :: (([] ++ wsLw g (L_X0 ((b + 5))) ad1) ++ wsLw g (L_X4 b) ad3)) := hD2
  have hS := hS2
  clear hP2 hD2 hS2
  refine lv_aload_n hx hb dX5_init_44 rfl (lv_at hl 0 rfl) ?_
  refine lv_iconst (v := 5) hx hb dX5_init_45 (by decide) ?_
  refine lv_bipush (v := 51) hx hb dX5_init_46 (by decide) ?_
  refine n_mna (N := 5) (K := 51) hx hb hown hts hK hCN hA hP hD hS dX5_init_48 u_286 u_173 (by decide) (by decide) (by decide) (by decide) (by decide) (by decide) (by rw [hR]; exact Nat.le_of_ble_eq_true rfl) (by rw [hR]; exact Nat.le_of_ble_eq_true rfl) (fun q4 r4 H hP2 hD2 hS2 => ?_)
  clear hP hD hS
  have hP : va_P (gD g) vwCl ((h0, .inr (5, [.ref (ad1 0 ((b + 5)) 0), .ref q2, .ref (ad3 26 b 0), .int (-1), .int 0, .int (-1), .int 0, .int 0, .int 0, .null, .null, .null, .int 0, .null, .null, .null])) :: (q2, .inl (gC g 7, 5, .inr (.inr (.inr (.inr (fun _ => none)))))) :: ((([] ++ wsLw g (L_X0 ((b + 5))) ad1) ++ wsLw g (L_X4 b) ad3) ++ ((q4, .inl (gC g 5, 5, .inr (.inr (.inr (.inr (fun i => some (r4 i))))))) :: (List.range 5).map (fun i => (r4 i, .inl (gC g 0, 51, .inl (fun _ => 0))))))) H := hP2
  have hD : va_D A ((h0, .inr (5, [.ref (ad1 0 ((b + 5)) 0), .ref q2, .ref (ad3 26 b 0), .int (-1), .int 0, .int (-1), .int 0, .int 0, .int 0, .null, .null, .null, .int 0, .null, .null, .null])) :: (q2, .inl (gC g 7, 5, .inr (.inr (.inr (.inr (fun _ => none)))))) :: ((([] ++ wsLw g (L_X0 ((b + 5))) ad1) ++ wsLw g (L_X4 b) ad3) ++ ((q4, .inl (gC g 5, 5, .inr (.inr (.inr (.inr (fun i => some (r4 i))))))) :: (List.range 5).map (fun i => (r4 i, .inl (gC g 0, 51, .inl (fun _ => 0))))))) := hD2
  have hS := hS2
  clear hP2 hD2 hS2
  refine W.widen (k := 184) (n := 1167) (by decide) (by decide) ?_
  refine va_putF (D := gD g) (ci := 5) (v := .ref q4) (ty := (.array (.array .int))) (C := RX5) (T := TX5) (N := 16) hx hb hts inUX5 tyX5 tyX5_ok nmX5 hown hK hP hD hS 0 rfl rfl 9 (by decide) (hts _ u_344) (fun _ h9 => h9) rfl hnm rfl (by decide +kernel) rfl rfl (Nat.le_of_ble_eq_true rfl) dX5_init_52 (fun H locs hP2 hD2 hS2 => ?_)
  clear hP hD hS
  have hP : va_P (gD g) vwCl ((h0, .inr (5, [.ref (ad1 0 ((b + 5)) 0), .ref q2, .ref (ad3 26 b 0), .int (-1), .int 0, .int (-1), .int 0, .int 0, .int 0, .ref q4, .null, .null, .int 0, .null, .null, .null])) :: (q2, .inl (gC g 7, 5, .inr (.inr (.inr (.inr (fun _ => none)))))) :: ((([] ++ wsLw g (L_X0 ((b + 5))) ad1) ++ wsLw g (L_X4 b) ad3) ++ ((q4, .inl (gC g 5, 5, .inr (.inr (.inr (.inr (fun i => some (r4 i))))))) :: (List.range 5).map (fun i => (r4 i, .inl (gC g 0, 51, .inl (fun _ => 0))))))) H := hP2
  have hD : va_D A ((h0, .inr (5, [.ref (ad1 0 ((b + 5)) 0), .ref q2, .ref (ad3 26 b 0), .int (-1), .int 0, .int (-1), .int 0, .int 0, .int 0, .ref q4, .null, .null, .int 0, .null, .null, .null])) :: (q2, .inl (gC g 7, 5, .inr (.inr (.inr (.inr (fun _ => none)))))) :: ((([] ++ wsLw g (L_X0 ((b + 5))) ad1) ++ wsLw g (L_X4 b) ad3) ++ ((q4, .inl (gC g 5, 5, .inr (.inr (.inr (.inr (fun i => some (r4 i))))))) :: (List.range 5).map (fun i => (r4 i, .inl (gC g 0, 51, .inl (fun _ => 0))))))) := hD2
  have hS := hS2
  clear hP2 hD2 hS2
  refine lv_aload_n hx hb dX5_init_55 rfl (lv_at hl 0 rfl) ?_
  refine lv_sipush (v := 200) hx hb dX5_init_56 (by decide) ?_
  refine va_newa (atype := .int) (ty := .int) (a0 := (200, .inl (fun _ => 0))) (N' := 200) hx hb (hts _ u_173) rfl hK hP hD hS hA (fun cA => rfl) (by decide) (by decide) (by decide) (by rw [hR]; exact Nat.le_of_ble_eq_true rfl) (by rw [hR]; exact Nat.le_of_ble_eq_true rfl) dX5_init_59 (fun q5 cA H hK1 hP2 hD2 hS2 => ?_)
  obtain rfl := ca_0 hK hK1
  clear hK1
  clear hP hD hS
  have hP : va_P (gD g) vwCl ((h0, .inr (5, [.ref (ad1 0 ((b + 5)) 0), .ref q2, .ref (ad3 26 b 0), .int (-1), .int 0, .int (-1), .int 0, .int 0, .int 0, .ref q4, .null, .null, .int 0, .null, .null, .null])) :: (q2, .inl (gC g 7, 5, .inr (.inr (.inr (.inr (fun _ => none)))))) :: (((([] ++ wsLw g (L_X0 ((b + 5))) ad1) ++ wsLw g (L_X4 b) ad3) ++ ((q4, .inl (gC g 5, 5, .inr (.inr (.inr (.inr (fun i => some (r4 i))))))) :: (List.range 5).map (fun i => (r4 i, .inl (gC g 0, 51, .inl (fun _ => 0)))))) ++ [(q5, .inl (gC g 0, 200, .inl (fun _ => 0)))])) H := hP2
  have hD : va_D A ((h0, .inr (5, [.ref (ad1 0 ((b + 5)) 0), .ref q2, .ref (ad3 26 b 0), .int (-1), .int 0, .int (-1), .int 0, .int 0, .int 0, .ref q4, .null, .null, .int 0, .null, .null, .null])) :: (q2, .inl (gC g 7, 5, .inr (.inr (.inr (.inr (fun _ => none)))))) :: (((([] ++ wsLw g (L_X0 ((b + 5))) ad1) ++ wsLw g (L_X4 b) ad3) ++ ((q4, .inl (gC g 5, 5, .inr (.inr (.inr (.inr (fun i => some (r4 i))))))) :: (List.range 5).map (fun i => (r4 i, .inl (gC g 0, 51, .inl (fun _ => 0)))))) ++ [(q5, .inl (gC g 0, 200, .inl (fun _ => 0)))])) := hD2
  have hS := hS2
  clear hP2 hD2 hS2
  refine W.widen (k := 185) (n := 1367) (by decide) (by decide) ?_
  refine va_putF (D := gD g) (ci := 5) (v := .ref q5) (ty := (.array .int)) (C := RX5) (T := TX5) (N := 16) hx hb hts inUX5 tyX5 tyX5_ok nmX5 hown hK hP hD hS 0 rfl rfl 10 (by decide) (hts _ u_345) (fun _ h9 => h9) rfl hnm rfl (by decide +kernel) rfl rfl (Nat.le_of_ble_eq_true rfl) dX5_init_61 (fun H locs hP2 hD2 hS2 => ?_)
  clear hP hD hS
  have hP : va_P (gD g) vwCl ((h0, .inr (5, [.ref (ad1 0 ((b + 5)) 0), .ref q2, .ref (ad3 26 b 0), .int (-1), .int 0, .int (-1), .int 0, .int 0, .int 0, .ref q4, .ref q5, .null, .int 0, .null, .null, .null])) :: (q2, .inl (gC g 7, 5, .inr (.inr (.inr (.inr (fun _ => none)))))) :: (((([] ++ wsLw g (L_X0 ((b + 5))) ad1) ++ wsLw g (L_X4 b) ad3) ++ ((q4, .inl (gC g 5, 5, .inr (.inr (.inr (.inr (fun i => some (r4 i))))))) :: (List.range 5).map (fun i => (r4 i, .inl (gC g 0, 51, .inl (fun _ => 0)))))) ++ [(q5, .inl (gC g 0, 200, .inl (fun _ => 0)))])) H := hP2
  have hD : va_D A ((h0, .inr (5, [.ref (ad1 0 ((b + 5)) 0), .ref q2, .ref (ad3 26 b 0), .int (-1), .int 0, .int (-1), .int 0, .int 0, .int 0, .ref q4, .ref q5, .null, .int 0, .null, .null, .null])) :: (q2, .inl (gC g 7, 5, .inr (.inr (.inr (.inr (fun _ => none)))))) :: (((([] ++ wsLw g (L_X0 ((b + 5))) ad1) ++ wsLw g (L_X4 b) ad3) ++ ((q4, .inl (gC g 5, 5, .inr (.inr (.inr (.inr (fun i => some (r4 i))))))) :: (List.range 5).map (fun i => (r4 i, .inl (gC g 0, 51, .inl (fun _ => 0)))))) ++ [(q5, .inl (gC g 0, 200, .inl (fun _ => 0)))])) := hD2
  have hS := hS2
  clear hP2 hD2 hS2
  refine lv_aload_n hx hb dX5_init_64 rfl (lv_at hl 0 rfl) ?_
  refine lv_sipush (v := 200) hx hb dX5_init_65 (by decide) ?_
  refine va_newa (atype := .int) (ty := .int) (a0 := (200, .inl (fun _ => 0))) (N' := 200) hx hb (hts _ u_173) rfl hK hP hD hS hA (fun cA => rfl) (by decide) (by decide) (by decide) (by rw [hR]; exact Nat.le_of_ble_eq_true rfl) (by rw [hR]; exact Nat.le_of_ble_eq_true rfl) dX5_init_68 (fun q6 cA H hK1 hP2 hD2 hS2 => ?_)
  obtain rfl := ca_0 hK hK1
  clear hK1
  clear hP hD hS
  have hP : va_P (gD g) vwCl ((h0, .inr (5, [.ref (ad1 0 ((b + 5)) 0), .ref q2, .ref (ad3 26 b 0), .int (-1), .int 0, .int (-1), .int 0, .int 0, .int 0, .ref q4, .ref q5, .null, .int 0, .null, .null, .null])) :: (q2, .inl (gC g 7, 5, .inr (.inr (.inr (.inr (fun _ => none)))))) :: ((((([] ++ wsLw g (L_X0 ((b + 5))) ad1) ++ wsLw g (L_X4 b) ad3) ++ ((q4, .inl (gC g 5, 5, .inr (.inr (.inr (.inr (fun i => some (r4 i))))))) :: (List.range 5).map (fun i => (r4 i, .inl (gC g 0, 51, .inl (fun _ => 0)))))) ++ [(q5, .inl (gC g 0, 200, .inl (fun _ => 0)))]) ++ [(q6, .inl (gC g 0, 200, .inl (fun _ => 0)))])) H := hP2
  have hD : va_D A ((h0, .inr (5, [.ref (ad1 0 ((b + 5)) 0), .ref q2, .ref (ad3 26 b 0), .int (-1), .int 0, .int (-1), .int 0, .int 0, .int 0, .ref q4, .ref q5, .null, .int 0, .null, .null, .null])) :: (q2, .inl (gC g 7, 5, .inr (.inr (.inr (.inr (fun _ => none)))))) :: ((((([] ++ wsLw g (L_X0 ((b + 5))) ad1) ++ wsLw g (L_X4 b) ad3) ++ ((q4, .inl (gC g 5, 5, .inr (.inr (.inr (.inr (fun i => some (r4 i))))))) :: (List.range 5).map (fun i => (r4 i, .inl (gC g 0, 51, .inl (fun _ => 0)))))) ++ [(q5, .inl (gC g 0, 200, .inl (fun _ => 0)))]) ++ [(q6, .inl (gC g 0, 200, .inl (fun _ => 0)))])) := hD2
  have hS := hS2
  clear hP2 hD2 hS2
  refine W.widen (k := 186) (n := 1567) (by decide) (by decide) ?_
  refine va_putF (D := gD g) (ci := 5) (v := .ref q6) (ty := (.array .int)) (C := RX5) (T := TX5) (N := 16) hx hb hts inUX5 tyX5 tyX5_ok nmX5 hown hK hP hD hS 0 rfl rfl 11 (by decide) (hts _ u_346) (fun _ h9 => h9) rfl hnm rfl (by decide +kernel) rfl rfl (Nat.le_of_ble_eq_true rfl) dX5_init_70 (fun H locs hP2 hD2 hS2 => ?_)
  clear hP hD hS
  have hP : va_P (gD g) vwCl ((h0, .inr (5, [.ref (ad1 0 ((b + 5)) 0), .ref q2, .ref (ad3 26 b 0), .int (-1), .int 0, .int (-1), .int 0, .int 0, .int 0, .ref q4, .ref q5, .ref q6, .int 0, .null, .null, .null])) :: (q2, .inl (gC g 7, 5, .inr (.inr (.inr (.inr (fun _ => none)))))) :: ((((([] ++ wsLw g (L_X0 ((b + 5))) ad1) ++ wsLw g (L_X4 b) ad3) ++ ((q4, .inl (gC g 5, 5, .inr (.inr (.inr (.inr (fun i => some (r4 i))))))) :: (List.range 5).map (fun i => (r4 i, .inl (gC g 0, 51, .inl (fun _ => 0)))))) ++ [(q5, .inl (gC g 0, 200, .inl (fun _ => 0)))]) ++ [(q6, .inl (gC g 0, 200, .inl (fun _ => 0)))])) H := hP2
  have hD : va_D A ((h0, .inr (5, [.ref (ad1 0 ((b + 5)) 0), .ref q2, .ref (ad3 26 b 0), .int (-1), .int 0, .int (-1), .int 0, .int 0, .int 0, .ref q4, .ref q5, .ref q6, .int 0, .null, .null, .null])) :: (q2, .inl (gC g 7, 5, .inr (.inr (.inr (.inr (fun _ => none)))))) :: ((((([] ++ wsLw g (L_X0 ((b + 5))) ad1) ++ wsLw g (L_X4 b) ad3) ++ ((q4, .inl (gC g 5, 5, .inr (.inr (.inr (.inr (fun i => some (r4 i))))))) :: (List.range 5).map (fun i => (r4 i, .inl (gC g 0, 51, .inl (fun _ => 0)))))) ++ [(q5, .inl (gC g 0, 200, .inl (fun _ => 0)))]) ++ [(q6, .inl (gC g 0, 200, .inl (fun _ => 0)))])) := hD2
  have hS := hS2
  clear hP2 hD2 hS2
  refine lv_aload_n hx hb dX5_init_73 rfl (lv_at hl 0 rfl) ?_
  refine lv_iconst (v := 3) hx hb dX5_init_74 (by decide) ?_
  refine va_newa (atype := .int) (ty := .int) (a0 := (3, .inl (fun _ => 0))) (N' := 3) hx hb (hts _ u_173) rfl hK hP hD hS hA (fun cA => rfl) (by decide) (by decide) (by decide) (by rw [hR]; exact Nat.le_of_ble_eq_true rfl) (by rw [hR]; exact Nat.le_of_ble_eq_true rfl) dX5_init_75 (fun q7 cA H hK1 hP2 hD2 hS2 => ?_)
  obtain rfl := ca_0 hK hK1
  clear hK1
  clear hP hD hS
  have hP : va_P (gD g) vwCl ((h0, .inr (5, [.ref (ad1 0 ((b + 5)) 0), .ref q2, .ref (ad3 26 b 0), .int (-1), .int 0, .int (-1), .int 0, .int 0, .int 0, .ref q4, .ref q5, .ref q6, .int 0, .null, .null, .null])) :: (q2, .inl (gC g 7, 5, .inr (.inr (.inr (.inr (fun _ => none)))))) :: (((((([] ++ wsLw g (L_X0 ((b + 5))) ad1) ++ wsLw g (L_X4 b) ad3) ++ ((q4, .inl (gC g 5, 5, .inr (.inr (.inr (.inr (fun i => some (r4 i))))))) :: (List.range 5).map (fun i => (r4 i, .inl (gC g 0, 51, .inl (fun _ => 0)))))) ++ [(q5, .inl (gC g 0, 200, .inl (fun _ => 0)))]) ++ [(q6, .inl (gC g 0, 200, .inl (fun _ => 0)))]) ++ [(q7, .inl (gC g 0, 3, .inl (fun _ => 0)))])) H := hP2
  have hD : va_D A ((h0, .inr (5, [.ref (ad1 0 ((b + 5)) 0), .ref q2, .ref (ad3 26 b 0), .int (-1), .int 0, .int (-1), .int 0, .int 0, .int 0, .ref q4, .ref q5, .ref q6, .int 0, .null, .null, .null])) :: (q2, .inl (gC g 7, 5, .inr (.inr (.inr (.inr (fun _ => none)))))) :: (((((([] ++ wsLw g (L_X0 ((b + 5))) ad1) ++ wsLw g (L_X4 b) ad3) ++ ((q4, .inl (gC g 5, 5, .inr (.inr (.inr (.inr (fun i => some (r4 i))))))) :: (List.range 5).map (fun i => (r4 i, .inl (gC g 0, 51, .inl (fun _ => 0)))))) ++ [(q5, .inl (gC g 0, 200, .inl (fun _ => 0)))]) ++ [(q6, .inl (gC g 0, 200, .inl (fun _ => 0)))]) ++ [(q7, .inl (gC g 0, 3, .inl (fun _ => 0)))])) := hD2
  have hS := hS2
  clear hP2 hD2 hS2
  refine W.widen (k := 187) (n := 1570) (by decide) (by decide) ?_
  refine va_putF (D := gD g) (ci := 5) (v := .ref q7) (ty := (.array .int)) (C := RX5) (T := TX5) (N := 16) hx hb hts inUX5 tyX5 tyX5_ok nmX5 hown hK hP hD hS 0 rfl rfl 13 (by decide) (hts _ u_348) (fun _ h9 => h9) rfl hnm rfl (by decide +kernel) rfl rfl (Nat.le_of_ble_eq_true rfl) dX5_init_77 (fun H locs hP2 hD2 hS2 => ?_)
  clear hP hD hS
  have hP : va_P (gD g) vwCl ((h0, .inr (5, [.ref (ad1 0 ((b + 5)) 0), .ref q2, .ref (ad3 26 b 0), .int (-1), .int 0, .int (-1), .int 0, .int 0, .int 0, .ref q4, .ref q5, .ref q6, .int 0, .ref q7, .null, .null])) :: (q2, .inl (gC g 7, 5, .inr (.inr (.inr (.inr (fun _ => none)))))) :: (((((([] ++ wsLw g (L_X0 ((b + 5))) ad1) ++ wsLw g (L_X4 b) ad3) ++ ((q4, .inl (gC g 5, 5, .inr (.inr (.inr (.inr (fun i => some (r4 i))))))) :: (List.range 5).map (fun i => (r4 i, .inl (gC g 0, 51, .inl (fun _ => 0)))))) ++ [(q5, .inl (gC g 0, 200, .inl (fun _ => 0)))]) ++ [(q6, .inl (gC g 0, 200, .inl (fun _ => 0)))]) ++ [(q7, .inl (gC g 0, 3, .inl (fun _ => 0)))])) H := hP2
  have hD : va_D A ((h0, .inr (5, [.ref (ad1 0 ((b + 5)) 0), .ref q2, .ref (ad3 26 b 0), .int (-1), .int 0, .int (-1), .int 0, .int 0, .int 0, .ref q4, .ref q5, .ref q6, .int 0, .ref q7, .null, .null])) :: (q2, .inl (gC g 7, 5, .inr (.inr (.inr (.inr (fun _ => none)))))) :: (((((([] ++ wsLw g (L_X0 ((b + 5))) ad1) ++ wsLw g (L_X4 b) ad3) ++ ((q4, .inl (gC g 5, 5, .inr (.inr (.inr (.inr (fun i => some (r4 i))))))) :: (List.range 5).map (fun i => (r4 i, .inl (gC g 0, 51, .inl (fun _ => 0)))))) ++ [(q5, .inl (gC g 0, 200, .inl (fun _ => 0)))]) ++ [(q6, .inl (gC g 0, 200, .inl (fun _ => 0)))]) ++ [(q7, .inl (gC g 0, 3, .inl (fun _ => 0)))])) := hD2
  have hS := hS2
  clear hP2 hD2 hS2
  refine lv_aload_n hx hb dX5_init_80 rfl (lv_at hl 0 rfl) ?_
  refine lv_iconst (v := 3) hx hb dX5_init_81 (by decide) ?_
  refine va_newa (atype := .boolean) (ty := .boolean) (a0 := (3, .inl (fun _ => 0))) (N' := 3) hx hb (hts _ u_257) rfl hK hP hD hS hA (fun cA => rfl) (by decide) (by decide) (by decide) (by rw [hR]; exact Nat.le_of_ble_eq_true rfl) (by rw [hR]; exact Nat.le_of_ble_eq_true rfl) dX5_init_82 (fun q8 cA H hK1 hP2 hD2 hS2 => ?_)
  obtain rfl := ca_1 hK hK1
  clear hK1
  clear hP hD hS
  have hP : va_P (gD g) vwCl ((h0, .inr (5, [.ref (ad1 0 ((b + 5)) 0), .ref q2, .ref (ad3 26 b 0), .int (-1), .int 0, .int (-1), .int 0, .int 0, .int 0, .ref q4, .ref q5, .ref q6, .int 0, .ref q7, .null, .null])) :: (q2, .inl (gC g 7, 5, .inr (.inr (.inr (.inr (fun _ => none)))))) :: ((((((([] ++ wsLw g (L_X0 ((b + 5))) ad1) ++ wsLw g (L_X4 b) ad3) ++ ((q4, .inl (gC g 5, 5, .inr (.inr (.inr (.inr (fun i => some (r4 i))))))) :: (List.range 5).map (fun i => (r4 i, .inl (gC g 0, 51, .inl (fun _ => 0)))))) ++ [(q5, .inl (gC g 0, 200, .inl (fun _ => 0)))]) ++ [(q6, .inl (gC g 0, 200, .inl (fun _ => 0)))]) ++ [(q7, .inl (gC g 0, 3, .inl (fun _ => 0)))]) ++ [(q8, .inl (gC g 1, 3, .inl (fun _ => 0)))])) H := hP2
  have hD : va_D A ((h0, .inr (5, [.ref (ad1 0 ((b + 5)) 0), .ref q2, .ref (ad3 26 b 0), .int (-1), .int 0, .int (-1), .int 0, .int 0, .int 0, .ref q4, .ref q5, .ref q6, .int 0, .ref q7, .null, .null])) :: (q2, .inl (gC g 7, 5, .inr (.inr (.inr (.inr (fun _ => none)))))) :: ((((((([] ++ wsLw g (L_X0 ((b + 5))) ad1) ++ wsLw g (L_X4 b) ad3) ++ ((q4, .inl (gC g 5, 5, .inr (.inr (.inr (.inr (fun i => some (r4 i))))))) :: (List.range 5).map (fun i => (r4 i, .inl (gC g 0, 51, .inl (fun _ => 0)))))) ++ [(q5, .inl (gC g 0, 200, .inl (fun _ => 0)))]) ++ [(q6, .inl (gC g 0, 200, .inl (fun _ => 0)))]) ++ [(q7, .inl (gC g 0, 3, .inl (fun _ => 0)))]) ++ [(q8, .inl (gC g 1, 3, .inl (fun _ => 0)))])) := hD2
  have hS := hS2
  clear hP2 hD2 hS2
  refine W.widen (k := 188) (n := 1573) (by decide) (by decide) ?_
  refine va_putF (D := gD g) (ci := 5) (v := .ref q8) (ty := (.array .boolean)) (C := RX5) (T := TX5) (N := 16) hx hb hts inUX5 tyX5 tyX5_ok nmX5 hown hK hP hD hS 0 rfl rfl 14 (by decide) (hts _ u_349) (fun _ h9 => h9) rfl hnm rfl (by decide +kernel) rfl rfl (Nat.le_of_ble_eq_true rfl) dX5_init_84 (fun H locs hP2 hD2 hS2 => ?_)
  clear hP hD hS
  have hP : va_P (gD g) vwCl ((h0, .inr (5, [.ref (ad1 0 ((b + 5)) 0), .ref q2, .ref (ad3 26 b 0), .int (-1), .int 0, .int (-1), .int 0, .int 0, .int 0, .ref q4, .ref q5, .ref q6, .int 0, .ref q7, .ref q8, .null])) :: (q2, .inl (gC g 7, 5, .inr (.inr (.inr (.inr (fun _ => none)))))) :: ((((((([] ++ wsLw g (L_X0 ((b + 5))) ad1) ++ wsLw g (L_X4 b) ad3) ++ ((q4, .inl (gC g 5, 5, .inr (.inr (.inr (.inr (fun i => some (r4 i))))))) :: (List.range 5).map (fun i => (r4 i, .inl (gC g 0, 51, .inl (fun _ => 0)))))) ++ [(q5, .inl (gC g 0, 200, .inl (fun _ => 0)))]) ++ [(q6, .inl (gC g 0, 200, .inl (fun _ => 0)))]) ++ [(q7, .inl (gC g 0, 3, .inl (fun _ => 0)))]) ++ [(q8, .inl (gC g 1, 3, .inl (fun _ => 0)))])) H := hP2
  have hD : va_D A ((h0, .inr (5, [.ref (ad1 0 ((b + 5)) 0), .ref q2, .ref (ad3 26 b 0), .int (-1), .int 0, .int (-1), .int 0, .int 0, .int 0, .ref q4, .ref q5, .ref q6, .int 0, .ref q7, .ref q8, .null])) :: (q2, .inl (gC g 7, 5, .inr (.inr (.inr (.inr (fun _ => none)))))) :: ((((((([] ++ wsLw g (L_X0 ((b + 5))) ad1) ++ wsLw g (L_X4 b) ad3) ++ ((q4, .inl (gC g 5, 5, .inr (.inr (.inr (.inr (fun i => some (r4 i))))))) :: (List.range 5).map (fun i => (r4 i, .inl (gC g 0, 51, .inl (fun _ => 0)))))) ++ [(q5, .inl (gC g 0, 200, .inl (fun _ => 0)))]) ++ [(q6, .inl (gC g 0, 200, .inl (fun _ => 0)))]) ++ [(q7, .inl (gC g 0, 3, .inl (fun _ => 0)))]) ++ [(q8, .inl (gC g 1, 3, .inl (fun _ => 0)))])) := hD2
  have hS := hS2
  clear hP2 hD2 hS2
  refine lv_aload_n hx hb dX5_init_87 rfl (lv_at hl 0 rfl) ?_
  refine lv_iconst (v := 3) hx hb dX5_init_88 (by decide) ?_
  refine va_newa (atype := .boolean) (ty := .boolean) (a0 := (3, .inl (fun _ => 0))) (N' := 3) hx hb (hts _ u_257) rfl hK hP hD hS hA (fun cA => rfl) (by decide) (by decide) (by decide) (by rw [hR]; exact Nat.le_of_ble_eq_true rfl) (by rw [hR]; exact Nat.le_of_ble_eq_true rfl) dX5_init_89 (fun q9 cA H hK1 hP2 hD2 hS2 => ?_)
  obtain rfl := ca_1 hK hK1
  clear hK1
  clear hP hD hS
  have hP : va_P (gD g) vwCl ((h0, .inr (5, [.ref (ad1 0 ((b + 5)) 0), .ref q2, .ref (ad3 26 b 0), .int (-1), .int 0, .int (-1), .int 0, .int 0, .int 0, .ref q4, .ref q5, .ref q6, .int 0, .ref q7, .ref q8, .null])) :: (q2, .inl (gC g 7, 5, .inr (.inr (.inr (.inr (fun _ => none)))))) :: (((((((([] ++ wsLw g (L_X0 ((b + 5))) ad1) ++ wsLw g (L_X4 b) ad3) ++ ((q4, .inl (gC g 5, 5, .inr (.inr (.inr (.inr (fun i => some (r4 i))))))) :: (List.range 5).map (fun i => (r4 i, .inl (gC g 0, 51, .inl (fun _ => 0)))))) ++ [(q5, .inl (gC g 0, 200, .inl (fun _ => 0)))]) ++ [(q6, .inl (gC g 0, 200, .inl (fun _ => 0)))]) ++ [(q7, .inl (gC g 0, 3, .inl (fun _ => 0)))]) ++ [(q8, .inl (gC g 1, 3, .inl (fun _ => 0)))]) ++ [(q9, .inl (gC g 1, 3, .inl (fun _ => 0)))])) H := hP2
  have hD : va_D A ((h0, .inr (5, [.ref (ad1 0 ((b + 5)) 0), .ref q2, .ref (ad3 26 b 0), .int (-1), .int 0, .int (-1), .int 0, .int 0, .int 0, .ref q4, .ref q5, .ref q6, .int 0, .ref q7, .ref q8, .null])) :: (q2, .inl (gC g 7, 5, .inr (.inr (.inr (.inr (fun _ => none)))))) :: (((((((([] ++ wsLw g (L_X0 ((b + 5))) ad1) ++ wsLw g (L_X4 b) ad3) ++ ((q4, .inl (gC g 5, 5, .inr (.inr (.inr (.inr (fun i => some (r4 i))))))) :: (List.range 5).map (fun i => (r4 i, .inl (gC g 0, 51, .inl (fun _ => 0)))))) ++ [(q5, .inl (gC g 0, 200, .inl (fun _ => 0)))]) ++ [(q6, .inl (gC g 0, 200, .inl (fun _ => 0)))]) ++ [(q7, .inl (gC g 0, 3, .inl (fun _ => 0)))]) ++ [(q8, .inl (gC g 1, 3, .inl (fun _ => 0)))]) ++ [(q9, .inl (gC g 1, 3, .inl (fun _ => 0)))])) := hD2
  have hS := hS2
  clear hP2 hD2 hS2
  refine W.widen (k := 189) (n := 1576) (by decide) (by decide) ?_
  refine va_putF (D := gD g) (ci := 5) (v := .ref q9) (ty := (.array .boolean)) (C := RX5) (T := TX5) (N := 16) hx hb hts inUX5 tyX5 tyX5_ok nmX5 hown hK hP hD hS 0 rfl rfl 15 (by decide) (hts _ u_350) (fun _ h9 => h9) rfl hnm rfl (by decide +kernel) rfl rfl (Nat.le_of_ble_eq_true rfl) dX5_init_91 (fun H locs hP2 hD2 hS2 => ?_)
  clear hP hD hS
  have hP : va_P (gD g) vwCl ((h0, .inr (5, [.ref (ad1 0 ((b + 5)) 0), .ref q2, .ref (ad3 26 b 0), .int (-1), .int 0, .int (-1), .int 0, .int 0, .int 0, .ref q4, .ref q5, .ref q6, .int 0, .ref q7, .ref q8, .ref q9])) :: (q2, .inl (gC g 7, 5, .inr (.inr (.inr (.inr (fun _ => none)))))) :: (((((((([] ++ wsLw g (L_X0 ((b + 5))) ad1) ++ wsLw g (L_X4 b) ad3) ++ ((q4, .inl (gC g 5, 5, .inr (.inr (.inr (.inr (fun i => some (r4 i))))))) :: (List.range 5).map (fun i => (r4 i, .inl (gC g 0, 51, .inl (fun _ => 0)))))) ++ [(q5, .inl (gC g 0, 200, .inl (fun _ => 0)))]) ++ [(q6, .inl (gC g 0, 200, .inl (fun _ => 0)))]) ++ [(q7, .inl (gC g 0, 3, .inl (fun _ => 0)))]) ++ [(q8, .inl (gC g 1, 3, .inl (fun _ => 0)))]) ++ [(q9, .inl (gC g 1, 3, .inl (fun _ => 0)))])) H := hP2
  have hD : va_D A ((h0, .inr (5, [.ref (ad1 0 ((b + 5)) 0), .ref q2, .ref (ad3 26 b 0), .int (-1), .int 0, .int (-1), .int 0, .int 0, .int 0, .ref q4, .ref q5, .ref q6, .int 0, .ref q7, .ref q8, .ref q9])) :: (q2, .inl (gC g 7, 5, .inr (.inr (.inr (.inr (fun _ => none)))))) :: (((((((([] ++ wsLw g (L_X0 ((b + 5))) ad1) ++ wsLw g (L_X4 b) ad3) ++ ((q4, .inl (gC g 5, 5, .inr (.inr (.inr (.inr (fun i => some (r4 i))))))) :: (List.range 5).map (fun i => (r4 i, .inl (gC g 0, 51, .inl (fun _ => 0)))))) ++ [(q5, .inl (gC g 0, 200, .inl (fun _ => 0)))]) ++ [(q6, .inl (gC g 0, 200, .inl (fun _ => 0)))]) ++ [(q7, .inl (gC g 0, 3, .inl (fun _ => 0)))]) ++ [(q8, .inl (gC g 1, 3, .inl (fun _ => 0)))]) ++ [(q9, .inl (gC g 1, 3, .inl (fun _ => 0)))])) := hD2
  have hS := hS2
  clear hP2 hD2 hS2
  refine lv_iconst (v := 0) hx hb dX5_init_94 (by decide) ?_
  refine lv_istore_n (x := 0) (lv' := [(1, .int 0), (0, .ref h0)]) hx hb dX5_init_95 rfl hl (by decide) rfl (fun ls hl2 => ?_)
  clear hl
  have hl := hl2
  clear hl2
  refine lv_iload_n hx hb dX5_init_96 rfl (lv_at hl 0 rfl) ?_
  refine lv_iconst (v := 5) hx hb dX5_init_97 (by decide) ?_
  refine lv_icmp_ge (tgt := 120) hx hb dX5_init_98 (by decide) (fun h => absurd h (by decide)) (fun _ => ?_)
  refine lv_aload_n hx hb dX5_init_101 rfl (lv_at hl 1 rfl) ?_
  refine va_get hx hb hts inUX5 hown hK hP 0 rfl rfl 1 (by decide) (hts _ u_331) (fun _ h9 => h9) rfl dX5_init_102 ?_
  refine lv_iload_n hx hb dX5_init_105 rfl (lv_at hl 0 rfl) ?_
  refine va_new (ci := 7) (fs := [.int 0, .int 0, .int 0, .int 0, .int 0, .int 0, .int 0, .int 0, .int 0, .int 0, .int 0, .float 0, .int 0, .int 0, .int 0, .float 0, .double 0]) (C := RX7) (T := TX7) (N := 17) hx hb hts inUX7 tyX7 tyX7_ok hown (hts _ u_274) (hts _ u_287) (hts _ u_133) hK hP hD hS hA rfl (by decide +kernel) (by rw [hR]; exact Nat.le_of_ble_eq_true rfl) (by rw [hR]; exact Nat.le_of_ble_eq_true rfl) dX5_init_106 (fun q10 H hP2 hD2 hS2 => ?_)
  refine W.widen (k := 190) (n := 1593) (by decide) (by decide) ?_
  clear hP hD hS
  have hP := hP2
  have hD := hD2
  have hS := hS2
  clear hP2 hD2 hS2
  refine lv_dup hx hb dX5_init_109 rfl ?_
  refine n_callN (rest := [.ref q10, .int 0, .ref q2]) (wr := ((h0, .inr (5, [.ref (ad1 0 ((b + 5)) 0), .ref q2, .ref (ad3 26 b 0), .int (-1), .int 0, .int (-1), .int 0, .int 0, .int 0, .ref q4, .ref q5, .ref q6, .int 0, .ref q7, .ref q8, .ref q9])) :: (q2, .inl (gC g 7, 5, .inr (.inr (.inr (.inr (fun _ => none)))))) :: (((((((([] ++ wsLw g (L_X0 ((b + 5))) ad1) ++ wsLw g (L_X4 b) ad3) ++ ((q4, .inl (gC g 5, 5, .inr (.inr (.inr (.inr (fun i => some (r4 i))))))) :: (List.range 5).map (fun i => (r4 i, .inl (gC g 0, 51, .inl (fun _ => 0)))))) ++ [(q5, .inl (gC g 0, 200, .inl (fun _ => 0)))]) ++ [(q6, .inl (gC g 0, 200, .inl (fun _ => 0)))]) ++ [(q7, .inl (gC g 0, 3, .inl (fun _ => 0)))]) ++ [(q8, .inl (gC g 1, 3, .inl (fun _ => 0)))]) ++ [(q9, .inl (gC g 1, 3, .inl (fun _ => 0)))]))) hx hb hml hown hts hK hCN hA hR hl hP hD hS (n_X7_init g l b q10 _) dX5_init_110 ⟨"WatchStack", by decide +kernel⟩ rfl u_288 mi_X7_init (by decide) (Nat.le_of_ble_eq_true rfl) (by decide) (by decide) (fun ad10 H locs hh hP2 hD2 hS2 => ?_)
  have hh2 : ad10 25 b 0 = q10 := Option.some.inj hh
  clear hh
  clear hP hD hS
  have hP : va_P (gD g) vwCl ((h0, .inr (5, [.ref (ad1 0 ((b + 5)) 0), .ref q2, .ref (ad3 26 b 0), .int (-1), .int 0, .int (-1), .int 0, .int 0, .int 0, .ref q4, .ref q5, .ref q6, .int 0, .ref q7, .ref q8, .ref q9])) :: (q2, .inl (gC g 7, 5, .inr (.inr (.inr (.inr (fun _ => none)))))) :: (wsLw g (L_X7 b) ad10 ++ (((((((([] ++ wsLw g (L_X0 ((b + 5))) ad1) ++ wsLw g (L_X4 b) ad3) ++ ((q4, .inl (gC g 5, 5, .inr (.inr (.inr (.inr (fun i => some (r4 i))))))) :: (List.range 5).map (fun i => (r4 i, .inl (gC g 0, 51, .inl (fun _ => 0)))))) ++ [(q5, .inl (gC g 0, 200, .inl (fun _ => 0)))]) ++ [(q6, .inl (gC g 0, 200, .inl (fun _ => 0)))]) ++ [(q7, .inl (gC g 0, 3, .inl (fun _ => 0)))]) ++ [(q8, .inl (gC g 1, 3, .inl (fun _ => 0)))]) ++ [(q9, .inl (gC g 1, 3, .inl (fun _ => 0)))]))) H := n_rot hP2
  have hD : va_D A ((h0, .inr (5, [.ref (ad1 0 ((b + 5)) 0), .ref q2, .ref (ad3 26 b 0), .int (-1), .int 0, .int (-1), .int 0, .int 0, .int 0, .ref q4, .ref q5, .ref q6, .int 0, .ref q7, .ref q8, .ref q9])) :: (q2, .inl (gC g 7, 5, .inr (.inr (.inr (.inr (fun _ => none)))))) :: (wsLw g (L_X7 b) ad10 ++ (((((((([] ++ wsLw g (L_X0 ((b + 5))) ad1) ++ wsLw g (L_X4 b) ad3) ++ ((q4, .inl (gC g 5, 5, .inr (.inr (.inr (.inr (fun i => some (r4 i))))))) :: (List.range 5).map (fun i => (r4 i, .inl (gC g 0, 51, .inl (fun _ => 0)))))) ++ [(q5, .inl (gC g 0, 200, .inl (fun _ => 0)))]) ++ [(q6, .inl (gC g 0, 200, .inl (fun _ => 0)))]) ++ [(q7, .inl (gC g 0, 3, .inl (fun _ => 0)))]) ++ [(q8, .inl (gC g 1, 3, .inl (fun _ => 0)))]) ++ [(q9, .inl (gC g 1, 3, .inl (fun _ => 0)))]))) := n_rotD hD2
  have hS := hS2
  clear hP2 hD2 hS2
  subst hh2
  refine W.widen (k := 190) (n := 1593) (by decide) (by decide) ?_
  refine va_astq (A := A) hx hb hK hP hD hS 1 7 2 7 rfl rfl rfl rfl (i := 0) (by unfold vp_in; decide) dX5_init_113 (fun H locs hP2 hD2 hS2 => ?_)
  clear hP hD hS
  have hP : va_P (gD g) vwCl ((h0, .inr (5, [.ref (ad1 0 ((b + 5)) 0), .ref q2, .ref (ad3 26 b 0), .int (-1), .int 0, .int (-1), .int 0, .int 0, .int 0, .ref q4, .ref q5, .ref q6, .int 0, .ref q7, .ref q8, .ref q9])) :: (q2, .inl (gC g 7, 5, .inr (.inr (.inr (.inr (va_up (fun _ => none) 0 (some (ad10 25 b 0)))))))) :: (wsLw g (L_X7 b) ad10 ++ (((((((([] ++ wsLw g (L_X0 ((b + 5))) ad1) ++ wsLw g (L_X4 b) ad3) ++ ((q4, .inl (gC g 5, 5, .inr (.inr (.inr (.inr (fun i => some (r4 i))))))) :: (List.range 5).map (fun i => (r4 i, .inl (gC g 0, 51, .inl (fun _ => 0)))))) ++ [(q5, .inl (gC g 0, 200, .inl (fun _ => 0)))]) ++ [(q6, .inl (gC g 0, 200, .inl (fun _ => 0)))]) ++ [(q7, .inl (gC g 0, 3, .inl (fun _ => 0)))]) ++ [(q8, .inl (gC g 1, 3, .inl (fun _ => 0)))]) ++ [(q9, .inl (gC g 1, 3, .inl (fun _ => 0)))]))) H := hP2
  have hD : va_D A ((h0, .inr (5, [.ref (ad1 0 ((b + 5)) 0), .ref q2, .ref (ad3 26 b 0), .int (-1), .int 0, .int (-1), .int 0, .int 0, .int 0, .ref q4, .ref q5, .ref q6, .int 0, .ref q7, .ref q8, .ref q9])) :: (q2, .inl (gC g 7, 5, .inr (.inr (.inr (.inr (va_up (fun _ => none) 0 (some (ad10 25 b 0)))))))) :: (wsLw g (L_X7 b) ad10 ++ (((((((([] ++ wsLw g (L_X0 ((b + 5))) ad1) ++ wsLw g (L_X4 b) ad3) ++ ((q4, .inl (gC g 5, 5, .inr (.inr (.inr (.inr (fun i => some (r4 i))))))) :: (List.range 5).map (fun i => (r4 i, .inl (gC g 0, 51, .inl (fun _ => 0)))))) ++ [(q5, .inl (gC g 0, 200, .inl (fun _ => 0)))]) ++ [(q6, .inl (gC g 0, 200, .inl (fun _ => 0)))]) ++ [(q7, .inl (gC g 0, 3, .inl (fun _ => 0)))]) ++ [(q8, .inl (gC g 1, 3, .inl (fun _ => 0)))]) ++ [(q9, .inl (gC g 1, 3, .inl (fun _ => 0)))]))) := hD2
  have hS := hS2
  clear hP2 hD2 hS2
  refine lv_iinc (k := 0) (v := 1) (lv' := [(1, .int 1), (0, .ref h0)]) hx hb dX5_init_114 hl rfl (by decide) (by decide) rfl (fun ls hl2 => ?_)
  clear hl
  have hl := hl2
  clear hl2
  refine lv_goto (tgt := 96) hx hb dX5_init_117 (by decide) ?_
  refine lv_iload_n hx hb dX5_init_96 rfl (lv_at hl 0 rfl) ?_
  refine lv_iconst (v := 5) hx hb dX5_init_97 (by decide) ?_
  refine lv_icmp_ge (tgt := 120) hx hb dX5_init_98 (by decide) (fun h => absurd h (by decide)) (fun _ => ?_)
  refine lv_aload_n hx hb dX5_init_101 rfl (lv_at hl 1 rfl) ?_
  refine va_get hx hb hts inUX5 hown hK hP 0 rfl rfl 1 (by decide) (hts _ u_331) (fun _ h9 => h9) rfl dX5_init_102 ?_
  refine lv_iload_n hx hb dX5_init_105 rfl (lv_at hl 0 rfl) ?_
  refine va_new (ci := 7) (fs := [.int 0, .int 0, .int 0, .int 0, .int 0, .int 0, .int 0, .int 0, .int 0, .int 0, .int 0, .float 0, .int 0, .int 0, .int 0, .float 0, .double 0]) (C := RX7) (T := TX7) (N := 17) hx hb hts inUX7 tyX7 tyX7_ok hown (hts _ u_274) (hts _ u_287) (hts _ u_133) hK hP hD hS hA rfl (by decide +kernel) (by rw [hR]; exact Nat.le_of_ble_eq_true rfl) (by rw [hR]; exact Nat.le_of_ble_eq_true rfl) dX5_init_106 (fun q11 H hP2 hD2 hS2 => ?_)
  refine W.widen (k := 191) (n := 1610) (by decide) (by decide) ?_
  clear hP hD hS
  have hP := hP2
  have hD := hD2
  have hS := hS2
  clear hP2 hD2 hS2
  refine lv_dup hx hb dX5_init_109 rfl ?_
  refine n_callN (rest := [.ref q11, .int 1, .ref q2]) (wr := ((h0, .inr (5, [.ref (ad1 0 ((b + 5)) 0), .ref q2, .ref (ad3 26 b 0), .int (-1), .int 0, .int (-1), .int 0, .int 0, .int 0, .ref q4, .ref q5, .ref q6, .int 0, .ref q7, .ref q8, .ref q9])) :: (q2, .inl (gC g 7, 5, .inr (.inr (.inr (.inr (va_up (fun _ => none) 0 (some (ad10 25 b 0)))))))) :: (wsLw g (L_X7 b) ad10 ++ (((((((([] ++ wsLw g (L_X0 ((b + 5))) ad1) ++ wsLw g (L_X4 b) ad3) ++ ((q4, .inl (gC g 5, 5, .inr (.inr (.inr (.inr (fun i => some (r4 i))))))) :: (List.range 5).map (fun i => (r4 i, .inl (gC g 0, 51, .inl (fun _ => 0)))))) ++ [(q5, .inl (gC g 0, 200, .inl (fun _ => 0)))]) ++ [(q6, .inl (gC g 0, 200, .inl (fun _ => 0)))]) ++ [(q7, .inl (gC g 0, 3, .inl (fun _ => 0)))]) ++ [(q8, .inl (gC g 1, 3, .inl (fun _ => 0)))]) ++ [(q9, .inl (gC g 1, 3, .inl (fun _ => 0)))])))) hx hb hml hown hts hK hCN hA hR hl hP hD hS (n_X7_init g l b q11 _) dX5_init_110 ⟨"WatchStack", by decide +kernel⟩ rfl u_288 mi_X7_init (by decide) (Nat.le_of_ble_eq_true rfl) (by decide) (by decide) (fun ad11 H locs hh hP2 hD2 hS2 => ?_)
  have hh2 : ad11 25 b 0 = q11 := Option.some.inj hh
  clear hh
  clear hP hD hS
  have hP : va_P (gD g) vwCl ((h0, .inr (5, [.ref (ad1 0 ((b + 5)) 0), .ref q2, .ref (ad3 26 b 0), .int (-1), .int 0, .int (-1), .int 0, .int 0, .int 0, .ref q4, .ref q5, .ref q6, .int 0, .ref q7, .ref q8, .ref q9])) :: (q2, .inl (gC g 7, 5, .inr (.inr (.inr (.inr (va_up (fun _ => none) 0 (some (ad10 25 b 0)))))))) :: (wsLw g (L_X7 b) ad11 ++ (wsLw g (L_X7 b) ad10 ++ (((((((([] ++ wsLw g (L_X0 ((b + 5))) ad1) ++ wsLw g (L_X4 b) ad3) ++ ((q4, .inl (gC g 5, 5, .inr (.inr (.inr (.inr (fun i => some (r4 i))))))) :: (List.range 5).map (fun i => (r4 i, .inl (gC g 0, 51, .inl (fun _ => 0)))))) ++ [(q5, .inl (gC g 0, 200, .inl (fun _ => 0)))]) ++ [(q6, .inl (gC g 0, 200, .inl (fun _ => 0)))]) ++ [(q7, .inl (gC g 0, 3, .inl (fun _ => 0)))]) ++ [(q8, .inl (gC g 1, 3, .inl (fun _ => 0)))]) ++ [(q9, .inl (gC g 1, 3, .inl (fun _ => 0)))])))) H := n_rot hP2
  have hD : va_D A ((h0, .inr (5, [.ref (ad1 0 ((b + 5)) 0), .ref q2, .ref (ad3 26 b 0), .int (-1), .int 0, .int (-1), .int 0, .int 0, .int 0, .ref q4, .ref q5, .ref q6, .int 0, .ref q7, .ref q8, .ref q9])) :: (q2, .inl (gC g 7, 5, .inr (.inr (.inr (.inr (va_up (fun _ => none) 0 (some (ad10 25 b 0)))))))) :: (wsLw g (L_X7 b) ad11 ++ (wsLw g (L_X7 b) ad10 ++ (((((((([] ++ wsLw g (L_X0 ((b + 5))) ad1) ++ wsLw g (L_X4 b) ad3) ++ ((q4, .inl (gC g 5, 5, .inr (.inr (.inr (.inr (fun i => some (r4 i))))))) :: (List.range 5).map (fun i => (r4 i, .inl (gC g 0, 51, .inl (fun _ => 0)))))) ++ [(q5, .inl (gC g 0, 200, .inl (fun _ => 0)))]) ++ [(q6, .inl (gC g 0, 200, .inl (fun _ => 0)))]) ++ [(q7, .inl (gC g 0, 3, .inl (fun _ => 0)))]) ++ [(q8, .inl (gC g 1, 3, .inl (fun _ => 0)))]) ++ [(q9, .inl (gC g 1, 3, .inl (fun _ => 0)))])))) := n_rotD hD2
  have hS := hS2
  clear hP2 hD2 hS2
  subst hh2
  refine W.widen (k := 191) (n := 1610) (by decide) (by decide) ?_
  refine va_astq (A := A) hx hb hK hP hD hS 1 7 2 7 rfl rfl rfl rfl (i := 1) (by unfold vp_in; decide) dX5_init_113 (fun H locs hP2 hD2 hS2 => ?_)
  clear hP hD hS
  have hP : va_P (gD g) vwCl ((h0, .inr (5, [.ref (ad1 0 ((b + 5)) 0), .ref q2, .ref (ad3 26 b 0), .int (-1), .int 0, .int (-1), .int 0, .int 0, .int 0, .ref q4, .ref q5, .ref q6, .int 0, .ref q7, .ref q8, .ref q9])) :: (q2, .inl (gC g 7, 5, .inr (.inr (.inr (.inr (va_up (va_up (fun _ => none) 0 (some (ad10 25 b 0))) 1 (some (ad11 25 b 0)))))))) :: (wsLw g (L_X7 b) ad11 ++ (wsLw g (L_X7 b) ad10 ++ (((((((([] ++ wsLw g (L_X0 ((b + 5))) ad1) ++ wsLw g (L_X4 b) ad3) ++ ((q4, .inl (gC g 5, 5, .inr (.inr (.inr (.inr (fun i => some (r4 i))))))) :: (List.range 5).map (fun i => (r4 i, .inl (gC g 0, 51, .inl (fun _ => 0)))))) ++ [(q5, .inl (gC g 0, 200, .inl (fun _ => 0)))]) ++ [(q6, .inl (gC g 0, 200, .inl (fun _ => 0)))]) ++ [(q7, .inl (gC g 0, 3, .inl (fun _ => 0)))]) ++ [(q8, .inl (gC g 1, 3, .inl (fun _ => 0)))]) ++ [(q9, .inl (gC g 1, 3, .inl (fun _ => 0)))])))) H := hP2
  have hD : va_D A ((h0, .inr (5, [.ref (ad1 0 ((b + 5)) 0), .ref q2, .ref (ad3 26 b 0), .int (-1), .int 0, .int (-1), .int 0, .int 0, .int 0, .ref q4, .ref q5, .ref q6, .int 0, .ref q7, .ref q8, .ref q9])) :: (q2, .inl (gC g 7, 5, .inr (.inr (.inr (.inr (va_up (va_up (fun _ => none) 0 (some (ad10 25 b 0))) 1 (some (ad11 25 b 0)))))))) :: (wsLw g (L_X7 b) ad11 ++ (wsLw g (L_X7 b) ad10 ++ (((((((([] ++ wsLw g (L_X0 ((b + 5))) ad1) ++ wsLw g (L_X4 b) ad3) ++ ((q4, .inl (gC g 5, 5, .inr (.inr (.inr (.inr (fun i => some (r4 i))))))) :: (List.range 5).map (fun i => (r4 i, .inl (gC g 0, 51, .inl (fun _ => 0)))))) ++ [(q5, .inl (gC g 0, 200, .inl (fun _ => 0)))]) ++ [(q6, .inl (gC g 0, 200, .inl (fun _ => 0)))]) ++ [(q7, .inl (gC g 0, 3, .inl (fun _ => 0)))]) ++ [(q8, .inl (gC g 1, 3, .inl (fun _ => 0)))]) ++ [(q9, .inl (gC g 1, 3, .inl (fun _ => 0)))])))) := hD2
  have hS := hS2
  clear hP2 hD2 hS2
  refine lv_iinc (k := 0) (v := 2) (lv' := [(1, .int 2), (0, .ref h0)]) hx hb dX5_init_114 hl rfl (by decide) (by decide) rfl (fun ls hl2 => ?_)
  clear hl
  have hl := hl2
  clear hl2
  refine lv_goto (tgt := 96) hx hb dX5_init_117 (by decide) ?_
  refine lv_iload_n hx hb dX5_init_96 rfl (lv_at hl 0 rfl) ?_
  refine lv_iconst (v := 5) hx hb dX5_init_97 (by decide) ?_
  refine lv_icmp_ge (tgt := 120) hx hb dX5_init_98 (by decide) (fun h => absurd h (by decide)) (fun _ => ?_)
  refine lv_aload_n hx hb dX5_init_101 rfl (lv_at hl 1 rfl) ?_
  refine va_get hx hb hts inUX5 hown hK hP 0 rfl rfl 1 (by decide) (hts _ u_331) (fun _ h9 => h9) rfl dX5_init_102 ?_
  refine lv_iload_n hx hb dX5_init_105 rfl (lv_at hl 0 rfl) ?_
  refine va_new (ci := 7) (fs := [.int 0, .int 0, .int 0, .int 0, .int 0, .int 0, .int 0, .int 0, .int 0, .int 0, .int 0, .float 0, .int 0, .int 0, .int 0, .float 0, .double 0]) (C := RX7) (T := TX7) (N := 17) hx hb hts inUX7 tyX7 tyX7_ok hown (hts _ u_274) (hts _ u_287) (hts _ u_133) hK hP hD hS hA rfl (by decide +kernel) (by rw [hR]; exact Nat.le_of_ble_eq_true rfl) (by rw [hR]; exact Nat.le_of_ble_eq_true rfl) dX5_init_106 (fun q12 H hP2 hD2 hS2 => ?_)
  refine W.widen (k := 192) (n := 1627) (by decide) (by decide) ?_
  clear hP hD hS
  have hP := hP2
  have hD := hD2
  have hS := hS2
  clear hP2 hD2 hS2
  refine lv_dup hx hb dX5_init_109 rfl ?_
  refine n_callN (rest := [.ref q12, .int 2, .ref q2]) (wr := ((h0, .inr (5, [.ref (ad1 0 ((b + 5)) 0), .ref q2, .ref (ad3 26 b 0), .int (-1), .int 0, .int (-1), .int 0, .int 0, .int 0, .ref q4, .ref q5, .ref q6, .int 0, .ref q7, .ref q8, .ref q9])) :: (q2, .inl (gC g 7, 5, .inr (.inr (.inr (.inr (va_up (va_up (fun _ => none) 0 (some (ad10 25 b 0))) 1 (some (ad11 25 b 0)))))))) :: (wsLw g (L_X7 b) ad11 ++ (wsLw g (L_X7 b) ad10 ++ (((((((([] ++ wsLw g (L_X0 ((b + 5))) ad1) ++ wsLw g (L_X4 b) ad3) ++ ((q4, .inl (gC g 5, 5, .inr (.inr (.inr (.inr (fun i => some (r4 i))))))) :: (List.range 5).map (fun i => (r4 i, .inl (gC g 0, 51, .inl (fun _ => 0)))))) ++ [(q5, .inl (gC g 0, 200, .inl (fun _ => 0)))]) ++ [(q6, .inl (gC g 0, 200, .inl (fun _ => 0)))]) ++ [(q7, .inl (gC g 0, 3, .inl (fun _ => 0)))]) ++ [(q8, .inl (gC g 1, 3, .inl (fun _ => 0)))]) ++ [(q9, .inl (gC g 1, 3, .inl (fun _ => 0)))]))))) hx hb hml hown hts hK hCN hA hR hl hP hD hS (n_X7_init g l b q12 _) dX5_init_110 ⟨"WatchStack", by decide +kernel⟩ rfl u_288 mi_X7_init (by decide) (Nat.le_of_ble_eq_true rfl) (by decide) (by decide) (fun ad12 H locs hh hP2 hD2 hS2 => ?_)
  have hh2 : ad12 25 b 0 = q12 := Option.some.inj hh
  clear hh
  clear hP hD hS
  have hP : va_P (gD g) vwCl ((h0, .inr (5, [.ref (ad1 0 ((b + 5)) 0), .ref q2, .ref (ad3 26 b 0), .int (-1), .int 0, .int (-1), .int 0, .int 0, .int 0, .ref q4, .ref q5, .ref q6, .int 0, .ref q7, .ref q8, .ref q9])) :: (q2, .inl (gC g 7, 5, .inr (.inr (.inr (.inr (va_up (va_up (fun _ => none) 0 (some (ad10 25 b 0))) 1 (some (ad11 25 b 0)))))))) :: (wsLw g (L_X7 b) ad12 ++ (wsLw g (L_X7 b) ad11 ++ (wsLw g (L_X7 b) ad10 ++ (((((((([] ++ wsLw g (L_X0 ((b + 5))) ad1) ++ wsLw g (L_X4 b) ad3) ++ ((q4, .inl (gC g 5, 5, .inr (.inr (.inr (.inr (fun i => some (r4 i))))))) :: (List.range 5).map (fun i => (r4 i, .inl (gC g 0, 51, .inl (fun _ => 0)))))) ++ [(q5, .inl (gC g 0, 200, .inl (fun _ => 0)))]) ++ [(q6, .inl (gC g 0, 200, .inl (fun _ => 0)))]) ++ [(q7, .inl (gC g 0, 3, .inl (fun _ => 0)))]) ++ [(q8, .inl (gC g 1, 3, .inl (fun _ => 0)))]) ++ [(q9, .inl (gC g 1, 3, .inl (fun _ => 0)))]))))) H := n_rot hP2
  have hD : va_D A ((h0, .inr (5, [.ref (ad1 0 ((b + 5)) 0), .ref q2, .ref (ad3 26 b 0), .int (-1), .int 0, .int (-1), .int 0, .int 0, .int 0, .ref q4, .ref q5, .ref q6, .int 0, .ref q7, .ref q8, .ref q9])) :: (q2, .inl (gC g 7, 5, .inr (.inr (.inr (.inr (va_up (va_up (fun _ => none) 0 (some (ad10 25 b 0))) 1 (some (ad11 25 b 0)))))))) :: (wsLw g (L_X7 b) ad12 ++ (wsLw g (L_X7 b) ad11 ++ (wsLw g (L_X7 b) ad10 ++ (((((((([] ++ wsLw g (L_X0 ((b + 5))) ad1) ++ wsLw g (L_X4 b) ad3) ++ ((q4, .inl (gC g 5, 5, .inr (.inr (.inr (.inr (fun i => some (r4 i))))))) :: (List.range 5).map (fun i => (r4 i, .inl (gC g 0, 51, .inl (fun _ => 0)))))) ++ [(q5, .inl (gC g 0, 200, .inl (fun _ => 0)))]) ++ [(q6, .inl (gC g 0, 200, .inl (fun _ => 0)))]) ++ [(q7, .inl (gC g 0, 3, .inl (fun _ => 0)))]) ++ [(q8, .inl (gC g 1, 3, .inl (fun _ => 0)))]) ++ [(q9, .inl (gC g 1, 3, .inl (fun _ => 0)))]))))) := n_rotD hD2
  have hS := hS2
  clear hP2 hD2 hS2
  subst hh2
  refine W.widen (k := 192) (n := 1627) (by decide) (by decide) ?_
  refine va_astq (A := A) hx hb hK hP hD hS 1 7 2 7 rfl rfl rfl rfl (i := 2) (by unfold vp_in; decide) dX5_init_113 (fun H locs hP2 hD2 hS2 => ?_)
  clear hP hD hS
  have hP : va_P (gD g) vwCl ((h0, .inr (5, [.ref (ad1 0 ((b + 5)) 0), .ref q2, .ref (ad3 26 b 0), .int (-1), .int 0, .int (-1), .int 0, .int 0, .int 0, .ref q4, .ref q5, .ref q6, .int 0, .ref q7, .ref q8, .ref q9])) :: (q2, .inl (gC g 7, 5, .inr (.inr (.inr (.inr (va_up (va_up (va_up (fun _ => none) 0 (some (ad10 25 b 0))) 1 (some (ad11 25 b 0))) 2 (some (ad12 25 b 0)))))))) :: (wsLw g (L_X7 b) ad12 ++ (wsLw g (L_X7 b) ad11 ++ (wsLw g (L_X7 b) ad10 ++ (((((((([] ++ wsLw g (L_X0 ((b + 5))) ad1) ++ wsLw g (L_X4 b) ad3) ++ ((q4, .inl (gC g 5, 5, .inr (.inr (.inr (.inr (fun i => some (r4 i))))))) :: (List.range 5).map (fun i => (r4 i, .inl (gC g 0, 51, .inl (fun _ => 0)))))) ++ [(q5, .inl (gC g 0, 200, .inl (fun _ => 0)))]) ++ [(q6, .inl (gC g 0, 200, .inl (fun _ => 0)))]) ++ [(q7, .inl (gC g 0, 3, .inl (fun _ => 0)))]) ++ [(q8, .inl (gC g 1, 3, .inl (fun _ => 0)))]) ++ [(q9, .inl (gC g 1, 3, .inl (fun _ => 0)))]))))) H := hP2
  have hD : va_D A ((h0, .inr (5, [.ref (ad1 0 ((b + 5)) 0), .ref q2, .ref (ad3 26 b 0), .int (-1), .int 0, .int (-1), .int 0, .int 0, .int 0, .ref q4, .ref q5, .ref q6, .int 0, .ref q7, .ref q8, .ref q9])) :: (q2, .inl (gC g 7, 5, .inr (.inr (.inr (.inr (va_up (va_up (va_up (fun _ => none) 0 (some (ad10 25 b 0))) 1 (some (ad11 25 b 0))) 2 (some (ad12 25 b 0)))))))) :: (wsLw g (L_X7 b) ad12 ++ (wsLw g (L_X7 b) ad11 ++ (wsLw g (L_X7 b) ad10 ++ (((((((([] ++ wsLw g (L_X0 ((b + 5))) ad1) ++ wsLw g (L_X4 b) ad3) ++ ((q4, .inl (gC g 5, 5, .inr (.inr (.inr (.inr (fun i => some (r4 i))))))) :: (List.range 5).map (fun i => (r4 i, .inl (gC g 0, 51, .inl (fun _ => 0)))))) ++ [(q5, .inl (gC g 0, 200, .inl (fun _ => 0)))]) ++ [(q6, .inl (gC g 0, 200, .inl (fun _ => 0)))]) ++ [(q7, .inl (gC g 0, 3, .inl (fun _ => 0)))]) ++ [(q8, .inl (gC g 1, 3, .inl (fun _ => 0)))]) ++ [(q9, .inl (gC g 1, 3, .inl (fun _ => 0)))]))))) := hD2
  have hS := hS2
  clear hP2 hD2 hS2
  refine lv_iinc (k := 0) (v := 3) (lv' := [(1, .int 3), (0, .ref h0)]) hx hb dX5_init_114 hl rfl (by decide) (by decide) rfl (fun ls hl2 => ?_)
  clear hl
  have hl := hl2
  clear hl2
  refine lv_goto (tgt := 96) hx hb dX5_init_117 (by decide) ?_
  refine lv_iload_n hx hb dX5_init_96 rfl (lv_at hl 0 rfl) ?_
  refine lv_iconst (v := 5) hx hb dX5_init_97 (by decide) ?_
  refine lv_icmp_ge (tgt := 120) hx hb dX5_init_98 (by decide) (fun h => absurd h (by decide)) (fun _ => ?_)
  refine lv_aload_n hx hb dX5_init_101 rfl (lv_at hl 1 rfl) ?_
  refine va_get hx hb hts inUX5 hown hK hP 0 rfl rfl 1 (by decide) (hts _ u_331) (fun _ h9 => h9) rfl dX5_init_102 ?_
  refine lv_iload_n hx hb dX5_init_105 rfl (lv_at hl 0 rfl) ?_
  refine va_new (ci := 7) (fs := [.int 0, .int 0, .int 0, .int 0, .int 0, .int 0, .int 0, .int 0, .int 0, .int 0, .int 0, .float 0, .int 0, .int 0, .int 0, .float 0, .double 0]) (C := RX7) (T := TX7) (N := 17) hx hb hts inUX7 tyX7 tyX7_ok hown (hts _ u_274) (hts _ u_287) (hts _ u_133) hK hP hD hS hA rfl (by decide +kernel) (by rw [hR]; exact Nat.le_of_ble_eq_true rfl) (by rw [hR]; exact Nat.le_of_ble_eq_true rfl) dX5_init_106 (fun q13 H hP2 hD2 hS2 => ?_)
  refine W.widen (k := 193) (n := 1644) (by decide) (by decide) ?_
  clear hP hD hS
  have hP := hP2
  have hD := hD2
  have hS := hS2
  clear hP2 hD2 hS2
  refine lv_dup hx hb dX5_init_109 rfl ?_
  refine n_callN (rest := [.ref q13, .int 3, .ref q2]) (wr := ((h0, .inr (5, [.ref (ad1 0 ((b + 5)) 0), .ref q2, .ref (ad3 26 b 0), .int (-1), .int 0, .int (-1), .int 0, .int 0, .int 0, .ref q4, .ref q5, .ref q6, .int 0, .ref q7, .ref q8, .ref q9])) :: (q2, .inl (gC g 7, 5, .inr (.inr (.inr (.inr (va_up (va_up (va_up (fun _ => none) 0 (some (ad10 25 b 0))) 1 (some (ad11 25 b 0))) 2 (some (ad12 25 b 0)))))))) :: (wsLw g (L_X7 b) ad12 ++ (wsLw g (L_X7 b) ad11 ++ (wsLw g (L_X7 b) ad10 ++ (((((((([] ++ wsLw g (L_X0 ((b + 5))) ad1) ++ wsLw g (L_X4 b) ad3) ++ ((q4, .inl (gC g 5, 5, .inr (.inr (.inr (.inr (fun i => some (r4 i))))))) :: (List.range 5).map (fun i => (r4 i, .inl (gC g 0, 51, .inl (fun _ => 0)))))) ++ [(q5, .inl (gC g 0, 200, .inl (fun _ => 0)))]) ++ [(q6, .inl (gC g 0, 200, .inl (fun _ => 0)))]) ++ [(q7, .inl (gC g 0, 3, .inl (fun _ => 0)))]) ++ [(q8, .inl (gC g 1, 3, .inl (fun _ => 0)))]) ++ [(q9, .inl (gC g 1, 3, .inl (fun _ => 0)))])))))) hx hb hml hown hts hK hCN hA hR hl hP hD hS (n_X7_init g l b q13 _) dX5_init_110 ⟨"WatchStack", by decide +kernel⟩ rfl u_288 mi_X7_init (by decide) (Nat.le_of_ble_eq_true rfl) (by decide) (by decide) (fun ad13 H locs hh hP2 hD2 hS2 => ?_)
  have hh2 : ad13 25 b 0 = q13 := Option.some.inj hh
  clear hh
  clear hP hD hS
  have hP : va_P (gD g) vwCl ((h0, .inr (5, [.ref (ad1 0 ((b + 5)) 0), .ref q2, .ref (ad3 26 b 0), .int (-1), .int 0, .int (-1), .int 0, .int 0, .int 0, .ref q4, .ref q5, .ref q6, .int 0, .ref q7, .ref q8, .ref q9])) :: (q2, .inl (gC g 7, 5, .inr (.inr (.inr (.inr (va_up (va_up (va_up (fun _ => none) 0 (some (ad10 25 b 0))) 1 (some (ad11 25 b 0))) 2 (some (ad12 25 b 0)))))))) :: (wsLw g (L_X7 b) ad13 ++ (wsLw g (L_X7 b) ad12 ++ (wsLw g (L_X7 b) ad11 ++ (wsLw g (L_X7 b) ad10 ++ (((((((([] ++ wsLw g (L_X0 ((b + 5))) ad1) ++ wsLw g (L_X4 b) ad3) ++ ((q4, .inl (gC g 5, 5, .inr (.inr (.inr (.inr (fun i => some (r4 i))))))) :: (List.range 5).map (fun i => (r4 i, .inl (gC g 0, 51, .inl (fun _ => 0)))))) ++ [(q5, .inl (gC g 0, 200, .inl (fun _ => 0)))]) ++ [(q6, .inl (gC g 0, 200, .inl (fun _ => 0)))]) ++ [(q7, .inl (gC g 0, 3, .inl (fun _ => 0)))]) ++ [(q8, .inl (gC g 1, 3, .inl (fun _ => 0)))]) ++ [(q9, .inl (gC g 1, 3, .inl (fun _ => 0)))])))))) H := n_rot hP2
  have hD : va_D A ((h0, .inr (5, [.ref (ad1 0 ((b + 5)) 0), .ref q2, .ref (ad3 26 b 0), .int (-1), .int 0, .int (-1), .int 0, .int 0, .int 0, .ref q4, .ref q5, .ref q6, .int 0, .ref q7, .ref q8, .ref q9])) :: (q2, .inl (gC g 7, 5, .inr (.inr (.inr (.inr (va_up (va_up (va_up (fun _ => none) 0 (some (ad10 25 b 0))) 1 (some (ad11 25 b 0))) 2 (some (ad12 25 b 0)))))))) :: (wsLw g (L_X7 b) ad13 ++ (wsLw g (L_X7 b) ad12 ++ (wsLw g (L_X7 b) ad11 ++ (wsLw g (L_X7 b) ad10 ++ (((((((([] ++ wsLw g (L_X0 ((b + 5))) ad1) ++ wsLw g (L_X4 b) ad3) ++ ((q4, .inl (gC g 5, 5, .inr (.inr (.inr (.inr (fun i => some (r4 i))))))) :: (List.range 5).map (fun i => (r4 i, .inl (gC g 0, 51, .inl (fun _ => 0)))))) ++ [(q5, .inl (gC g 0, 200, .inl (fun _ => 0)))]) ++ [(q6, .inl (gC g 0, 200, .inl (fun _ => 0)))]) ++ [(q7, .inl (gC g 0, 3, .inl (fun _ => 0)))]) ++ [(q8, .inl (gC g 1, 3, .inl (fun _ => 0)))]) ++ [(q9, .inl (gC g 1, 3, .inl (fun _ => 0)))])))))) := n_rotD hD2
  have hS := hS2
  clear hP2 hD2 hS2
  subst hh2
  refine W.widen (k := 193) (n := 1644) (by decide) (by decide) ?_
  refine va_astq (A := A) hx hb hK hP hD hS 1 7 2 7 rfl rfl rfl rfl (i := 3) (by unfold vp_in; decide) dX5_init_113 (fun H locs hP2 hD2 hS2 => ?_)
  clear hP hD hS
  have hP : va_P (gD g) vwCl ((h0, .inr (5, [.ref (ad1 0 ((b + 5)) 0), .ref q2, .ref (ad3 26 b 0), .int (-1), .int 0, .int (-1), .int 0, .int 0, .int 0, .ref q4, .ref q5, .ref q6, .int 0, .ref q7, .ref q8, .ref q9])) :: (q2, .inl (gC g 7, 5, .inr (.inr (.inr (.inr (va_up (va_up (va_up (va_up (fun _ => none) 0 (some (ad10 25 b 0))) 1 (some (ad11 25 b 0))) 2 (some (ad12 25 b 0))) 3 (some (ad13 25 b 0)))))))) :: (wsLw g (L_X7 b) ad13 ++ (wsLw g (L_X7 b) ad12 ++ (wsLw g (L_X7 b) ad11 ++ (wsLw g (L_X7 b) ad10 ++ (((((((([] ++ wsLw g (L_X0 ((b + 5))) ad1) ++ wsLw g (L_X4 b) ad3) ++ ((q4, .inl (gC g 5, 5, .inr (.inr (.inr (.inr (fun i => some (r4 i))))))) :: (List.range 5).map (fun i => (r4 i, .inl (gC g 0, 51, .inl (fun _ => 0)))))) ++ [(q5, .inl (gC g 0, 200, .inl (fun _ => 0)))]) ++ [(q6, .inl (gC g 0, 200, .inl (fun _ => 0)))]) ++ [(q7, .inl (gC g 0, 3, .inl (fun _ => 0)))]) ++ [(q8, .inl (gC g 1, 3, .inl (fun _ => 0)))]) ++ [(q9, .inl (gC g 1, 3, .inl (fun _ => 0)))])))))) H := hP2
  have hD : va_D A ((h0, .inr (5, [.ref (ad1 0 ((b + 5)) 0), .ref q2, .ref (ad3 26 b 0), .int (-1), .int 0, .int (-1), .int 0, .int 0, .int 0, .ref q4, .ref q5, .ref q6, .int 0, .ref q7, .ref q8, .ref q9])) :: (q2, .inl (gC g 7, 5, .inr (.inr (.inr (.inr (va_up (va_up (va_up (va_up (fun _ => none) 0 (some (ad10 25 b 0))) 1 (some (ad11 25 b 0))) 2 (some (ad12 25 b 0))) 3 (some (ad13 25 b 0)))))))) :: (wsLw g (L_X7 b) ad13 ++ (wsLw g (L_X7 b) ad12 ++ (wsLw g (L_X7 b) ad11 ++ (wsLw g (L_X7 b) ad10 ++ (((((((([] ++ wsLw g (L_X0 ((b + 5))) ad1) ++ wsLw g (L_X4 b) ad3) ++ ((q4, .inl (gC g 5, 5, .inr (.inr (.inr (.inr (fun i => some (r4 i))))))) :: (List.range 5).map (fun i => (r4 i, .inl (gC g 0, 51, .inl (fun _ => 0)))))) ++ [(q5, .inl (gC g 0, 200, .inl (fun _ => 0)))]) ++ [(q6, .inl (gC g 0, 200, .inl (fun _ => 0)))]) ++ [(q7, .inl (gC g 0, 3, .inl (fun _ => 0)))]) ++ [(q8, .inl (gC g 1, 3, .inl (fun _ => 0)))]) ++ [(q9, .inl (gC g 1, 3, .inl (fun _ => 0)))])))))) := hD2
  have hS := hS2
  clear hP2 hD2 hS2
  refine lv_iinc (k := 0) (v := 4) (lv' := [(1, .int 4), (0, .ref h0)]) hx hb dX5_init_114 hl rfl (by decide) (by decide) rfl (fun ls hl2 => ?_)
  clear hl
  have hl := hl2
  clear hl2
  refine lv_goto (tgt := 96) hx hb dX5_init_117 (by decide) ?_
  refine lv_iload_n hx hb dX5_init_96 rfl (lv_at hl 0 rfl) ?_
  refine lv_iconst (v := 5) hx hb dX5_init_97 (by decide) ?_
  refine lv_icmp_ge (tgt := 120) hx hb dX5_init_98 (by decide) (fun h => absurd h (by decide)) (fun _ => ?_)
  refine lv_aload_n hx hb dX5_init_101 rfl (lv_at hl 1 rfl) ?_
  refine va_get hx hb hts inUX5 hown hK hP 0 rfl rfl 1 (by decide) (hts _ u_331) (fun _ h9 => h9) rfl dX5_init_102 ?_
  refine lv_iload_n hx hb dX5_init_105 rfl (lv_at hl 0 rfl) ?_
  refine va_new (ci := 7) (fs := [.int 0, .int 0, .int 0, .int 0, .int 0, .int 0, .int 0, .int 0, .int 0, .int 0, .int 0, .float 0, .int 0, .int 0, .int 0, .float 0, .double 0]) (C := RX7) (T := TX7) (N := 17) hx hb hts inUX7 tyX7 tyX7_ok hown (hts _ u_274) (hts _ u_287) (hts _ u_133) hK hP hD hS hA rfl (by decide +kernel) (by rw [hR]; exact Nat.le_of_ble_eq_true rfl) (by rw [hR]; exact Nat.le_of_ble_eq_true rfl) dX5_init_106 (fun q14 H hP2 hD2 hS2 => ?_)
  refine W.widen (k := 194) (n := 1661) (by decide) (by decide) ?_
  clear hP hD hS
  have hP := hP2
  have hD := hD2
  have hS := hS2
  clear hP2 hD2 hS2
  refine lv_dup hx hb dX5_init_109 rfl ?_
  refine n_callN (rest := [.ref q14, .int 4, .ref q2]) (wr := ((h0, .inr (5, [.ref (ad1 0 ((b + 5)) 0), .ref q2, .ref (ad3 26 b 0), .int (-1), .int 0, .int (-1), .int 0, .int 0, .int 0, .ref q4, .ref q5, .ref q6, .int 0, .ref q7, .ref q8, .ref q9])) :: (q2, .inl (gC g 7, 5, .inr (.inr (.inr (.inr (va_up (va_up (va_up (va_up (fun _ => none) 0 (some (ad10 25 b 0))) 1 (some (ad11 25 b 0))) 2 (some (ad12 25 b 0))) 3 (some (ad13 25 b 0)))))))) :: (wsLw g (L_X7 b) ad13 ++ (wsLw g (L_X7 b) ad12 ++ (wsLw g (L_X7 b) ad11 ++ (wsLw g (L_X7 b) ad10 ++ (((((((([] ++ wsLw g (L_X0 ((b + 5))) ad1) ++ wsLw g (L_X4 b) ad3) ++ ((q4, .inl (gC g 5, 5, .inr (.inr (.inr (.inr (fun i => some (r4 i))))))) :: (List.range 5).map (fun i => (r4 i, .inl (gC g 0, 51, .inl (fun _ => 0)))))) ++ [(q5, .inl (gC g 0, 200, .inl (fun _ => 0)))]) ++ [(q6, .inl (gC g 0, 200, .inl (fun _ => 0)))]) ++ [(q7, .inl (gC g 0, 3, .inl (fun _ => 0)))]) ++ [(q8, .inl (gC g 1, 3, .inl (fun _ => 0)))]) ++ [(q9, .inl (gC g 1, 3, .inl (fun _ => 0)))]))))))) hx hb hml hown hts hK hCN hA hR hl hP hD hS (n_X7_init g l b q14 _) dX5_init_110 ⟨"WatchStack", by decide +kernel⟩ rfl u_288 mi_X7_init (by decide) (Nat.le_of_ble_eq_true rfl) (by decide) (by decide) (fun ad14 H locs hh hP2 hD2 hS2 => ?_)
  have hh2 : ad14 25 b 0 = q14 := Option.some.inj hh
  clear hh
  clear hP hD hS
  have hP : va_P (gD g) vwCl ((h0, .inr (5, [.ref (ad1 0 ((b + 5)) 0), .ref q2, .ref (ad3 26 b 0), .int (-1), .int 0, .int (-1), .int 0, .int 0, .int 0, .ref q4, .ref q5, .ref q6, .int 0, .ref q7, .ref q8, .ref q9])) :: (q2, .inl (gC g 7, 5, .inr (.inr (.inr (.inr (va_up (va_up (va_up (va_up (fun _ => none) 0 (some (ad10 25 b 0))) 1 (some (ad11 25 b 0))) 2 (some (ad12 25 b 0))) 3 (some (ad13 25 b 0)))))))) :: (wsLw g (L_X7 b) ad14 ++ (wsLw g (L_X7 b) ad13 ++ (wsLw g (L_X7 b) ad12 ++ (wsLw g (L_X7 b) ad11 ++ (wsLw g (L_X7 b) ad10 ++ (((((((([] ++ wsLw g (L_X0 ((b + 5))) ad1) ++ wsLw g (L_X4 b) ad3) ++ ((q4, .inl (gC g 5, 5, .inr (.inr (.inr (.inr (fun i => some (r4 i))))))) :: (List.range 5).map (fun i => (r4 i, .inl (gC g 0, 51, .inl (fun _ => 0)))))) ++ [(q5, .inl (gC g 0, 200, .inl (fun _ => 0)))]) ++ [(q6, .inl (gC g 0, 200, .inl (fun _ => 0)))]) ++ [(q7, .inl (gC g 0, 3, .inl (fun _ => 0)))]) ++ [(q8, .inl (gC g 1, 3, .inl (fun _ => 0)))]) ++ [(q9, .inl (gC g 1, 3, .inl (fun _ => 0)))]))))))) H := n_rot hP2
  have hD : va_D A ((h0, .inr (5, [.ref (ad1 0 ((b + 5)) 0), .ref q2, .ref (ad3 26 b 0), .int (-1), .int 0, .int (-1), .int 0, .int 0, .int 0, .ref q4, .ref q5, .ref q6, .int 0, .ref q7, .ref q8, .ref q9])) :: (q2, .inl (gC g 7, 5, .inr (.inr (.inr (.inr (va_up (va_up (va_up (va_up (fun _ => none) 0 (some (ad10 25 b 0))) 1 (some (ad11 25 b 0))) 2 (some (ad12 25 b 0))) 3 (some (ad13 25 b 0)))))))) :: (wsLw g (L_X7 b) ad14 ++ (wsLw g (L_X7 b) ad13 ++ (wsLw g (L_X7 b) ad12 ++ (wsLw g (L_X7 b) ad11 ++ (wsLw g (L_X7 b) ad10 ++ (((((((([] ++ wsLw g (L_X0 ((b + 5))) ad1) ++ wsLw g (L_X4 b) ad3) ++ ((q4, .inl (gC g 5, 5, .inr (.inr (.inr (.inr (fun i => some (r4 i))))))) :: (List.range 5).map (fun i => (r4 i, .inl (gC g 0, 51, .inl (fun _ => 0)))))) ++ [(q5, .inl (gC g 0, 200, .inl (fun _ => 0)))]) ++ [(q6, .inl (gC g 0, 200, .inl (fun _ => 0)))]) ++ [(q7, .inl (gC g 0, 3, .inl (fun _ => 0)))]) ++ [(q8, .inl (gC g 1, 3, .inl (fun _ => 0)))]) ++ [(q9, .inl (gC g 1, 3, .inl (fun _ => 0)))]))))))) := n_rotD hD2
  have hS := hS2
  clear hP2 hD2 hS2
  subst hh2
  refine W.widen (k := 194) (n := 1661) (by decide) (by decide) ?_
  refine va_astq (A := A) hx hb hK hP hD hS 1 7 2 7 rfl rfl rfl rfl (i := 4) (by unfold vp_in; decide) dX5_init_113 (fun H locs hP2 hD2 hS2 => ?_)
  clear hP hD hS
  have hP : va_P (gD g) vwCl ((h0, .inr (5, [.ref (ad1 0 ((b + 5)) 0), .ref q2, .ref (ad3 26 b 0), .int (-1), .int 0, .int (-1), .int 0, .int 0, .int 0, .ref q4, .ref q5, .ref q6, .int 0, .ref q7, .ref q8, .ref q9])) :: (q2, .inl (gC g 7, 5, .inr (.inr (.inr (.inr (va_up (va_up (va_up (va_up (va_up (fun _ => none) 0 (some (ad10 25 b 0))) 1 (some (ad11 25 b 0))) 2 (some (ad12 25 b 0))) 3 (some (ad13 25 b 0))) 4 (some (ad14 25 b 0)))))))) :: (wsLw g (L_X7 b) ad14 ++ (wsLw g (L_X7 b) ad13 ++ (wsLw g (L_X7 b) ad12 ++ (wsLw g (L_X7 b) ad11 ++ (wsLw g (L_X7 b) ad10 ++ (((((((([] ++ wsLw g (L_X0 ((b + 5))) ad1) ++ wsLw g (L_X4 b) ad3) ++ ((q4, .inl (gC g 5, 5, .inr (.inr (.inr (.inr (fun i => some (r4 i))))))) :: (List.range 5).map (fun i => (r4 i, .inl (gC g 0, 51, .inl (fun _ => 0)))))) ++ [(q5, .inl (gC g 0, 200, .inl (fun _ => 0)))]) ++ [(q6, .inl (gC g 0, 200, .inl (fun _ => 0)))]) ++ [(q7, .inl (gC g 0, 3, .inl (fun _ => 0)))]) ++ [(q8, .inl (gC g 1, 3, .inl (fun _ => 0)))]) ++ [(q9, .inl (gC g 1, 3, .inl (fun _ => 0)))]))))))) H := hP2
  have hD : va_D A ((h0, .inr (5, [.ref (ad1 0 ((b + 5)) 0), .ref q2, .ref (ad3 26 b 0), .int (-1), .int 0, .int (-1), .int 0, .int 0, .int 0, .ref q4, .ref q5, .ref q6, .int 0, .ref q7, .ref q8, .ref q9])) :: (q2, .inl (gC g 7, 5, .inr (.inr (.inr (.inr (va_up (va_up (va_up (va_up (va_up (fun _ => none) 0 (some (ad10 25 b 0))) 1 (some (ad11 25 b 0))) 2 (some (ad12 25 b 0))) 3 (some (ad13 25 b 0))) 4 (some (ad14 25 b 0)))))))) :: (wsLw g (L_X7 b) ad14 ++ (wsLw g (L_X7 b) ad13 ++ (wsLw g (L_X7 b) ad12 ++ (wsLw g (L_X7 b) ad11 ++ (wsLw g (L_X7 b) ad10 ++ (((((((([] ++ wsLw g (L_X0 ((b + 5))) ad1) ++ wsLw g (L_X4 b) ad3) ++ ((q4, .inl (gC g 5, 5, .inr (.inr (.inr (.inr (fun i => some (r4 i))))))) :: (List.range 5).map (fun i => (r4 i, .inl (gC g 0, 51, .inl (fun _ => 0)))))) ++ [(q5, .inl (gC g 0, 200, .inl (fun _ => 0)))]) ++ [(q6, .inl (gC g 0, 200, .inl (fun _ => 0)))]) ++ [(q7, .inl (gC g 0, 3, .inl (fun _ => 0)))]) ++ [(q8, .inl (gC g 1, 3, .inl (fun _ => 0)))]) ++ [(q9, .inl (gC g 1, 3, .inl (fun _ => 0)))]))))))) := hD2
  have hS := hS2
  clear hP2 hD2 hS2
  refine lv_iinc (k := 0) (v := 5) (lv' := [(1, .int 5), (0, .ref h0)]) hx hb dX5_init_114 hl rfl (by decide) (by decide) rfl (fun ls hl2 => ?_)
  clear hl
  have hl := hl2
  clear hl2
  refine lv_goto (tgt := 96) hx hb dX5_init_117 (by decide) ?_
  refine lv_iload_n hx hb dX5_init_96 rfl (lv_at hl 0 rfl) ?_
  refine lv_iconst (v := 5) hx hb dX5_init_97 (by decide) ?_
  refine lv_icmp_ge (tgt := 120) hx hb dX5_init_98 (by decide) (fun _ => ?_) (fun h => absurd (by decide) h)
  obtain ⟨AD, hAD⟩ : ∃ AD : Nat → Nat → Nat → Nat, AD = (fun κ b' i => if κ ≤ 12 then ad1 κ b' i else if κ = 24 then q2 else if 26 ≤ κ ∧ κ ≤ 28 then ad3 κ b' i else if κ = 29 then q4 else if κ = 30 then r4 i else if κ = 31 then q5 else if κ = 32 then q6 else if κ = 33 then q7 else if κ = 34 then q8 else if κ = 35 then q9 else if κ = 25 ∧ i = 0 then (ad10 25 b 0) else if κ = 25 ∧ i = 1 then (ad11 25 b 0) else if κ = 25 ∧ i = 2 then (ad12 25 b 0) else if κ = 25 ∧ i = 3 then (ad13 25 b 0) else if κ = 25 ∧ i = 4 then (ad14 25 b 0) else if κ = 23 then h0 else 0) := ⟨_, rfl⟩
  have hP := n_refs (f' := (fun j => some (AD 25 b j))) (fun j hj => by
    subst hAD
    rcases (by omega : j = 0 ∨ j = 1 ∨ j = 2 ∨ j = 3 ∨ j = 4) with rfl | rfl | rfl | rfl | rfl <;> rfl) hP
  have hD := n_refsD (f' := (fun j => some (AD 25 b j))) hD
  have e : wsLw g (L_X5 b) AD = ((h0, .inr (5, [.ref (ad1 0 ((b + 5)) 0), .ref q2, .ref (ad3 26 b 0), .int (-1), .int 0, .int (-1), .int 0, .int 0, .int 0, .ref q4, .ref q5, .ref q6, .int 0, .ref q7, .ref q8, .ref q9])) :: (q2, .inl (gC g 7, 5, .inr (.inr (.inr (.inr (fun j => some (AD 25 b j))))))) :: (wsLw g (L_X7 b) ad14 ++ (wsLw g (L_X7 b) ad13 ++ (wsLw g (L_X7 b) ad12 ++ (wsLw g (L_X7 b) ad11 ++ (wsLw g (L_X7 b) ad10 ++ (((((((([] ++ wsLw g (L_X0 ((b + 5))) ad1) ++ wsLw g (L_X4 b) ad3) ++ ((q4, .inl (gC g 5, 5, .inr (.inr (.inr (.inr (fun i => some (r4 i))))))) :: (List.range 5).map (fun i => (r4 i, .inl (gC g 0, 51, .inl (fun _ => 0)))))) ++ [(q5, .inl (gC g 0, 200, .inl (fun _ => 0)))]) ++ [(q6, .inl (gC g 0, 200, .inl (fun _ => 0)))]) ++ [(q7, .inl (gC g 0, 3, .inl (fun _ => 0)))]) ++ [(q8, .inl (gC g 1, 3, .inl (fun _ => 0)))]) ++ [(q9, .inl (gC g 1, 3, .inl (fun _ => 0)))]))))))) := by
    have g0 : wsLw g (L_X0 ((b + 5))) AD = wsLw g (L_X0 ((b + 5))) ad1 := cg_X0 ((b + 5)) (fun κ i h8 h9 => by
      rw [hAD]
      exact if_pos (by omega))
    have g1 : wsLw g (L_X4 b) AD = wsLw g (L_X4 b) ad3 := cg_X4 b (fun κ i h8 h9 => by
      rw [hAD]
      exact (if_neg (by omega)).trans ((if_neg (by omega)).trans (if_pos (by omega))))
    unfold L_X5
    simp only [wsLw_cons, wsLw_app, wsLw_nil]
    rw [g0, g1]
    subst hAD
    rfl
  rw [← e] at hP hD
  exact W.vret hx hb hr (fun t ht hW => ⟨rfl, ⟨AD, by rw [ht]; exact hP, hD, by rw [hAD]; rfl⟩, hS.F ht⟩) hS.2.2 dX5_init_120 hlk
theorem cg_X5 {g : Gw} (b : Nat) {ad ad' : Nat → Nat → Nat → Nat} (h : ∀ κ b' i, ((23 ≤ κ ∧ κ ≤ 35 ∧ b' = b) ∨ (κ ≤ 12 ∧ b' = b + 5)) → ad κ b' i = ad' κ b' i) : wsLw g (L_X5 b) ad = wsLw g (L_X5 b) ad' := by
  have h23 := fun i => h 23 b i (by omega)
  have c1 : cellW (gLw g ad) M0w 23 b 0 = cellW (gLw g ad') M0w 23 b 0 := cw_23 (h 0 (b + 5) 0 (by omega)) (h 24 b 0 (by omega)) (h 26 b 0 (by omega)) (h 29 b 0 (by omega)) (h 31 b 0 (by omega)) (h 32 b 0 (by omega)) (h 33 b 0 (by omega)) (h 34 b 0 (by omega)) (h 35 b 0 (by omega))
  have h24 := fun i => h 24 b i (by omega)
  have c2 : cellW (gLw g ad) M0w 24 b 0 = cellW (gLw g ad') M0w 24 b 0 := cw_24 (fun j => h 25 b j (by omega))
  have h25 := fun i => h 25 b i (by omega)
  have c3 : cellW (gLw g ad) M0w 25 b 4 = cellW (gLw g ad') M0w 25 b 4 := rfl
  have c4 : cellW (gLw g ad) M0w 25 b 3 = cellW (gLw g ad') M0w 25 b 3 := rfl
  have c5 : cellW (gLw g ad) M0w 25 b 2 = cellW (gLw g ad') M0w 25 b 2 := rfl
  have c6 : cellW (gLw g ad) M0w 25 b 1 = cellW (gLw g ad') M0w 25 b 1 := rfl
  have c7 : cellW (gLw g ad) M0w 25 b 0 = cellW (gLw g ad') M0w 25 b 0 := rfl
  have hC8 : wsLw g (L_X0 ((b + 5))) ad = wsLw g (L_X0 ((b + 5))) ad' := cg_X0 ((b + 5)) (fun κ i h8 h9 => h κ ((b + 5)) i (by omega))
  have hC9 : wsLw g (L_X4 b) ad = wsLw g (L_X4 b) ad' := cg_X4 b (fun κ i h8 h9 => h κ b i (by omega))
  have h29 := fun i => h 29 b i (by omega)
  have c10 : cellW (gLw g ad) M0w 29 b 0 = cellW (gLw g ad') M0w 29 b 0 := cw_29 (fun j => h 30 b j (by omega))
  have h30 := fun i => h 30 b i (by omega)
  have r11 : wsLw g ((List.range 5).map (fun i => (30, b, i))) ad = wsLw g ((List.range 5).map (fun i => (30, b, i))) ad' := wsLw_rg h30 (fun i => rfl)
  have h31 := fun i => h 31 b i (by omega)
  have c12 : cellW (gLw g ad) M0w 31 b 0 = cellW (gLw g ad') M0w 31 b 0 := rfl
  have h32 := fun i => h 32 b i (by omega)
  have c13 : cellW (gLw g ad) M0w 32 b 0 = cellW (gLw g ad') M0w 32 b 0 := rfl
  have h33 := fun i => h 33 b i (by omega)
  have c14 : cellW (gLw g ad) M0w 33 b 0 = cellW (gLw g ad') M0w 33 b 0 := rfl
  have h34 := fun i => h 34 b i (by omega)
  have c15 : cellW (gLw g ad) M0w 34 b 0 = cellW (gLw g ad') M0w 34 b 0 := rfl
  have h35 := fun i => h 35 b i (by omega)
  have c16 : cellW (gLw g ad) M0w 35 b 0 = cellW (gLw g ad') M0w 35 b 0 := rfl
  unfold L_X5
  simp only [wsLw_cons, wsLw_app, wsLw_nil]
  rw [h23 0, c1, h24 0, c2, h25 4, c3, h25 3, c4, h25 2, c5, h25 1, c6, h25 0, c7, hC8, hC9, h29 0, c10, r11, h31 0, c12, h32 0, c13, h33 0, c14, h34 0, c15, h35 0, c16]
