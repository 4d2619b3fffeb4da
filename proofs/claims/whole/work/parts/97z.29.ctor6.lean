def L_X8 : List (Nat × Nat × Nat) := (36, 0, 0) :: ((([] ++ ((37, 0, 0) :: (List.range 5).map (fun i => (38, 0, i)))) ++ ((39, 0, 0) :: (List.range 5).map (fun i => (40, 0, i)))) ++ (L_X5 2))
set_option maxRecDepth 100000 in
set_option maxHeartbeats 8000000 in
theorem n_X8_init (g : Gw) (l : Launch) (h0 sz : Nat) : NMet g l yX8_init cX8_init 1 3 207 1737 h0 8 [.null, .null, .null] sz (wsLw g (L_X8)) := by
  refine NMet.of (own := RX8) (by decide +kernel) rfl rfl (by decide) ?_
  intro p e R s m args below meth c A hx hb hml hown hts hK hCN hA hR hlk hr hnm H ls hP hD hS hl
  refine lv_aload_n hx hb dX8_init_0 rfl (lv_at hl 0 rfl) ?_
  refine W.objInit hx hb hown (hts _ u_355) (hts _ u_151) (hts _ u_152) rfl (by rw [hml]; exact hl.1) rfl dX8_init_1 (by rw [hR]; exact Nat.le_of_ble_eq_true rfl) (by rw [hR]; exact Nat.le_of_ble_eq_true rfl) ?_
  refine W.eq (g2 := F0 m 4 ls []) rfl ?_
  refine lv_aload_n hx hb dX8_init_4 rfl (lv_at hl 0 rfl) ?_
  refine lv_iconst (v := 5) hx hb dX8_init_5 (by decide) ?_
  refine lv_iconst (v := 5) hx hb dX8_init_6 (by decide) ?_
  refine n_mna (N := 5) (K := 5) hx hb hown hts hK hCN hA hP hD hS dX8_init_7 u_356 u_173 (by decide) (by decide) (by decide) (by decide) (by decide) (by decide) (by rw [hR]; exact Nat.le_of_ble_eq_true rfl) (by rw [hR]; exact Nat.le_of_ble_eq_true rfl) (fun q1 r1 H hP2 hD2 hS2 => ?_)
  clear hP hD hS
  have hP : va_P (gD g) vwCl ((h0, .inr (8, [.null, .null, .null])) :: ([] ++ ((q1, .inl (gC g 5, 5, .inr (.inr (.inr (.inr (fun i => some (r1 i))))))) :: (List.range 5).map (fun i => (r1 i, .inl (gC g 0, 5, .inl (fun _ => 0))))))) H := hP2
  have hD : va_D A ((h0, .inr (8, [.null, .null, .null])) :: ([] ++ ((q1, .inl (gC g 5, 5, .inr (.inr (.inr (.inr (fun i => some (r1 i))))))) :: (List.range 5).map (fun i => (r1 i, .inl (gC g 0, 5, .inl (fun _ => 0))))))) := hD2
  have hS := hS2
  clear hP2 hD2 hS2
  refine W.widen (k := 6) (n := 30) (by decide) (by decide) ?_
  refine va_putF (D := gD g) (ci := 8) (v := .ref q1) (ty := (.array (.array .int))) (C := RX8) (T := TX8) (N := 3) hx hb hts inUX8 tyX8 tyX8_ok nmX8 hown hK hP hD hS 0 rfl rfl 0 (by decide) (hts _ u_359) (fun _ h9 => h9) rfl hnm rfl (by decide +kernel) rfl rfl (Nat.le_of_ble_eq_true rfl) dX8_init_11 (fun H locs hP2 hD2 hS2 => ?_)
  clear hP hD hS
  have hP : va_P (gD g) vwCl ((h0, .inr (8, [.ref q1, .null, .null])) :: ([] ++ ((q1, .inl (gC g 5, 5, .inr (.inr (.inr (.inr (fun i => some (r1 i))))))) :: (List.range 5).map (fun i => (r1 i, .inl (gC g 0, 5, .inl (fun _ => 0))))))) H := hP2
  have hD : va_D A ((h0, .inr (8, [.ref q1, .null, .null])) :: ([] ++ ((q1, .inl (gC g 5, 5, .inr (.inr (.inr (.inr (fun i => some (r1 i))))))) :: (List.range 5).map (fun i => (r1 i, .inl (gC g 0, 5, .inl (fun _ => 0))))))) := hD2
  have hS := hS2
  clear hP2 hD2 hS2
  refine lv_aload_n hx hb dX8_init_14 rfl (lv_at hl 0 rfl) ?_
  refine lv_iconst (v := 5) hx hb dX8_init_15 (by decide) ?_
  refine lv_iconst (v := 5) hx hb dX8_init_16 (by decide) ?_
  refine n_mna (N := 5) (K := 5) hx hb hown hts hK hCN hA hP hD hS dX8_init_17 u_356 u_173 (by decide) (by decide) (by decide) (by decide) (by decide) (by decide) (by rw [hR]; exact Nat.le_of_ble_eq_true rfl) (by rw [hR]; exact Nat.le_of_ble_eq_true rfl) (fun q2 r2 H hP2 hD2 hS2 => ?_)
  clear hP hD hS
  have hP : va_P (gD g) vwCl ((h0, .inr (8, [.ref q1, .null, .null])) :: (([] ++ ((q1, .inl (gC g 5, 5, .inr (.inr (.inr (.inr (fun i => some (r1 i))))))) :: (List.range 5).map (fun i => (r1 i, .inl (gC g 0, 5, .inl (fun _ => 0)))))) ++ ((q2, .inl (gC g 5, 5, .inr (.inr (.inr (.inr (fun i => some (r2 i))))))) :: (List.range 5).map (fun i => (r2 i, .inl (gC g 0, 5, .inl (fun _ => 0))))))) H := hP2
  have hD : va_D A ((h0, .inr (8, [.ref q1, .null, .null])) :: (([] ++ ((q1, .inl (gC g 5, 5, .inr (.inr (.inr (.inr (fun i => some (r1 i))))))) :: (List.range 5).map (fun i => (r1 i, .inl (gC g 0, 5, .inl (fun _ => 0)))))) ++ ((q2, .inl (gC g 5, 5, .inr (.inr (.inr (.inr (fun i => some (r2 i))))))) :: (List.range 5).map (fun i => (r2 i, .inl (gC g 0, 5, .inl (fun _ => 0))))))) := hD2
  have hS := hS2
  clear hP2 hD2 hS2
  refine W.widen (k := 12) (n := 60) (by decide) (by decide) ?_
  refine va_putF (D := gD g) (ci := 8) (v := .ref q2) (ty := (.array (.array .int))) (C := RX8) (T := TX8) (N := 3) hx hb hts inUX8 tyX8 tyX8_ok nmX8 hown hK hP hD hS 0 rfl rfl 1 (by decide) (hts _ u_361) (fun _ h9 => h9) rfl hnm rfl (by decide +kernel) rfl rfl (Nat.le_of_ble_eq_true rfl) dX8_init_21 (fun H locs hP2 hD2 hS2 => ?_)
  clear hP hD hS
  have hP : va_P (gD g) vwCl ((h0, .inr (8, [.ref q1, .ref q2, .null])) :: (([] ++ ((q1, .inl (gC g 5, 5, .inr (.inr (.inr (.inr (fun i => some (r1 i))))))) :: (List.range 5).map (fun i => (r1 i, .inl (gC g 0, 5, .inl (fun _ => 0)))))) ++ ((q2, .inl (gC g 5, 5, .inr (.inr (.inr (.inr (fun i => some (r2 i))))))) :: (List.range 5).map (fun i => (r2 i, .inl (gC g 0, 5, .inl (fun _ => 0))))))) H := hP2
  have hD : va_D A ((h0, .inr (8, [.ref q1, .ref q2, .null])) :: (([] ++ ((q1, .inl (gC g 5, 5, .inr (.inr (.inr (.inr (fun i => some (r1 i))))))) :: (List.range 5).map (fun i => (r1 i, .inl (gC g 0, 5, .inl (fun _ => 0)))))) ++ ((q2, .inl (gC g 5, 5, .inr (.inr (.inr (.inr (fun i => some (r2 i))))))) :: (List.range 5).map (fun i => (r2 i, .inl (gC g 0, 5, .inl (fun _ => 0))))))) := hD2
  have hS := hS2
  clear hP2 hD2 hS2
  refine lv_aload_n hx hb dX8_init_24 rfl (lv_at hl 0 rfl) ?_
  refine va_new (ci := 5) (fs := [.null, .null, .null, .int 0, .int 0, .int 0, .int 0, .int 0, .int 0, .null, .null, .null, .int 0, .null, .null, .null]) (C := RX5) (T := TX5) (N := 16) hx hb hts inUX5 tyX5 tyX5_ok hown (hts _ u_357) (hts _ u_268) (hts _ u_131) hK hP hD hS hA rfl (by decide +kernel) (by rw [hR]; exact Nat.le_of_ble_eq_true rfl) (by rw [hR]; exact Nat.le_of_ble_eq_true rfl) dX8_init_25 (fun q3 H hP2 hD2 hS2 => ?_)
  refine W.widen (k := 13) (n := 76) (by decide) (by decide) ?_
  clear hP hD hS
  have hP := hP2
  have hD := hD2
  have hS := hS2
  clear hP2 hD2 hS2
  refine lv_dup hx hb dX8_init_28 rfl ?_
  refine n_callI (rest := [.ref q3, .ref h0]) (wr := ((h0, .inr (8, [.ref q1, .ref q2, .null])) :: (([] ++ ((q1, .inl (gC g 5, 5, .inr (.inr (.inr (.inr (fun i => some (r1 i))))))) :: (List.range 5).map (fun i => (r1 i, .inl (gC g 0, 5, .inl (fun _ => 0)))))) ++ ((q2, .inl (gC g 5, 5, .inr (.inr (.inr (.inr (fun i => some (r2 i))))))) :: (List.range 5).map (fun i => (r2 i, .inl (gC g 0, 5, .inl (fun _ => 0)))))))) hx hb hml hown hts hK hCN hA hR hl hP hD hS (n_X5_init g l 2 q3 _) dX8_init_29 u_358 rfl u_270 mi_X5_init (by decide) (Nat.le_of_ble_eq_true rfl) (by decide) (by decide) (fun ad3 H locs hh hP2 hD2 hS2 => ?_)
  have hh2 : ad3 23 2 0 = q3 := Option.some.inj hh
  clear hh
  clear hP hD hS
  have hP : va_P (gD g) vwCl ((h0, .inr (8, [.ref q1, .ref q2, .null])) :: ((([] ++ ((q1, .inl (gC g 5, 5, .inr (.inr (.inr (.inr (fun i => some (r1 i))))))) :: (List.range 5).map (fun i => (r1 i, .inl (gC g 0, 5, .inl (fun _ => 0)))))) ++ ((q2, .inl (gC g 5, 5, .inr (.inr (.inr (.inr (fun i => some (r2 i))))))) :: (List.range 5).map (fun i => (r2 i, .inl (gC g 0, 5, .inl (fun _ => 0)))))) ++ wsLw g (L_X5 2) ad3)) H := hP2
  have hD : va_D A ((h0, .inr (8, [.ref q1, .ref q2, .null])) :: ((([] ++ ((q1, .inl (gC g 5, 5, .inr (.inr (.inr (.inr (fun i => some (r1 i))))))) :: (List.range 5).map (fun i => (r1 i, .inl (gC g 0, 5, .inl (fun _ => 0)))))) ++ ((q2, .inl (gC g 5, 5, .inr (.inr (.inr (.inr (fun i => some (r2 i))))))) :: (List.range 5).map (fun i => (r2 i, .inl (gC g 0, 5, .inl (fun _ => 0)))))) ++ wsLw g (L_X5 2) ad3)) := hD2
  have hS := hS2
  clear hP2 hD2 hS2
  subst hh2
  refine W.widen (k := 207) (n := 1737) (by decide) (by decide) ?_
  refine va_putF (D := gD g) (ci := 8) (v := .ref (ad3 23 2 0)) (ty := (.object "WatchStack$Run")) (C := RX8) (T := TX8) (N := 3) hx hb hts inUX8 tyX8 tyX8_ok nmX8 hown hK hP hD hS 0 rfl rfl 2 (by decide) (hts _ u_363) (fun _ h9 => h9) rfl hnm rfl (by decide +kernel) rfl rfl (Nat.le_of_ble_eq_true rfl) dX8_init_32 (fun H locs hP2 hD2 hS2 => ?_)
  clear hP hD hS
  have hP : va_P (gD g) vwCl ((h0, .inr (8, [.ref q1, .ref q2, .ref (ad3 23 2 0)])) :: ((([] ++ ((q1, .inl (gC g 5, 5, .inr (.inr (.inr (.inr (fun i => some (r1 i))))))) :: (List.range 5).map (fun i => (r1 i, .inl (gC g 0, 5, .inl (fun _ => 0)))))) ++ ((q2, .inl (gC g 5, 5, .inr (.inr (.inr (.inr (fun i => some (r2 i))))))) :: (List.range 5).map (fun i => (r2 i, .inl (gC g 0, 5, .inl (fun _ => 0)))))) ++ wsLw g (L_X5 2) ad3)) H := hP2
  have hD : va_D A ((h0, .inr (8, [.ref q1, .ref q2, .ref (ad3 23 2 0)])) :: ((([] ++ ((q1, .inl (gC g 5, 5, .inr (.inr (.inr (.inr (fun i => some (r1 i))))))) :: (List.range 5).map (fun i => (r1 i, .inl (gC g 0, 5, .inl (fun _ => 0)))))) ++ ((q2, .inl (gC g 5, 5, .inr (.inr (.inr (.inr (fun i => some (r2 i))))))) :: (List.range 5).map (fun i => (r2 i, .inl (gC g 0, 5, .inl (fun _ => 0)))))) ++ wsLw g (L_X5 2) ad3)) := hD2
  have hS := hS2
  clear hP2 hD2 hS2
  obtain ⟨AD, hAD⟩ : ∃ AD : Nat → Nat → Nat → Nat, AD = (fun κ b' i => if κ = 37 then q1 else if κ = 38 then r1 i else if κ = 39 then q2 else if κ = 40 then r2 i else if (23 ≤ κ ∧ κ ≤ 35) ∨ κ ≤ 12 then ad3 κ b' i else if κ = 36 then h0 else 0) := ⟨_, rfl⟩
  have e : wsLw g (L_X8) AD = ((h0, .inr (8, [.ref q1, .ref q2, .ref (ad3 23 2 0)])) :: ((([] ++ ((q1, .inl (gC g 5, 5, .inr (.inr (.inr (.inr (fun i => some (r1 i))))))) :: (List.range 5).map (fun i => (r1 i, .inl (gC g 0, 5, .inl (fun _ => 0)))))) ++ ((q2, .inl (gC g 5, 5, .inr (.inr (.inr (.inr (fun i => some (r2 i))))))) :: (List.range 5).map (fun i => (r2 i, .inl (gC g 0, 5, .inl (fun _ => 0)))))) ++ wsLw g (L_X5 2) ad3)) := by
    have g0 : wsLw g (L_X5 2) AD = wsLw g (L_X5 2) ad3 := cg_X5 2 (fun κ b' i h9 => by
      rw [hAD]
      exact (if_neg (by omega)).trans ((if_neg (by omega)).trans ((if_neg (by omega)).trans ((if_neg (by omega)).trans (if_pos (by omega))))))
    unfold L_X8
    simp only [wsLw_cons, wsLw_app, wsLw_nil]
    rw [g0]
    subst hAD
    rfl
  rw [← e] at hP hD
  exact W.vret hx hb hr (fun t ht hW => ⟨rfl, ⟨AD, by rw [ht]; exact hP, hD, by rw [hAD]; rfl⟩, hS.F ht⟩) hS.2.2 dX8_init_35 hlk
theorem cg_X8 {g : Gw} {ad ad' : Nat → Nat → Nat → Nat} (h : ∀ κ b' i, ((36 ≤ κ ∧ κ ≤ 40 ∧ b' = 0) ∨ (23 ≤ κ ∧ κ ≤ 35 ∧ b' = 2) ∨ (κ ≤ 12 ∧ b' = 7)) → ad κ b' i = ad' κ b' i) : wsLw g (L_X8) ad = wsLw g (L_X8) ad' := by
  have h36 := fun i => h 36 0 i (by omega)
  have c1 : cellW (gLw g ad) M0w 36 0 0 = cellW (gLw g ad') M0w 36 0 0 := cw_36 (h 37 0 0 (by omega)) (h 39 0 0 (by omega)) (h 23 2 0 (by omega))
  have h37 := fun i => h 37 0 i (by omega)
  have c2 : cellW (gLw g ad) M0w 37 0 0 = cellW (gLw g ad') M0w 37 0 0 := cw_37 (fun j => h 38 0 j (by omega))
  have h38 := fun i => h 38 0 i (by omega)
  have r3 : wsLw g ((List.range 5).map (fun i => (38, 0, i))) ad = wsLw g ((List.range 5).map (fun i => (38, 0, i))) ad' := wsLw_rg h38 (fun i => rfl)
  have h39 := fun i => h 39 0 i (by omega)
  have c4 : cellW (gLw g ad) M0w 39 0 0 = cellW (gLw g ad') M0w 39 0 0 := cw_39 (fun j => h 40 0 j (by omega))
  have h40 := fun i => h 40 0 i (by omega)
  have r5 : wsLw g ((List.range 5).map (fun i => (40, 0, i))) ad = wsLw g ((List.range 5).map (fun i => (40, 0, i))) ad' := wsLw_rg h40 (fun i => rfl)
  have hC6 : wsLw g (L_X5 2) ad = wsLw g (L_X5 2) ad' := cg_X5 2 (fun κ b' i h9 => h κ b' i (by omega))
  unfold L_X8
  simp only [wsLw_cons, wsLw_app, wsLw_nil]
  rw [h36 0, c1, h37 0, c2, r3, h39 0, c4, r5, hC6]
def L_X9 : List (Nat × Nat × Nat) := (41, 0, 0) :: (42, 0, 0) :: (L_X0 4 ++ (L_X0 3 ++ (L_X0 2 ++ (((((((([] ++ (L_X1)) ++ (L_X0 1)) ++ [(43, 0, 0)]) ++ (L_X2)) ++ (L_X3)) ++ (L_X5 0)) ++ (L_X5 1)) ++ (L_X8)))))
set_option maxRecDepth 100000 in
set_option maxHeartbeats 8000000 in
theorem n_X9_init (g : Gw) (l : Launch) (h0 sz : Nat) : NMet g l yX9_init cX9_init 2 4 850 7881 h0 9 [.null, .null, .null, .null, .null, .null, .null, .null, .null] sz (wsLw g (L_X9)) := by
  refine NMet.of (own := RX9) (by decide +kernel) rfl rfl (by decide) ?_
  intro p e R s m args below meth c A hx hb hml hown hts hK hCN hA hR hlk hr hnm H ls hP hD hS hl
  refine lv_aload_n hx hb dX9_init_0 rfl (lv_at hl 0 rfl) ?_
  refine W.objInit hx hb hown (hts _ u_150) (hts _ u_151) (hts _ u_152) rfl (by rw [hml]; exact hl.1) rfl dX9_init_1 (by rw [hR]; exact Nat.le_of_ble_eq_true rfl) (by rw [hR]; exact Nat.le_of_ble_eq_true rfl) ?_
  refine W.eq (g2 := F0 m 4 ls []) rfl ?_
  refine lv_aload_n hx hb dX9_init_4 rfl (lv_at hl 0 rfl) ?_
  refine va_new (ci := 1) (fs := [.null, .null, .int 0, .int 0, .null]) (C := RX1) (T := TX1) (N := 5) hx hb hts inUX1 tyX1 tyX1_ok hown (hts _ u_153) (hts _ u_154) (hts _ u_126) hK hP hD hS hA rfl (by decide +kernel) (by rw [hR]; exact Nat.le_of_ble_eq_true rfl) (by rw [hR]; exact Nat.le_of_ble_eq_true rfl) dX9_init_5 (fun q1 H hP2 hD2 hS2 => ?_)
  refine W.widen (k := 1) (n := 5) (by decide) (by decide) ?_
  clear hP hD hS
  have hP := hP2
  have hD := hD2
  have hS := hS2
  clear hP2 hD2 hS2
  refine lv_dup hx hb dX9_init_8 rfl ?_
  refine n_callN (rest := [.ref q1, .ref h0]) (wr := ((h0, .inr (9, [.null, .null, .null, .null, .null, .null, .null, .null, .null])) :: [])) hx hb hml hown hts hK hCN hA hR hl hP hD hS (n_X1_init g l q1 _) dX9_init_9 ⟨"WatchStack", by decide +kernel⟩ rfl u_155 mi_X1_init (by decide) (Nat.le_of_ble_eq_true rfl) (by decide) (by decide) (fun ad1 H locs hh hP2 hD2 hS2 => ?_)
  have hh2 : ad1 13 0 0 = q1 := Option.some.inj hh
  clear hh
  clear hP hD hS
  have hP : va_P (gD g) vwCl ((h0, .inr (9, [.null, .null, .null, .null, .null, .null, .null, .null, .null])) :: ([] ++ wsLw g (L_X1) ad1)) H := hP2
  have hD : va_D A ((h0, .inr (9, [.null, .null, .null, .null, .null, .null, .null, .null, .null])) :: ([] ++ wsLw g (L_X1) ad1)) := hD2
  have hS := hS2
  clear hP2 hD2 hS2
  subst hh2
  refine W.widen (k := 51) (n := 1277) (by decide) (by decide) ?_
  refine va_putF (D := gD g) (ci := 9) (v := .ref (ad1 13 0 0)) (ty := (.object "WatchStack$BoardReader")) (C := RX9) (T := TX9) (N := 9) hx hb hts inUX9 tyX9 tyX9_ok nmX9 hown hK hP hD hS 0 rfl rfl 0 (by decide) (hts _ u_364) (fun _ h9 => h9) rfl hnm rfl (by decide +kernel) rfl rfl (Nat.le_of_ble_eq_true rfl) dX9_init_12 (fun H locs hP2 hD2 hS2 => ?_)
  clear hP hD hS
  have hP : va_P (gD g) vwCl ((h0, .inr (9, [.ref (ad1 13 0 0), .null, .null, .null, .null, .null, .null, .null, .null])) :: ([] ++ wsLw g (L_X1) ad1)) H := hP2
  have hD : va_D A ((h0, .inr (9, [.ref (ad1 13 0 0), .null, .null, .null, .null, .null, .null, .null, .null])) :: ([] ++ wsLw g (L_X1) ad1)) := hD2
  have hS := hS2
  clear hP2 hD2 hS2
  refine lv_aload_n hx hb dX9_init_15 rfl (lv_at hl 0 rfl) ?_
  refine va_new (ci := 0) (fs := [.int 0, .int 0, .int 0, .int 0, .int 0, .int 0, .int 0, .int 0, .null, .null, .null, .null, .null, .null, .null]) (C := RX0) (T := TX0) (N := 15) hx hb hts inUX0 tyX0 tyX0_ok hown (hts _ u_248) (hts _ u_175) (hts _ u_128) hK hP hD hS hA rfl (by decide +kernel) (by rw [hR]; exact Nat.le_of_ble_eq_true rfl) (by rw [hR]; exact Nat.le_of_ble_eq_true rfl) dX9_init_16 (fun q2 H hP2 hD2 hS2 => ?_)
  refine W.widen (k := 52) (n := 1292) (by decide) (by decide) ?_
  clear hP hD hS
  have hP := hP2
  have hD := hD2
  have hS := hS2
  clear hP2 hD2 hS2
  refine lv_dup hx hb dX9_init_19 rfl ?_
  refine n_callN (rest := [.ref q2, .ref h0]) (wr := ((h0, .inr (9, [.ref (ad1 13 0 0), .null, .null, .null, .null, .null, .null, .null, .null])) :: ([] ++ wsLw g (L_X1) ad1))) hx hb hml hown hts hK hCN hA hR hl hP hD hS (n_X0_init g l 1 q2 _) dX9_init_20 ⟨"WatchStack", by decide +kernel⟩ rfl u_176 mi_X0_init (by decide) (Nat.le_of_ble_eq_true rfl) (by decide) (by decide) (fun ad2 H locs hh hP2 hD2 hS2 => ?_)
  have hh2 : ad2 0 1 0 = q2 := Option.some.inj hh
  clear hh
  clear hP hD hS
  have hP : va_P (gD g) vwCl ((h0, .inr (9, [.ref (ad1 13 0 0), .null, .null, .null, .null, .null, .null, .null, .null])) :: (([] ++ wsLw g (L_X1) ad1) ++ wsLw g (L_X0 1) ad2)) H := hP2
  have hD : va_D A ((h0, .inr (9, [.ref (ad1 13 0 0), .null, .null, .null, .null, .null, .null, .null, .null])) :: (([] ++ wsLw g (L_X1) ad1) ++ wsLw g (L_X0 1) ad2)) := hD2
  have hS := hS2
  clear hP2 hD2 hS2
  subst hh2
  refine W.widen (k := 98) (n := 1537) (by decide) (by decide) ?_
  refine va_putF (D := gD g) (ci := 9) (v := .ref (ad2 0 1 0)) (ty := (.object "WatchStack$Board")) (C := RX9) (T := TX9) (N := 9) hx hb hts inUX9 tyX9 tyX9_ok nmX9 hown hK hP hD hS 0 rfl rfl 1 (by decide) (hts _ u_365) (fun _ h9 => h9) rfl hnm rfl (by decide +kernel) rfl rfl (Nat.le_of_ble_eq_true rfl) dX9_init_23 (fun H locs hP2 hD2 hS2 => ?_)
  clear hP hD hS
  have hP : va_P (gD g) vwCl ((h0, .inr (9, [.ref (ad1 13 0 0), .ref (ad2 0 1 0), .null, .null, .null, .null, .null, .null, .null])) :: (([] ++ wsLw g (L_X1) ad1) ++ wsLw g (L_X0 1) ad2)) H := hP2
  have hD : va_D A ((h0, .inr (9, [.ref (ad1 13 0 0), .ref (ad2 0 1 0), .null, .null, .null, .null, .null, .null, .null])) :: (([] ++ wsLw g (L_X1) ad1) ++ wsLw g (L_X0 1) ad2)) := hD2
  have hS := hS2
  clear hP2 hD2 hS2
  refine lv_aload_n hx hb dX9_init_26 rfl (lv_at hl 0 rfl) ?_
  refine lv_iconst (v := 3) hx hb dX9_init_27 (by decide) ?_
  refine va_newq (C := "WatchStack$Board") (N' := 3) hx hb hown (hts _ u_248) hCN.2.1 hK hP hD hS hA (by decide) (by decide) (by decide) (by rw [hR]; exact Nat.le_of_ble_eq_true rfl) (by rw [hR]; exact Nat.le_of_ble_eq_true rfl) dX9_init_28 (fun q3 cA H hK1 hP2 hD2 hS2 => ?_)
  obtain rfl := ca_6 hK hK1
  clear hK1
  clear hP hD hS
  have hP : va_P (gD g) vwCl ((h0, .inr (9, [.ref (ad1 13 0 0), .ref (ad2 0 1 0), .null, .null, .null, .null, .null, .null, .null])) :: (q3, .inl (gC g 6, 3, .inr (.inr (.inr (.inr (fun _ => none)))))) :: (([] ++ wsLw g (L_X1) ad1) ++ wsLw g (L_X0 1) ad2)) H := n_turn hP2
  have hD : va_D A ((h0, .inr (9, [.ref (ad1 13 0 0), .ref (ad2 0 1 0), .null, .null, .null, .null, .null, .null, .null])) :: (q3, .inl (gC g 6, 3, .inr (.inr (.inr (.inr (fun _ => none)))))) :: (([] ++ wsLw g (L_X1) ad1) ++ wsLw g (L_X0 1) ad2)) := n_turnD hD2
  have hS := hS2
  clear hP2 hD2 hS2
  refine W.widen (k := 99) (n := 1540) (by decide) (by decide) ?_
  refine va_putF (D := gD g) (ci := 9) (v := .ref q3) (ty := (.array (.object "WatchStack$Board"))) (C := RX9) (T := TX9) (N := 9) hx hb hts inUX9 tyX9 tyX9_ok nmX9 hown hK hP hD hS 0 rfl rfl 2 (by decide) (hts _ u_366) (fun _ h9 => h9) rfl hnm rfl (by decide +kernel) rfl rfl (Nat.le_of_ble_eq_true rfl) dX9_init_31 (fun H locs hP2 hD2 hS2 => ?_)
  clear hP hD hS
  have hP : va_P (gD g) vwCl ((h0, .inr (9, [.ref (ad1 13 0 0), .ref (ad2 0 1 0), .ref q3, .null, .null, .null, .null, .null, .null])) :: (q3, .inl (gC g 6, 3, .inr (.inr (.inr (.inr (fun _ => none)))))) :: (([] ++ wsLw g (L_X1) ad1) ++ wsLw g (L_X0 1) ad2)) H := hP2
  have hD : va_D A ((h0, .inr (9, [.ref (ad1 13 0 0), .ref (ad2 0 1 0), .ref q3, .null, .null, .null, .null, .null, .null])) :: (q3, .inl (gC g 6, 3, .inr (.inr (.inr (.inr (fun _ => none)))))) :: (([] ++ wsLw g (L_X1) ad1) ++ wsLw g (L_X0 1) ad2)) := hD2
  have hS := hS2
  clear hP2 hD2 hS2
  refine lv_aload_n hx hb dX9_init_34 rfl (lv_at hl 0 rfl) ?_
  refine lv_iconst (v := 3) hx hb dX9_init_35 (by decide) ?_
  refine va_newa (atype := .boolean) (ty := .boolean) (a0 := (3, .inl (fun _ => 0))) (N' := 3) hx hb (hts _ u_257) rfl hK hP hD hS hA (fun cA => rfl) (by decide) (by decide) (by decide) (by rw [hR]; exact Nat.le_of_ble_eq_true rfl) (by rw [hR]; exact Nat.le_of_ble_eq_true rfl) dX9_init_36 (fun q4 cA H hK1 hP2 hD2 hS2 => ?_)
  obtain rfl := ca_1 hK hK1
  clear hK1
  clear hP hD hS
  have hP : va_P (gD g) vwCl ((h0, .inr (9, [.ref (ad1 13 0 0), .ref (ad2 0 1 0), .ref q3, .null, .null, .null, .null, .null, .null])) :: (q3, .inl (gC g 6, 3, .inr (.inr (.inr (.inr (fun _ => none)))))) :: ((([] ++ wsLw g (L_X1) ad1) ++ wsLw g (L_X0 1) ad2) ++ [(q4, .inl (gC g 1, 3, .inl (fun _ => 0)))])) H := hP2
  have hD : va_D A ((h0, .inr (9, [.ref (ad1 13 0 0), .ref (ad2 0 1 0), .ref q3, .null, .null, .null, .null, .null, .null])) :: (q3, .inl (gC g 6, 3, .inr (.inr (.inr (.inr (fun _ => none)))))) :: ((([] ++ wsLw g (L_X1) ad1) ++ wsLw g (L_X0 1) ad2) ++ [(q4, .inl (gC g 1, 3, .inl (fun _ => 0)))])) := hD2
  have hS := hS2
  clear hP2 hD2 hS2
  refine W.widen (k := 100) (n := 1543) (by decide) (by decide) ?_
  refine va_putF (D := gD g) (ci := 9) (v := .ref q4) (ty := (.array .boolean)) (C := RX9) (T := TX9) (N := 9) hx hb hts inUX9 tyX9 tyX9_ok nmX9 hown hK hP hD hS 0 rfl rfl 3 (by decide) (hts _ u_367) (fun _ h9 => h9) rfl hnm rfl (by decide +kernel) rfl rfl (Nat.le_of_ble_eq_true rfl) dX9_init_38 (fun H locs hP2 hD2 hS2 => ?_)
  clear hP hD hS
  have hP : va_P (gD g) vwCl ((h0, .inr (9, [.ref (ad1 13 0 0), .ref (ad2 0 1 0), .ref q3, .ref q4, .null, .null, .null, .null, .null])) :: (q3, .inl (gC g 6, 3, .inr (.inr (.inr (.inr (fun _ => none)))))) :: ((([] ++ wsLw g (L_X1) ad1) ++ wsLw g (L_X0 1) ad2) ++ [(q4, .inl (gC g 1, 3, .inl (fun _ => 0)))])) H := hP2
  have hD : va_D A ((h0, .inr (9, [.ref (ad1 13 0 0), .ref (ad2 0 1 0), .ref q3, .ref q4, .null, .null, .null, .null, .null])) :: (q3, .inl (gC g 6, 3, .inr (.inr (.inr (.inr (fun _ => none)))))) :: ((([] ++ wsLw g (L_X1) ad1) ++ wsLw g (L_X0 1) ad2) ++ [(q4, .inl (gC g 1, 3, .inl (fun _ => 0)))])) := hD2
  have hS := hS2
  clear hP2 hD2 hS2
  refine lv_aload_n hx hb dX9_init_41 rfl (lv_at hl 0 rfl) ?_
  refine va_new (ci := 2) (fs := [.null, .null]) (C := RX2) (T := TX2) (N := 2) hx hb hts inUX2 tyX2 tyX2_ok hown (hts _ u_249) (hts _ u_250) (hts _ u_129) hK hP hD hS hA rfl (by decide +kernel) (by rw [hR]; exact Nat.le_of_ble_eq_true rfl) (by rw [hR]; exact Nat.le_of_ble_eq_true rfl) dX9_init_42 (fun q5 H hP2 hD2 hS2 => ?_)
  refine W.widen (k := 101) (n := 1545) (by decide) (by decide) ?_
  clear hP hD hS
  have hP := hP2
  have hD := hD2
  have hS := hS2
  clear hP2 hD2 hS2
  refine lv_dup hx hb dX9_init_45 rfl ?_
  refine n_callN (rest := [.ref q5, .ref h0]) (wr := ((h0, .inr (9, [.ref (ad1 13 0 0), .ref (ad2 0 1 0), .ref q3, .ref q4, .null, .null, .null, .null, .null])) :: (q3, .inl (gC g 6, 3, .inr (.inr (.inr (.inr (fun _ => none)))))) :: ((([] ++ wsLw g (L_X1) ad1) ++ wsLw g (L_X0 1) ad2) ++ [(q4, .inl (gC g 1, 3, .inl (fun _ => 0)))]))) hx hb hml hown hts hK hCN hA hR hl hP hD hS (n_X2_init g l q5 _) dX9_init_46 ⟨"WatchStack", by decide +kernel⟩ rfl u_251 mi_X2_init (by decide) (Nat.le_of_ble_eq_true rfl) (by decide) (by decide) (fun ad5 H locs hh hP2 hD2 hS2 => ?_)
  have hh2 : ad5 17 0 0 = q5 := Option.some.inj hh
  clear hh
  clear hP hD hS
  have hP : va_P (gD g) vwCl ((h0, .inr (9, [.ref (ad1 13 0 0), .ref (ad2 0 1 0), .ref q3, .ref q4, .null, .null, .null, .null, .null])) :: (q3, .inl (gC g 6, 3, .inr (.inr (.inr (.inr (fun _ => none)))))) :: (((([] ++ wsLw g (L_X1) ad1) ++ wsLw g (L_X0 1) ad2) ++ [(q4, .inl (gC g 1, 3, .inl (fun _ => 0)))]) ++ wsLw g (L_X2) ad5)) H := hP2
  have hD : va_D A ((h0, .inr (9, [.ref (ad1 13 0 0), .ref (ad2 0 1 0), .ref q3, .ref q4, .null, .null, .null, .null, .null])) :: (q3, .inl (gC g 6, 3, .inr (.inr (.inr (.inr (fun _ => none)))))) :: (((([] ++ wsLw g (L_X1) ad1) ++ wsLw g (L_X0 1) ad2) ++ [(q4, .inl (gC g 1, 3, .inl (fun _ => 0)))]) ++ wsLw g (L_X2) ad5)) := hD2
  have hS := hS2
  clear hP2 hD2 hS2
  subst hh2
  refine W.widen (k := 109) (n := 1999) (by decide) (by decide) ?_
  refine va_putF (D := gD g) (ci := 9) (v := .ref (ad5 17 0 0)) (ty := (.object "WatchStack$Flow")) (C := RX9) (T := TX9) (N := 9) hx hb hts inUX9 tyX9 tyX9_ok nmX9 hown hK hP hD hS 0 rfl rfl 4 (by decide) (hts _ u_368) (fun _ h9 => h9) rfl hnm rfl (by decide +kernel) rfl rfl (Nat.le_of_ble_eq_true rfl) dX9_init_49 (fun H locs hP2 hD2 hS2 => ?_)
  clear hP hD hS
  have hP : va_P (gD g) vwCl ((h0, .inr (9, [.ref (ad1 13 0 0), .ref (ad2 0 1 0), .ref q3, .ref q4, .ref (ad5 17 0 0), .null, .null, .null, .null])) :: (q3, .inl (gC g 6, 3, .inr (.inr (.inr (.inr (fun _ => none)))))) :: (((([] ++ wsLw g (L_X1) ad1) ++ wsLw g (L_X0 1) ad2) ++ [(q4, .inl (gC g 1, 3, .inl (fun _ => 0)))]) ++ wsLw g (L_X2) ad5)) H := hP2
  have hD : va_D A ((h0, .inr (9, [.ref (ad1 13 0 0), .ref (ad2 0 1 0), .ref q3, .ref q4, .ref (ad5 17 0 0), .null, .null, .null, .null])) :: (q3, .inl (gC g 6, 3, .inr (.inr (.inr (.inr (fun _ => none)))))) :: (((([] ++ wsLw g (L_X1) ad1) ++ wsLw g (L_X0 1) ad2) ++ [(q4, .inl (gC g 1, 3, .inl (fun _ => 0)))]) ++ wsLw g (L_X2) ad5)) := hD2
  have hS := hS2
  clear hP2 hD2 hS2
  refine lv_aload_n hx hb dX9_init_52 rfl (lv_at hl 0 rfl) ?_
  refine va_new (ci := 3) (fs := [.null, .int 0, .int 0]) (C := RX3) (T := TX3) (N := 3) hx hb hts inUX3 tyX3 tyX3_ok hown (hts _ u_258) (hts _ u_259) (hts _ u_130) hK hP hD hS hA rfl (by decide +kernel) (by rw [hR]; exact Nat.le_of_ble_eq_true rfl) (by rw [hR]; exact Nat.le_of_ble_eq_true rfl) dX9_init_53 (fun q6 H hP2 hD2 hS2 => ?_)
  refine W.widen (k := 110) (n := 2002) (by decide) (by decide) ?_
  clear hP hD hS
  have hP := hP2
  have hD := hD2
  have hS := hS2
  clear hP2 hD2 hS2
  refine lv_dup hx hb dX9_init_56 rfl ?_
  refine n_callN (rest := [.ref q6, .ref h0]) (wr := ((h0, .inr (9, [.ref (ad1 13 0 0), .ref (ad2 0 1 0), .ref q3, .ref q4, .ref (ad5 17 0 0), .null, .null, .null, .null])) :: (q3, .inl (gC g 6, 3, .inr (.inr (.inr (.inr (fun _ => none)))))) :: (((([] ++ wsLw g (L_X1) ad1) ++ wsLw g (L_X0 1) ad2) ++ [(q4, .inl (gC g 1, 3, .inl (fun _ => 0)))]) ++ wsLw g (L_X2) ad5))) hx hb hml hown hts hK hCN hA hR hl hP hD hS (n_X3_init g l q6 _) dX9_init_57 ⟨"WatchStack", by decide +kernel⟩ rfl u_260 mi_X3_init (by decide) (Nat.le_of_ble_eq_true rfl) (by decide) (by decide) (fun ad6 H locs hh hP2 hD2 hS2 => ?_)
  have hh2 : ad6 21 0 0 = q6 := Option.some.inj hh
  clear hh
  clear hP hD hS
  have hP : va_P (gD g) vwCl ((h0, .inr (9, [.ref (ad1 13 0 0), .ref (ad2 0 1 0), .ref q3, .ref q4, .ref (ad5 17 0 0), .null, .null, .null, .null])) :: (q3, .inl (gC g 6, 3, .inr (.inr (.inr (.inr (fun _ => none)))))) :: ((((([] ++ wsLw g (L_X1) ad1) ++ wsLw g (L_X0 1) ad2) ++ [(q4, .inl (gC g 1, 3, .inl (fun _ => 0)))]) ++ wsLw g (L_X2) ad5) ++ wsLw g (L_X3) ad6)) H := hP2
  have hD : va_D A ((h0, .inr (9, [.ref (ad1 13 0 0), .ref (ad2 0 1 0), .ref q3, .ref q4, .ref (ad5 17 0 0), .null, .null, .null, .null])) :: (q3, .inl (gC g 6, 3, .inr (.inr (.inr (.inr (fun _ => none)))))) :: ((((([] ++ wsLw g (L_X1) ad1) ++ wsLw g (L_X0 1) ad2) ++ [(q4, .inl (gC g 1, 3, .inl (fun _ => 0)))]) ++ wsLw g (L_X2) ad5) ++ wsLw g (L_X3) ad6)) := hD2
  have hS := hS2
  clear hP2 hD2 hS2
  subst hh2
  refine W.widen (k := 111) (n := 2007) (by decide) (by decide) ?_
  refine va_putF (D := gD g) (ci := 9) (v := .ref (ad6 21 0 0)) (ty := (.object "WatchStack$Law")) (C := RX9) (T := TX9) (N := 9) hx hb hts inUX9 tyX9 tyX9_ok nmX9 hown hK hP hD hS 0 rfl rfl 5 (by decide) (hts _ u_369) (fun _ h9 => h9) rfl hnm rfl (by decide +kernel) rfl rfl (Nat.le_of_ble_eq_true rfl) dX9_init_60 (fun H locs hP2 hD2 hS2 => ?_)
  clear hP hD hS
  have hP : va_P (gD g) vwCl ((h0, .inr (9, [.ref (ad1 13 0 0), .ref (ad2 0 1 0), .ref q3, .ref q4, .ref (ad5 17 0 0), .ref (ad6 21 0 0), .null, .null, .null])) :: (q3, .inl (gC g 6, 3, .inr (.inr (.inr (.inr (fun _ => none)))))) :: ((((([] ++ wsLw g (L_X1) ad1) ++ wsLw g (L_X0 1) ad2) ++ [(q4, .inl (gC g 1, 3, .inl (fun _ => 0)))]) ++ wsLw g (L_X2) ad5) ++ wsLw g (L_X3) ad6)) H := hP2
  have hD : va_D A ((h0, .inr (9, [.ref (ad1 13 0 0), .ref (ad2 0 1 0), .ref q3, .ref q4, .ref (ad5 17 0 0), .ref (ad6 21 0 0), .null, .null, .null])) :: (q3, .inl (gC g 6, 3, .inr (.inr (.inr (.inr (fun _ => none)))))) :: ((((([] ++ wsLw g (L_X1) ad1) ++ wsLw g (L_X0 1) ad2) ++ [(q4, .inl (gC g 1, 3, .inl (fun _ => 0)))]) ++ wsLw g (L_X2) ad5) ++ wsLw g (L_X3) ad6)) := hD2
  have hS := hS2
  clear hP2 hD2 hS2
  refine lv_aload_n hx hb dX9_init_63 rfl (lv_at hl 0 rfl) ?_
  refine va_new (ci := 5) (fs := [.null, .null, .null, .int 0, .int 0, .int 0, .int 0, .int 0, .int 0, .null, .null, .null, .int 0, .null, .null, .null]) (C := RX5) (T := TX5) (N := 16) hx hb hts inUX5 tyX5 tyX5_ok hown (hts _ u_267) (hts _ u_268) (hts _ u_131) hK hP hD hS hA rfl (by decide +kernel) (by rw [hR]; exact Nat.le_of_ble_eq_true rfl) (by rw [hR]; exact Nat.le_of_ble_eq_true rfl) dX9_init_64 (fun q7 H hP2 hD2 hS2 => ?_)
  refine W.widen (k := 112) (n := 2023) (by decide) (by decide) ?_
  clear hP hD hS
  have hP := hP2
  have hD := hD2
  have hS := hS2
  clear hP2 hD2 hS2
  refine lv_dup hx hb dX9_init_67 rfl ?_
  refine n_callI (rest := [.ref q7, .ref h0]) (wr := ((h0, .inr (9, [.ref (ad1 13 0 0), .ref (ad2 0 1 0), .ref q3, .ref q4, .ref (ad5 17 0 0), .ref (ad6 21 0 0), .null, .null, .null])) :: (q3, .inl (gC g 6, 3, .inr (.inr (.inr (.inr (fun _ => none)))))) :: ((((([] ++ wsLw g (L_X1) ad1) ++ wsLw g (L_X0 1) ad2) ++ [(q4, .inl (gC g 1, 3, .inl (fun _ => 0)))]) ++ wsLw g (L_X2) ad5) ++ wsLw g (L_X3) ad6))) hx hb hml hown hts hK hCN hA hR hl hP hD hS (n_X5_init g l 0 q7 _) dX9_init_68 u_269 rfl u_270 mi_X5_init (by decide) (Nat.le_of_ble_eq_true rfl) (by decide) (by decide) (fun ad7 H locs hh hP2 hD2 hS2 => ?_)
  have hh2 : ad7 23 0 0 = q7 := Option.some.inj hh
  clear hh
  clear hP hD hS
  have hP : va_P (gD g) vwCl ((h0, .inr (9, [.ref (ad1 13 0 0), .ref (ad2 0 1 0), .ref q3, .ref q4, .ref (ad5 17 0 0), .ref (ad6 21 0 0), .null, .null, .null])) :: (q3, .inl (gC g 6, 3, .inr (.inr (.inr (.inr (fun _ => none)))))) :: (((((([] ++ wsLw g (L_X1) ad1) ++ wsLw g (L_X0 1) ad2) ++ [(q4, .inl (gC g 1, 3, .inl (fun _ => 0)))]) ++ wsLw g (L_X2) ad5) ++ wsLw g (L_X3) ad6) ++ wsLw g (L_X5 0) ad7)) H := hP2
  have hD : va_D A ((h0, .inr (9, [.ref (ad1 13 0 0), .ref (ad2 0 1 0), .ref q3, .ref q4, .ref (ad5 17 0 0), .ref (ad6 21 0 0), .null, .null, .null])) :: (q3, .inl (gC g 6, 3, .inr (.inr (.inr (.inr (fun _ => none)))))) :: (((((([] ++ wsLw g (L_X1) ad1) ++ wsLw g (L_X0 1) ad2) ++ [(q4, .inl (gC g 1, 3, .inl (fun _ => 0)))]) ++ wsLw g (L_X2) ad5) ++ wsLw g (L_X3) ad6) ++ wsLw g (L_X5 0) ad7)) := hD2
  have hS := hS2
  clear hP2 hD2 hS2
  subst hh2
  refine W.widen (k := 306) (n := 3684) (by decide) (by decide) ?_
  refine va_putF (D := gD g) (ci := 9) (v := .ref (ad7 23 0 0)) (ty := (.object "WatchStack$Run")) (C := RX9) (T := TX9) (N := 9) hx hb hts inUX9 tyX9 tyX9_ok nmX9 hown hK hP hD hS 0 rfl rfl 6 (by decide) (hts _ u_370) (fun _ h9 => h9) rfl hnm rfl (by decide +kernel) rfl rfl (Nat.le_of_ble_eq_true rfl) dX9_init_71 (fun H locs hP2 hD2 hS2 => ?_)
  clear hP hD hS
  have hP : va_P (gD g) vwCl ((h0, .inr (9, [.ref (ad1 13 0 0), .ref (ad2 0 1 0), .ref q3, .ref q4, .ref (ad5 17 0 0), .ref (ad6 21 0 0), .ref (ad7 23 0 0), .null, .null])) :: (q3, .inl (gC g 6, 3, .inr (.inr (.inr (.inr (fun _ => none)))))) :: (((((([] ++ wsLw g (L_X1) ad1) ++ wsLw g (L_X0 1) ad2) ++ [(q4, .inl (gC g 1, 3, .inl (fun _ => 0)))]) ++ wsLw g (L_X2) ad5) ++ wsLw g (L_X3) ad6) ++ wsLw g (L_X5 0) ad7)) H := hP2
  have hD : va_D A ((h0, .inr (9, [.ref (ad1 13 0 0), .ref (ad2 0 1 0), .ref q3, .ref q4, .ref (ad5 17 0 0), .ref (ad6 21 0 0), .ref (ad7 23 0 0), .null, .null])) :: (q3, .inl (gC g 6, 3, .inr (.inr (.inr (.inr (fun _ => none)))))) :: (((((([] ++ wsLw g (L_X1) ad1) ++ wsLw g (L_X0 1) ad2) ++ [(q4, .inl (gC g 1, 3, .inl (fun _ => 0)))]) ++ wsLw g (L_X2) ad5) ++ wsLw g (L_X3) ad6) ++ wsLw g (L_X5 0) ad7)) := hD2
  have hS := hS2
  clear hP2 hD2 hS2
  refine lv_aload_n hx hb dX9_init_74 rfl (lv_at hl 0 rfl) ?_
  refine va_new (ci := 5) (fs := [.null, .null, .null, .int 0, .int 0, .int 0, .int 0, .int 0, .int 0, .null, .null, .null, .int 0, .null, .null, .null]) (C := RX5) (T := TX5) (N := 16) hx hb hts inUX5 tyX5 tyX5_ok hown (hts _ u_267) (hts _ u_268) (hts _ u_131) hK hP hD hS hA rfl (by decide +kernel) (by rw [hR]; exact Nat.le_of_ble_eq_true rfl) (by rw [hR]; exact Nat.le_of_ble_eq_true rfl) dX9_init_75 (fun q8 H hP2 hD2 hS2 => ?_)
  refine W.widen (k := 307) (n := 3700) (by decide) (by decide) ?_
  clear hP hD hS
  have hP := hP2
  have hD := hD2
  have hS := hS2
  clear hP2 hD2 hS2
  refine lv_dup hx hb dX9_init_78 rfl ?_
  refine n_callI (rest := [.ref q8, .ref h0]) (wr := ((h0, .inr (9, [.ref (ad1 13 0 0), .ref (ad2 0 1 0), .ref q3, .ref q4, .ref (ad5 17 0 0), .ref (ad6 21 0 0), .ref (ad7 23 0 0), .null, .null])) :: (q3, .inl (gC g 6, 3, .inr (.inr (.inr (.inr (fun _ => none)))))) :: (((((([] ++ wsLw g (L_X1) ad1) ++ wsLw g (L_X0 1) ad2) ++ [(q4, .inl (gC g 1, 3, .inl (fun _ => 0)))]) ++ wsLw g (L_X2) ad5) ++ wsLw g (L_X3) ad6) ++ wsLw g (L_X5 0) ad7))) hx hb hml hown hts hK hCN hA hR hl hP hD hS (n_X5_init g l 1 q8 _) dX9_init_79 u_269 rfl u_270 mi_X5_init (by decide) (Nat.le_of_ble_eq_true rfl) (by decide) (by decide) (fun ad8 H locs hh hP2 hD2 hS2 => ?_)
  have hh2 : ad8 23 1 0 = q8 := Option.some.inj hh
  clear hh
  clear hP hD hS
  have hP : va_P (gD g) vwCl ((h0, .inr (9, [.ref (ad1 13 0 0), .ref (ad2 0 1 0), .ref q3, .ref q4, .ref (ad5 17 0 0), .ref (ad6 21 0 0), .ref (ad7 23 0 0), .null, .null])) :: (q3, .inl (gC g 6, 3, .inr (.inr (.inr (.inr (fun _ => none)))))) :: ((((((([] ++ wsLw g (L_X1) ad1) ++ wsLw g (L_X0 1) ad2) ++ [(q4, .inl (gC g 1, 3, .inl (fun _ => 0)))]) ++ wsLw g (L_X2) ad5) ++ wsLw g (L_X3) ad6) ++ wsLw g (L_X5 0) ad7) ++ wsLw g (L_X5 1) ad8)) H := hP2
  have hD : va_D A ((h0, .inr (9, [.ref (ad1 13 0 0), .ref (ad2 0 1 0), .ref q3, .ref q4, .ref (ad5 17 0 0), .ref (ad6 21 0 0), .ref (ad7 23 0 0), .null, .null])) :: (q3, .inl (gC g 6, 3, .inr (.inr (.inr (.inr (fun _ => none)))))) :: ((((((([] ++ wsLw g (L_X1) ad1) ++ wsLw g (L_X0 1) ad2) ++ [(q4, .inl (gC g 1, 3, .inl (fun _ => 0)))]) ++ wsLw g (L_X2) ad5) ++ wsLw g (L_X3) ad6) ++ wsLw g (L_X5 0) ad7) ++ wsLw g (L_X5 1) ad8)) := hD2
  have hS := hS2
  clear hP2 hD2 hS2
  subst hh2
  refine W.widen (k := 501) (n := 5361) (by decide) (by decide) ?_
  refine va_putF (D := gD g) (ci := 9) (v := .ref (ad8 23 1 0)) (ty := (.object "WatchStack$Run")) (C := RX9) (T := TX9) (N := 9) hx hb hts inUX9 tyX9 tyX9_ok nmX9 hown hK hP hD hS 0 rfl rfl 7 (by decide) (hts _ u_371) (fun _ h9 => h9) rfl hnm rfl (by decide +kernel) rfl rfl (Nat.le_of_ble_eq_true rfl) dX9_init_82 (fun H locs hP2 hD2 hS2 => ?_)
  clear hP hD hS
  have hP : va_P (gD g) vwCl ((h0, .inr (9, [.ref (ad1 13 0 0), .ref (ad2 0 1 0), .ref q3, .ref q4, .ref (ad5 17 0 0), .ref (ad6 21 0 0), .ref (ad7 23 0 0), .ref (ad8 23 1 0), .null])) :: (q3, .inl (gC g 6, 3, .inr (.inr (.inr (.inr (fun _ => none)))))) :: ((((((([] ++ wsLw g (L_X1) ad1) ++ wsLw g (L_X0 1) ad2) ++ [(q4, .inl (gC g 1, 3, .inl (fun _ => 0)))]) ++ wsLw g (L_X2) ad5) ++ wsLw g (L_X3) ad6) ++ wsLw g (L_X5 0) ad7) ++ wsLw g (L_X5 1) ad8)) H := hP2
  have hD : va_D A ((h0, .inr (9, [.ref (ad1 13 0 0), .ref (ad2 0 1 0), .ref q3, .ref q4, .ref (ad5 17 0 0), .ref (ad6 21 0 0), .ref (ad7 23 0 0), .ref (ad8 23 1 0), .null])) :: (q3, .inl (gC g 6, 3, .inr (.inr (.inr (.inr (fun _ => none)))))) :: ((((((([] ++ wsLw g (L_X1) ad1) ++ wsLw g (L_X0 1) ad2) ++ [(q4, .inl (gC g 1, 3, .inl (fun _ => 0)))]) ++ wsLw g (L_X2) ad5) ++ wsLw g (L_X3) ad6) ++ wsLw g (L_X5 0) ad7) ++ wsLw g (L_X5 1) ad8)) := hD2
  have hS := hS2
  clear hP2 hD2 hS2
  refine lv_aload_n hx hb dX9_init_85 rfl (lv_at hl 0 rfl) ?_
  refine va_new (ci := 8) (fs := [.null, .null, .null]) (C := RX8) (T := TX8) (N := 3) hx hb hts inUX8 tyX8 tyX8_ok hown (hts _ u_351) (hts _ u_352) (hts _ u_134) hK hP hD hS hA rfl (by decide +kernel) (by rw [hR]; exact Nat.le_of_ble_eq_true rfl) (by rw [hR]; exact Nat.le_of_ble_eq_true rfl) dX9_init_86 (fun q9 H hP2 hD2 hS2 => ?_)
  refine W.widen (k := 502) (n := 5364) (by decide) (by decide) ?_
  clear hP hD hS
  have hP := hP2
  have hD := hD2
  have hS := hS2
  clear hP2 hD2 hS2
  refine lv_dup hx hb dX9_init_89 rfl ?_
  refine n_callN (rest := [.ref q9, .ref h0]) (wr := ((h0, .inr (9, [.ref (ad1 13 0 0), .ref (ad2 0 1 0), .ref q3, .ref q4, .ref (ad5 17 0 0), .ref (ad6 21 0 0), .ref (ad7 23 0 0), .ref (ad8 23 1 0), .null])) :: (q3, .inl (gC g 6, 3, .inr (.inr (.inr (.inr (fun _ => none)))))) :: ((((((([] ++ wsLw g (L_X1) ad1) ++ wsLw g (L_X0 1) ad2) ++ [(q4, .inl (gC g 1, 3, .inl (fun _ => 0)))]) ++ wsLw g (L_X2) ad5) ++ wsLw g (L_X3) ad6) ++ wsLw g (L_X5 0) ad7) ++ wsLw g (L_X5 1) ad8))) hx hb hml hown hts hK hCN hA hR hl hP hD hS (n_X8_init g l q9 _) dX9_init_90 ⟨"WatchStack", by decide +kernel⟩ rfl u_353 mi_X8_init (by decide) (Nat.le_of_ble_eq_true rfl) (by decide) (by decide) (fun ad9 H locs hh hP2 hD2 hS2 => ?_)
  have hh2 : ad9 36 0 0 = q9 := Option.some.inj hh
  clear hh
  clear hP hD hS
  have hP : va_P (gD g) vwCl ((h0, .inr (9, [.ref (ad1 13 0 0), .ref (ad2 0 1 0), .ref q3, .ref q4, .ref (ad5 17 0 0), .ref (ad6 21 0 0), .ref (ad7 23 0 0), .ref (ad8 23 1 0), .null])) :: (q3, .inl (gC g 6, 3, .inr (.inr (.inr (.inr (fun _ => none)))))) :: (((((((([] ++ wsLw g (L_X1) ad1) ++ wsLw g (L_X0 1) ad2) ++ [(q4, .inl (gC g 1, 3, .inl (fun _ => 0)))]) ++ wsLw g (L_X2) ad5) ++ wsLw g (L_X3) ad6) ++ wsLw g (L_X5 0) ad7) ++ wsLw g (L_X5 1) ad8) ++ wsLw g (L_X8) ad9)) H := hP2
  have hD : va_D A ((h0, .inr (9, [.ref (ad1 13 0 0), .ref (ad2 0 1 0), .ref q3, .ref q4, .ref (ad5 17 0 0), .ref (ad6 21 0 0), .ref (ad7 23 0 0), .ref (ad8 23 1 0), .null])) :: (q3, .inl (gC g 6, 3, .inr (.inr (.inr (.inr (fun _ => none)))))) :: (((((((([] ++ wsLw g (L_X1) ad1) ++ wsLw g (L_X0 1) ad2) ++ [(q4, .inl (gC g 1, 3, .inl (fun _ => 0)))]) ++ wsLw g (L_X2) ad5) ++ wsLw g (L_X3) ad6) ++ wsLw g (L_X5 0) ad7) ++ wsLw g (L_X5 1) ad8) ++ wsLw g (L_X8) ad9)) := hD2
  have hS := hS2
  clear hP2 hD2 hS2
  subst hh2
  refine W.widen (k := 709) (n := 7101) (by decide) (by decide) ?_
  refine va_putF (D := gD g) (ci := 9) (v := .ref (ad9 36 0 0)) (ty := (.object "WatchStack$Trials")) (C := RX9) (T := TX9) (N := 9) hx hb hts inUX9 tyX9 tyX9_ok nmX9 hown hK hP hD hS 0 rfl rfl 8 (by decide) (hts _ u_372) (fun _ h9 => h9) rfl hnm rfl (by decide +kernel) rfl rfl (Nat.le_of_ble_eq_true rfl) dX9_init_93 (fun H locs hP2 hD2 hS2 => ?_)
  clear hP hD hS
  have hP : va_P (gD g) vwCl ((h0, .inr (9, [.ref (ad1 13 0 0), .ref (ad2 0 1 0), .ref q3, .ref q4, .ref (ad5 17 0 0), .ref (ad6 21 0 0), .ref (ad7 23 0 0), .ref (ad8 23 1 0), .ref (ad9 36 0 0)])) :: (q3, .inl (gC g 6, 3, .inr (.inr (.inr (.inr (fun _ => none)))))) :: (((((((([] ++ wsLw g (L_X1) ad1) ++ wsLw g (L_X0 1) ad2) ++ [(q4, .inl (gC g 1, 3, .inl (fun _ => 0)))]) ++ wsLw g (L_X2) ad5) ++ wsLw g (L_X3) ad6) ++ wsLw g (L_X5 0) ad7) ++ wsLw g (L_X5 1) ad8) ++ wsLw g (L_X8) ad9)) H := hP2
  have hD : va_D A ((h0, .inr (9, [.ref (ad1 13 0 0), .ref (ad2 0 1 0), .ref q3, .ref q4, .ref (ad5 17 0 0), .ref (ad6 21 0 0), .ref (ad7 23 0 0), .ref (ad8 23 1 0), .ref (ad9 36 0 0)])) :: (q3, .inl (gC g 6, 3, .inr (.inr (.inr (.inr (fun _ => none)))))) :: (((((((([] ++ wsLw g (L_X1) ad1) ++ wsLw g (L_X0 1) ad2) ++ [(q4, .inl (gC g 1, 3, .inl (fun _ => 0)))]) ++ wsLw g (L_X2) ad5) ++ wsLw g (L_X3) ad6) ++ wsLw g (L_X5 0) ad7) ++ wsLw g (L_X5 1) ad8) ++ wsLw g (L_X8) ad9)) := hD2
  have hS := hS2
  clear hP2 hD2 hS2
  refine lv_iconst (v := 0) hx hb dX9_init_96 (by decide) ?_
  refine lv_istore_n (x := 0) (lv' := [(1, .int 0), (0, .ref h0)]) hx hb dX9_init_97 rfl hl (by decide) rfl (fun ls hl2 => ?_)
  clear hl
  have hl := hl2
  clear hl2
  refine lv_iload_n hx hb dX9_init_98 rfl (lv_at hl 0 rfl) ?_
  refine lv_iconst (v := 3) hx hb dX9_init_99 (by decide) ?_
  refine lv_icmp_ge (tgt := 122) hx hb dX9_init_100 (by decide) (fun h => absurd h (by decide)) (fun _ => ?_)
  refine lv_aload_n hx hb dX9_init_103 rfl (lv_at hl 1 rfl) ?_
  refine va_get hx hb hts inUX9 hown hK hP 0 rfl rfl 2 (by decide) (hts _ u_366) (fun _ h9 => h9) rfl dX9_init_104 ?_
  refine lv_iload_n hx hb dX9_init_107 rfl (lv_at hl 0 rfl) ?_
  refine va_new (ci := 0) (fs := [.int 0, .int 0, .int 0, .int 0, .int 0, .int 0, .int 0, .int 0, .null, .null, .null, .null, .null, .null, .null]) (C := RX0) (T := TX0) (N := 15) hx hb hts inUX0 tyX0 tyX0_ok hown (hts _ u_248) (hts _ u_175) (hts _ u_128) hK hP hD hS hA rfl (by decide +kernel) (by rw [hR]; exact Nat.le_of_ble_eq_true rfl) (by rw [hR]; exact Nat.le_of_ble_eq_true rfl) dX9_init_108 (fun q10 H hP2 hD2 hS2 => ?_)
  refine W.widen (k := 710) (n := 7116) (by decide) (by decide) ?_
  clear hP hD hS
  have hP := hP2
  have hD := hD2
  have hS := hS2
  clear hP2 hD2 hS2
  refine lv_dup hx hb dX9_init_111 rfl ?_
  refine n_callN (rest := [.ref q10, .int 0, .ref q3]) (wr := ((h0, .inr (9, [.ref (ad1 13 0 0), .ref (ad2 0 1 0), .ref q3, .ref q4, .ref (ad5 17 0 0), .ref (ad6 21 0 0), .ref (ad7 23 0 0), .ref (ad8 23 1 0), .ref (ad9 36 0 0)])) :: (q3, .inl (gC g 6, 3, .inr (.inr (.inr (.inr (fun _ => none)))))) :: (((((((([] ++ wsLw g (L_X1) ad1) ++ wsLw g (L_X0 1) ad2) ++ [(q4, .inl (gC g 1, 3, .inl (fun _ => 0)))]) ++ wsLw g (L_X2) ad5) ++ wsLw g (L_X3) ad6) ++ wsLw g (L_X5 0) ad7) ++ wsLw g (L_X5 1) ad8) ++ wsLw g (L_X8) ad9))) hx hb hml hown hts hK hCN hA hR hl hP hD hS (n_X0_init g l 2 q10 _) dX9_init_112 ⟨"WatchStack", by decide +kernel⟩ rfl u_176 mi_X0_init (by decide) (Nat.le_of_ble_eq_true rfl) (by decide) (by decide) (fun ad10 H locs hh hP2 hD2 hS2 => ?_)
  have hh2 : ad10 0 2 0 = q10 := Option.some.inj hh
  clear hh
  clear hP hD hS
  have hP : va_P (gD g) vwCl ((h0, .inr (9, [.ref (ad1 13 0 0), .ref (ad2 0 1 0), .ref q3, .ref q4, .ref (ad5 17 0 0), .ref (ad6 21 0 0), .ref (ad7 23 0 0), .ref (ad8 23 1 0), .ref (ad9 36 0 0)])) :: (q3, .inl (gC g 6, 3, .inr (.inr (.inr (.inr (fun _ => none)))))) :: (wsLw g (L_X0 2) ad10 ++ (((((((([] ++ wsLw g (L_X1) ad1) ++ wsLw g (L_X0 1) ad2) ++ [(q4, .inl (gC g 1, 3, .inl (fun _ => 0)))]) ++ wsLw g (L_X2) ad5) ++ wsLw g (L_X3) ad6) ++ wsLw g (L_X5 0) ad7) ++ wsLw g (L_X5 1) ad8) ++ wsLw g (L_X8) ad9))) H := n_rot hP2
  have hD : va_D A ((h0, .inr (9, [.ref (ad1 13 0 0), .ref (ad2 0 1 0), .ref q3, .ref q4, .ref (ad5 17 0 0), .ref (ad6 21 0 0), .ref (ad7 23 0 0), .ref (ad8 23 1 0), .ref (ad9 36 0 0)])) :: (q3, .inl (gC g 6, 3, .inr (.inr (.inr (.inr (fun _ => none)))))) :: (wsLw g (L_X0 2) ad10 ++ (((((((([] ++ wsLw g (L_X1) ad1) ++ wsLw g (L_X0 1) ad2) ++ [(q4, .inl (gC g 1, 3, .inl (fun _ => 0)))]) ++ wsLw g (L_X2) ad5) ++ wsLw g (L_X3) ad6) ++ wsLw g (L_X5 0) ad7) ++ wsLw g (L_X5 1) ad8) ++ wsLw g (L_X8) ad9))) := n_rotD hD2
  have hS := hS2
  clear hP2 hD2 hS2
  subst hh2
  refine W.widen (k := 756) (n := 7361) (by decide) (by decide) ?_
  refine va_astq (A := A) hx hb hK hP hD hS 1 6 2 0 rfl rfl rfl rfl (i := 0) (by unfold vp_in; decide) dX9_init_115 (fun H locs hP2 hD2 hS2 => ?_)
  clear hP hD hS
  have hP : va_P (gD g) vwCl ((h0, .inr (9, [.ref (ad1 13 0 0), .ref (ad2 0 1 0), .ref q3, .ref q4, .ref (ad5 17 0 0), .ref (ad6 21 0 0), .ref (ad7 23 0 0), .ref (ad8 23 1 0), .ref (ad9 36 0 0)])) :: (q3, .inl (gC g 6, 3, .inr (.inr (.inr (.inr (va_up (fun _ => none) 0 (some (ad10 0 2 0)))))))) :: (wsLw g (L_X0 2) ad10 ++ (((((((([] ++ wsLw g (L_X1) ad1) ++ wsLw g (L_X0 1) ad2) ++ [(q4, .inl (gC g 1, 3, .inl (fun _ => 0)))]) ++ wsLw g (L_X2) ad5) ++ wsLw g (L_X3) ad6) ++ wsLw g (L_X5 0) ad7) ++ wsLw g (L_X5 1) ad8) ++ wsLw g (L_X8) ad9))) H := hP2
  have hD : va_D A ((h0, .inr (9, [.ref (ad1 13 0 0), .ref (ad2 0 1 0), .ref q3, .ref q4, .ref (ad5 17 0 0), .ref (ad6 21 0 0), .ref (ad7 23 0 0), .ref (ad8 23 1 0), .ref (ad9 36 0 0)])) :: (q3, .inl (gC g 6, 3, .inr (.inr (.inr (.inr (va_up (fun _ => none) 0 (some (ad10 0 2 0)))))))) :: (wsLw g (L_X0 2) ad10 ++ (((((((([] ++ wsLw g (L_X1) ad1) ++ wsLw g (L_X0 1) ad2) ++ [(q4, .inl (gC g 1, 3, .inl (fun _ => 0)))]) ++ wsLw g (L_X2) ad5) ++ wsLw g (L_X3) ad6) ++ wsLw g (L_X5 0) ad7) ++ wsLw g (L_X5 1) ad8) ++ wsLw g (L_X8) ad9))) := hD2
  have hS := hS2
  clear hP2 hD2 hS2
  refine lv_iinc (k := 0) (v := 1) (lv' := [(1, .int 1), (0, .ref h0)]) hx hb dX9_init_116 hl rfl (by decide) (by decide) rfl (fun ls hl2 => ?_)
  clear hl
  have hl := hl2
  clear hl2
  refine lv_goto (tgt := 98) hx hb dX9_init_119 (by decide) ?_
  refine lv_iload_n hx hb dX9_init_98 rfl (lv_at hl 0 rfl) ?_
  refine lv_iconst (v := 3) hx hb dX9_init_99 (by decide) ?_
  refine lv_icmp_ge (tgt := 122) hx hb dX9_init_100 (by decide) (fun h => absurd h (by decide)) (fun _ => ?_)
  refine lv_aload_n hx hb dX9_init_103 rfl (lv_at hl 1 rfl) ?_
  refine va_get hx hb hts inUX9 hown hK hP 0 rfl rfl 2 (by decide) (hts _ u_366) (fun _ h9 => h9) rfl dX9_init_104 ?_
  refine lv_iload_n hx hb dX9_init_107 rfl (lv_at hl 0 rfl) ?_
  refine va_new (ci := 0) (fs := [.int 0, .int 0, .int 0, .int 0, .int 0, .int 0, .int 0, .int 0, .null, .null, .null, .null, .null, .null, .null]) (C := RX0) (T := TX0) (N := 15) hx hb hts inUX0 tyX0 tyX0_ok hown (hts _ u_248) (hts _ u_175) (hts _ u_128) hK hP hD hS hA rfl (by decide +kernel) (by rw [hR]; exact Nat.le_of_ble_eq_true rfl) (by rw [hR]; exact Nat.le_of_ble_eq_true rfl) dX9_init_108 (fun q11 H hP2 hD2 hS2 => ?_)
  refine W.widen (k := 757) (n := 7376) (by decide) (by decide) ?_
  clear hP hD hS
  have hP := hP2
  have hD := hD2
  have hS := hS2
  clear hP2 hD2 hS2
  refine lv_dup hx hb dX9_init_111 rfl ?_
  refine n_callN (rest := [.ref q11, .int 1, .ref q3]) (wr := ((h0, .inr (9, [.ref (ad1 13 0 0), .ref (ad2 0 1 0), .ref q3, .ref q4, .ref (ad5 17 0 0), .ref (ad6 21 0 0), .ref (ad7 23 0 0), .ref (ad8 23 1 0), .ref (ad9 36 0 0)])) :: (q3, .inl (gC g 6, 3, .inr (.inr (.inr (.inr (va_up (fun _ => none) 0 (some (ad10 0 2 0)))))))) :: (wsLw g (L_X0 2) ad10 ++ (((((((([] ++ wsLw g (L_X1) ad1) ++ wsLw g (L_X0 1) ad2) ++ [(q4, .inl (gC g 1, 3, .inl (fun _ => 0)))]) ++ wsLw g (L_X2) ad5) ++ wsLw g (L_X3) ad6) ++ wsLw g (L_X5 0) ad7) ++ wsLw g (L_X5 1) ad8) ++ wsLw g (L_X8) ad9)))) hx hb hml hown hts hK hCN hA hR hl hP hD hS (n_X0_init g l 3 q11 _) dX9_init_112 ⟨"WatchStack", by decide +kernel⟩ rfl u_176 mi_X0_init (by decide) (Nat.le_of_ble_eq_true rfl) (by decide) (by decide) (fun ad11 H locs hh hP2 hD2 hS2 => ?_)
  have hh2 : ad11 0 3 0 = q11 := Option.some.inj hh
  clear hh
  clear hP hD hS
  have hP : va_P (gD g) vwCl ((h0, .inr (9, [.ref (ad1 13 0 0), .ref (ad2 0 1 0), .ref q3, .ref q4, .ref (ad5 17 0 0), .ref (ad6 21 0 0), .ref (ad7 23 0 0), .ref (ad8 23 1 0), .ref (ad9 36 0 0)])) :: (q3, .inl (gC g 6, 3, .inr (.inr (.inr (.inr (va_up (fun _ => none) 0 (some (ad10 0 2 0)))))))) :: (wsLw g (L_X0 3) ad11 ++ (wsLw g (L_X0 2) ad10 ++ (((((((([] ++ wsLw g (L_X1) ad1) ++ wsLw g (L_X0 1) ad2) ++ [(q4, .inl (gC g 1, 3, .inl (fun _ => 0)))]) ++ wsLw g (L_X2) ad5) ++ wsLw g (L_X3) ad6) ++ wsLw g (L_X5 0) ad7) ++ wsLw g (L_X5 1) ad8) ++ wsLw g (L_X8) ad9)))) H := n_rot hP2
  have hD : va_D A ((h0, .inr (9, [.ref (ad1 13 0 0), .ref (ad2 0 1 0), .ref q3, .ref q4, .ref (ad5 17 0 0), .ref (ad6 21 0 0), .ref (ad7 23 0 0), .ref (ad8 23 1 0), .ref (ad9 36 0 0)])) :: (q3, .inl (gC g 6, 3, .inr (.inr (.inr (.inr (va_up (fun _ => none) 0 (some (ad10 0 2 0)))))))) :: (wsLw g (L_X0 3) ad11 ++ (wsLw g (L_X0 2) ad10 ++ (((((((([] ++ wsLw g (L_X1) ad1) ++ wsLw g (L_X0 1) ad2) ++ [(q4, .inl (gC g 1, 3, .inl (fun _ => 0)))]) ++ wsLw g (L_X2) ad5) ++ wsLw g (L_X3) ad6) ++ wsLw g (L_X5 0) ad7) ++ wsLw g (L_X5 1) ad8) ++ wsLw g (L_X8) ad9)))) := n_rotD hD2
  have hS := hS2
  clear hP2 hD2 hS2
  subst hh2
  refine W.widen (k := 803) (n := 7621) (by decide) (by decide) ?_
  refine va_astq (A := A) hx hb hK hP hD hS 1 6 2 0 rfl rfl rfl rfl (i := 1) (by unfold vp_in; decide) dX9_init_115 (fun H locs hP2 hD2 hS2 => ?_)
  clear hP hD hS
  have hP : va_P (gD g) vwCl ((h0, .inr (9, [.ref (ad1 13 0 0), .ref (ad2 0 1 0), .ref q3, .ref q4, .ref (ad5 17 0 0), .ref (ad6 21 0 0), .ref (ad7 23 0 0), .ref (ad8 23 1 0), .ref (ad9 36 0 0)])) :: (q3, .inl (gC g 6, 3, .inr (.inr (.inr (.inr (va_up (va_up (fun _ => none) 0 (some (ad10 0 2 0))) 1 (some (ad11 0 3 0)))))))) :: (wsLw g (L_X0 3) ad11 ++ (wsLw g (L_X0 2) ad10 ++ (((((((([] ++ wsLw g (L_X1) ad1) ++ wsLw g (L_X0 1) ad2) ++ [(q4, .inl (gC g 1, 3, .inl (fun _ => 0)))]) ++ wsLw g (L_X2) ad5) ++ wsLw g (L_X3) ad6) ++ wsLw g (L_X5 0) ad7) ++ wsLw g (L_X5 1) ad8) ++ wsLw g (L_X8) ad9)))) H := hP2
  have hD : va_D A ((h0, .inr (9, [.ref (ad1 13 0 0), .ref (ad2 0 1 0), .ref q3, .ref q4, .ref (ad5 17 0 0), .ref (ad6 21 0 0), .ref (ad7 23 0 0), .ref (ad8 23 1 0), .ref (ad9 36 0 0)])) :: (q3, .inl (gC g 6, 3, .inr (.inr (.inr (.inr (va_up (va_up (fun _ => none) 0 (some (ad10 0 2 0))) 1 (some (ad11 0 3 0)))))))) :: (wsLw g (L_X0 3) ad11 ++ (wsLw g (L_X0 2) ad10 ++ (((((((([] ++ wsLw g (L_X1) ad1) ++ wsLw g (L_X0 1) ad2) ++ [(q4, .inl (gC g 1, 3, .inl (fun _ => 0)))]) ++ wsLw g (L_X2) ad5) ++ wsLw g (L_X3) ad6) ++ wsLw g (L_X5 0) ad7) ++ wsLw g (L_X5 1) ad8) ++ wsLw g (L_X8) ad9)))) := hD2
  have hS := hS2
  clear hP2 hD2 hS2
  refine lv_iinc (k := 0) (v := 2) (lv' := [(1, .int 2), (0, .ref h0)]) hx hb dX9_init_116 hl rfl (by decide) (by decide) rfl (fun ls hl2 => ?_)
  clear hl
  have hl := hl2
  clear hl2
  refine lv_goto (tgt := 98) hx hb dX9_init_119 (by decide) ?_
  refine lv_iload_n hx hb dX9_init_98 rfl (lv_at hl 0 rfl) ?_
  refine lv_iconst (v := 3) hx hb dX9_init_99 (by decide) ?_
  refine lv_icmp_ge (tgt := 122) hx hb dX9_init_100 (by decide) (fun h => absurd h (by decide)) (fun _ => ?_)
  refine lv_aload_n hx hb dX9_init_103 rfl (lv_at hl 1 rfl) ?_
  refine va_get hx hb hts inUX9 hown hK hP 0 rfl rfl 2 (by decide) (hts _ u_366) (fun _ h9 => h9) rfl dX9_init_104 ?_
  refine lv_iload_n hx hb dX9_init_107 rfl (lv_at hl 0 rfl) ?_
  refine va_new (ci := 0) (fs := [.int 0, .int 0, .int 0, .int 0, .int 0, .int 0, .int 0, .int 0, .null, .null, .null, .null, .null, .null, .null]) (C := RX0) (T := TX0) (N := 15) hx hb hts inUX0 tyX0 tyX0_ok hown (hts _ u_248) (hts _ u_175) (hts _ u_128) hK hP hD hS hA rfl (by decide +kernel) (by rw [hR]; exact Nat.le_of_ble_eq_true rfl) (by rw [hR]; exact Nat.le_of_ble_eq_true rfl) dX9_init_108 (fun q12 H hP2 hD2 hS2 => ?_)
  refine W.widen (k := 804) (n := 7636) (by decide) (by decide) ?_
  clear hP hD hS
  have hP := hP2
  have hD := hD2
  have hS := hS2
  clear hP2 hD2 hS2
  refine lv_dup hx hb dX9_init_111 rfl ?_
  refine n_callN (rest := [.ref q12, .int 2, .ref q3]) (wr := ((h0, .inr (9, [.ref (ad1 13 0 0), .ref (ad2 0 1 0), .ref q3, .ref q4, .ref (ad5 17 0 0), .ref (ad6 21 0 0), .ref (ad7 23 0 0), .ref (ad8 23 1 0), .ref (ad9 36 0 0)])) :: (q3, .inl (gC g 6, 3, .inr (.inr (.inr (.inr (va_up (va_up (fun _ => none) 0 (some (ad10 0 2 0))) 1 (some (ad11 0 3 0)))))))) :: (wsLw g (L_X0 3) ad11 ++ (wsLw g (L_X0 2) ad10 ++ (((((((([] ++ wsLw g (L_X1) ad1) ++ wsLw g (L_X0 1) ad2) ++ [(q4, .inl (gC g 1, 3, .inl (fun _ => 0)))]) ++ wsLw g (L_X2) ad5) ++ wsLw g (L_X3) ad6) ++ wsLw g (L_X5 0) ad7) ++ wsLw g (L_X5 1) ad8) ++ wsLw g (L_X8) ad9))))) hx hb hml hown hts hK hCN hA hR hl hP hD hS (n_X0_init g l 4 q12 _) dX9_init_112 ⟨"WatchStack", by decide +kernel⟩ rfl u_176 mi_X0_init (by decide) (Nat.le_of_ble_eq_true rfl) (by decide) (by decide) (fun ad12 H locs hh hP2 hD2 hS2 => ?_)
  have hh2 : ad12 0 4 0 = q12 := Option.some.inj hh
  clear hh
  clear hP hD hS
  have hP : va_P (gD g) vwCl ((h0, .inr (9, [.ref (ad1 13 0 0), .ref (ad2 0 1 0), .ref q3, .ref q4, .ref (ad5 17 0 0), .ref (ad6 21 0 0), .ref (ad7 23 0 0), .ref (ad8 23 1 0), .ref (ad9 36 0 0)])) :: (q3, .inl (gC g 6, 3, .inr (.inr (.inr (.inr (va_up (va_up (fun _ => none) 0 (some (ad10 0 2 0))) 1 (some (ad11 0 3 0)))))))) :: (wsLw g (L_X0 4) ad12 ++ (wsLw g (L_X0 3) ad11 ++ (wsLw g (L_X0 2) ad10 ++ (((((((([] ++ wsLw g (L_X1) ad1) ++ wsLw g (L_X0 1) ad2) ++ [(q4, .inl (gC g 1, 3, .inl (fun _ => 0)))]) ++ wsLw g (L_X2) ad5) ++ wsLw g (L_X3) ad6) ++ wsLw g (L_X5 0) ad7) ++ wsLw g (L_X5 1) ad8) ++ wsLw g (L_X8) ad9))))) H := n_rot hP2
  have hD : va_D A ((h0, .inr (9, [.ref (ad1 13 0 0), .ref (ad2 0 1 0), .ref q3, .ref q4, .ref (ad5 17 0 0), .ref (ad6 21 0 0), .ref (ad7 23 0 0), .ref (ad8 23 1 0), .ref (ad9 36 0 0)])) :: (q3, .inl (gC g 6, 3, .inr (.inr (.inr (.inr (va_up (va_up (fun _ => none) 0 (some (ad10 0 2 0))) 1 (some (ad11 0 3 0)))))))) :: (wsLw g (L_X0 4) ad12 ++ (wsLw g (L_X0 3) ad11 ++ (wsLw g (L_X0 2) ad10 ++ (((((((([] ++ wsLw g (L_X1) ad1) ++ wsLw g (L_X0 1) ad2) ++ [(q4, .inl (gC g 1, 3, .inl (fun _ => 0)))]) ++ wsLw g (L_X2) ad5) ++ wsLw g (L_X3) ad6) ++ wsLw g (L_X5 0) ad7) ++ wsLw g (L_X5 1) ad8) ++ wsLw g (L_X8) ad9))))) := n_rotD hD2
  have hS := hS2
  clear hP2 hD2 hS2
  subst hh2
  refine W.widen (k := 850) (n := 7881) (by decide) (by decide) ?_
  refine va_astq (A := A) hx hb hK hP hD hS 1 6 2 0 rfl rfl rfl rfl (i := 2) (by unfold vp_in; decide) dX9_init_115 (fun H locs hP2 hD2 hS2 => ?_)
  clear hP hD hS
  have hP : va_P (gD g) vwCl ((h0, .inr (9, [.ref (ad1 13 0 0), .ref (ad2 0 1 0), .ref q3, .ref q4, .ref (ad5 17 0 0), .ref (ad6 21 0 0), .ref (ad7 23 0 0), .ref (ad8 23 1 0), .ref (ad9 36 0 0)])) :: (q3, .inl (gC g 6, 3, .inr (.inr (.inr (.inr (va_up (va_up (va_up (fun _ => none) 0 (some (ad10 0 2 0))) 1 (some (ad11 0 3 0))) 2 (some (ad12 0 4 0)))))))) :: (wsLw g (L_X0 4) ad12 ++ (wsLw g (L_X0 3) ad11 ++ (wsLw g (L_X0 2) ad10 ++ (((((((([] ++ wsLw g (L_X1) ad1) ++ wsLw g (L_X0 1) ad2) ++ [(q4, .inl (gC g 1, 3, .inl (fun _ => 0)))]) ++ wsLw g (L_X2) ad5) ++ wsLw g (L_X3) ad6) ++ wsLw g (L_X5 0) ad7) ++ wsLw g (L_X5 1) ad8) ++ wsLw g (L_X8) ad9))))) H := hP2
  have hD : va_D A ((h0, .inr (9, [.ref (ad1 13 0 0), .ref (ad2 0 1 0), .ref q3, .ref q4, .ref (ad5 17 0 0), .ref (ad6 21 0 0), .ref (ad7 23 0 0), .ref (ad8 23 1 0), .ref (ad9 36 0 0)])) :: (q3, .inl (gC g 6, 3, .inr (.inr (.inr (.inr (va_up (va_up (va_up (fun _ => none) 0 (some (ad10 0 2 0))) 1 (some (ad11 0 3 0))) 2 (some (ad12 0 4 0)))))))) :: (wsLw g (L_X0 4) ad12 ++ (wsLw g (L_X0 3) ad11 ++ (wsLw g (L_X0 2) ad10 ++ (((((((([] ++ wsLw g (L_X1) ad1) ++ wsLw g (L_X0 1) ad2) ++ [(q4, .inl (gC g 1, 3, .inl (fun _ => 0)))]) ++ wsLw g (L_X2) ad5) ++ wsLw g (L_X3) ad6) ++ wsLw g (L_X5 0) ad7) ++ wsLw g (L_X5 1) ad8) ++ wsLw g (L_X8) ad9))))) := hD2
  have hS := hS2
  clear hP2 hD2 hS2
  refine lv_iinc (k := 0) (v := 3) (lv' := [(1, .int 3), (0, .ref h0)]) hx hb dX9_init_116 hl rfl (by decide) (by decide) rfl (fun ls hl2 => ?_)
  clear hl
  have hl := hl2
  clear hl2
  refine lv_goto (tgt := 98) hx hb dX9_init_119 (by decide) ?_
  refine lv_iload_n hx hb dX9_init_98 rfl (lv_at hl 0 rfl) ?_
  refine lv_iconst (v := 3) hx hb dX9_init_99 (by decide) ?_
  refine lv_icmp_ge (tgt := 122) hx hb dX9_init_100 (by decide) (fun _ => ?_) (fun h => absurd (by decide) h)
  obtain ⟨AD, hAD⟩ : ∃ AD : Nat → Nat → Nat → Nat, AD = (fun κ b' i => if (13 ≤ κ ∧ κ ≤ 16) ∨ (κ ≤ 12 ∧ b' = 0) then ad1 κ b' i else if κ ≤ 12 ∧ b' = 1 then ad2 κ b' i else if κ = 42 then q3 else if κ = 43 then q4 else if 17 ≤ κ ∧ κ ≤ 20 then ad5 κ b' i else if 21 ≤ κ ∧ κ ≤ 22 then ad6 κ b' i else if (23 ≤ κ ∧ κ ≤ 35 ∧ b' = 0) ∨ (κ ≤ 12 ∧ b' = 0 + 5) then ad7 κ b' i else if (23 ≤ κ ∧ κ ≤ 35 ∧ b' = 1) ∨ (κ ≤ 12 ∧ b' = 1 + 5) then ad8 κ b' i else if (36 ≤ κ ∧ κ ≤ 40) ∨ (23 ≤ κ ∧ κ ≤ 35 ∧ b' = 2) ∨ (κ ≤ 12 ∧ b' = 7) then ad9 κ b' i else if κ ≤ 12 ∧ b' = 2 then ad10 κ b' i else if κ ≤ 12 ∧ b' = 3 then ad11 κ b' i else if κ ≤ 12 ∧ b' = 4 then ad12 κ b' i else if κ = 41 then h0 else 0) := ⟨_, rfl⟩
  have hP := n_refs (f' := (fun j => some (AD 0 (j + 2) 0))) (fun j hj => by
    subst hAD
    rcases (by omega : j = 0 ∨ j = 1 ∨ j = 2) with rfl | rfl | rfl <;> rfl) hP
  have hD := n_refsD (f' := (fun j => some (AD 0 (j + 2) 0))) hD
  have e : wsLw g (L_X9) AD = ((h0, .inr (9, [.ref (ad1 13 0 0), .ref (ad2 0 1 0), .ref q3, .ref q4, .ref (ad5 17 0 0), .ref (ad6 21 0 0), .ref (ad7 23 0 0), .ref (ad8 23 1 0), .ref (ad9 36 0 0)])) :: (q3, .inl (gC g 6, 3, .inr (.inr (.inr (.inr (fun j => some (AD 0 (j + 2) 0))))))) :: (wsLw g (L_X0 4) ad12 ++ (wsLw g (L_X0 3) ad11 ++ (wsLw g (L_X0 2) ad10 ++ (((((((([] ++ wsLw g (L_X1) ad1) ++ wsLw g (L_X0 1) ad2) ++ [(q4, .inl (gC g 1, 3, .inl (fun _ => 0)))]) ++ wsLw g (L_X2) ad5) ++ wsLw g (L_X3) ad6) ++ wsLw g (L_X5 0) ad7) ++ wsLw g (L_X5 1) ad8) ++ wsLw g (L_X8) ad9))))) := by
    have g0 : wsLw g L_X1 AD = wsLw g L_X1 ad1 := cg_X1 (fun κ b' i h9 => by
      rw [hAD]
      exact if_pos (by omega))
    have g1 : wsLw g (L_X0 1) AD = wsLw g (L_X0 1) ad2 := cg_X0 1 (fun κ i h8 h9 => by
      rw [hAD]
      exact (if_neg (by omega)).trans (if_pos (by omega)))
    have g2 : wsLw g L_X2 AD = wsLw g L_X2 ad5 := cg_X2 (fun κ i h8 h9 => by
      rw [hAD]
      exact (if_neg (by omega)).trans ((if_neg (by omega)).trans ((if_neg (by omega)).trans ((if_neg (by omega)).trans (if_pos (by omega))))))
    have g3 : wsLw g L_X3 AD = wsLw g L_X3 ad6 := cg_X3 (fun κ i h8 h9 => by
      rw [hAD]
      exact (if_neg (by omega)).trans ((if_neg (by omega)).trans ((if_neg (by omega)).trans ((if_neg (by omega)).trans ((if_neg (by omega)).trans (if_pos (by omega)))))))
    have g4 : wsLw g (L_X5 0) AD = wsLw g (L_X5 0) ad7 := cg_X5 0 (fun κ b' i h9 => by
      rw [hAD]
      exact (if_neg (by omega)).trans ((if_neg (by omega)).trans ((if_neg (by omega)).trans ((if_neg (by omega)).trans ((if_neg (by omega)).trans ((if_neg (by omega)).trans (if_pos (by omega))))))))
    have g5 : wsLw g (L_X5 1) AD = wsLw g (L_X5 1) ad8 := cg_X5 1 (fun κ b' i h9 => by
      rw [hAD]
      exact (if_neg (by omega)).trans ((if_neg (by omega)).trans ((if_neg (by omega)).trans ((if_neg (by omega)).trans ((if_neg (by omega)).trans ((if_neg (by omega)).trans ((if_neg (by omega)).trans (if_pos (by omega)))))))))
    have g6 : wsLw g L_X8 AD = wsLw g L_X8 ad9 := cg_X8 (fun κ b' i h9 => by
      rw [hAD]
      exact (if_neg (by omega)).trans ((if_neg (by omega)).trans ((if_neg (by omega)).trans ((if_neg (by omega)).trans ((if_neg (by omega)).trans ((if_neg (by omega)).trans ((if_neg (by omega)).trans ((if_neg (by omega)).trans (if_pos (by omega))))))))))
    have g7 : wsLw g (L_X0 2) AD = wsLw g (L_X0 2) ad10 := cg_X0 2 (fun κ i h8 h9 => by
      rw [hAD]
      exact (if_neg (by omega)).trans ((if_neg (by omega)).trans ((if_neg (by omega)).trans ((if_neg (by omega)).trans ((if_neg (by omega)).trans ((if_neg (by omega)).trans ((if_neg (by omega)).trans ((if_neg (by omega)).trans ((if_neg (by omega)).trans (if_pos (by omega)))))))))))
    have g8 : wsLw g (L_X0 3) AD = wsLw g (L_X0 3) ad11 := cg_X0 3 (fun κ i h8 h9 => by
      rw [hAD]
      exact (if_neg (by omega)).trans ((if_neg (by omega)).trans ((if_neg (by omega)).trans ((if_neg (by omega)).trans ((if_neg (by omega)).trans ((if_neg (by omega)).trans ((if_neg (by omega)).trans ((if_neg (by omega)).trans ((if_neg (by omega)).trans ((if_neg (by omega)).trans (if_pos (by omega))))))))))))
    have g9 : wsLw g (L_X0 4) AD = wsLw g (L_X0 4) ad12 := cg_X0 4 (fun κ i h8 h9 => by
      rw [hAD]
      exact (if_neg (by omega)).trans ((if_neg (by omega)).trans ((if_neg (by omega)).trans ((if_neg (by omega)).trans ((if_neg (by omega)).trans ((if_neg (by omega)).trans ((if_neg (by omega)).trans ((if_neg (by omega)).trans ((if_neg (by omega)).trans ((if_neg (by omega)).trans ((if_neg (by omega)).trans (if_pos (by omega)))))))))))))
    unfold L_X9
    simp only [wsLw_cons, wsLw_app, wsLw_nil]
    rw [g0, g1, g2, g3, g4, g5, g6, g7, g8, g9]
    subst hAD
    rfl
  rw [← e] at hP hD
  exact W.vret hx hb hr (fun t ht hW => ⟨rfl, ⟨AD, by rw [ht]; exact hP, hD, by rw [hAD]; rfl⟩, hS.F ht⟩) hS.2.2 dX9_init_122 hlk
theorem cg_X9 {g : Gw} {ad ad' : Nat → Nat → Nat → Nat} (h : ∀ κ b' i, (κ ≤ 43) → ad κ b' i = ad' κ b' i) : wsLw g (L_X9) ad = wsLw g (L_X9) ad' := by
  have h41 := fun i => h 41 0 i (by omega)
  have c1 : cellW (gLw g ad) M0w 41 0 0 = cellW (gLw g ad') M0w 41 0 0 := cw_41 (h 13 0 0 (by omega)) (h 0 1 0 (by omega)) (h 42 0 0 (by omega)) (h 43 0 0 (by omega)) (h 17 0 0 (by omega)) (h 21 0 0 (by omega)) (h 23 0 0 (by omega)) (h 23 1 0 (by omega)) (h 36 0 0 (by omega))
  have h42 := fun i => h 42 0 i (by omega)
  have c2 : cellW (gLw g ad) M0w 42 0 0 = cellW (gLw g ad') M0w 42 0 0 := cw_42 (fun j => h 0 (j + 2) 0 (by omega))
  have hC3 : wsLw g (L_X0 4) ad = wsLw g (L_X0 4) ad' := cg_X0 4 (fun κ i h8 h9 => h κ 4 i (by omega))
  have hC4 : wsLw g (L_X0 3) ad = wsLw g (L_X0 3) ad' := cg_X0 3 (fun κ i h8 h9 => h κ 3 i (by omega))
  have hC5 : wsLw g (L_X0 2) ad = wsLw g (L_X0 2) ad' := cg_X0 2 (fun κ i h8 h9 => h κ 2 i (by omega))
  have hC6 : wsLw g L_X1 ad = wsLw g L_X1 ad' := cg_X1 (fun κ b' i h9 => h κ b' i (by omega))
  have hC7 : wsLw g (L_X0 1) ad = wsLw g (L_X0 1) ad' := cg_X0 1 (fun κ i h8 h9 => h κ 1 i (by omega))
  have h43 := fun i => h 43 0 i (by omega)
  have c8 : cellW (gLw g ad) M0w 43 0 0 = cellW (gLw g ad') M0w 43 0 0 := rfl
  have hC9 : wsLw g L_X2 ad = wsLw g L_X2 ad' := cg_X2 (fun κ i h8 h9 => h κ 0 i (by omega))
  have hC10 : wsLw g L_X3 ad = wsLw g L_X3 ad' := cg_X3 (fun κ i h8 h9 => h κ 0 i (by omega))
  have hC11 : wsLw g (L_X5 0) ad = wsLw g (L_X5 0) ad' := cg_X5 0 (fun κ b' i h9 => h κ b' i (by omega))
  have hC12 : wsLw g (L_X5 1) ad = wsLw g (L_X5 1) ad' := cg_X5 1 (fun κ b' i h9 => h κ b' i (by omega))
  have hC13 : wsLw g L_X8 ad = wsLw g L_X8 ad' := cg_X8 (fun κ b' i h9 => h κ b' i (by omega))
  unfold L_X9
  simp only [wsLw_cons, wsLw_app, wsLw_nil]
  rw [h41 0, c1, h42 0, c2, hC3, hC4, hC5, hC6, hC7, h43 0, c8, hC9, hC10, hC11, hC12, hC13]
