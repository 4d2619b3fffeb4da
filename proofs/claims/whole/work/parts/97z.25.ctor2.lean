def L_X4 (b : Nat) : List (Nat × Nat × Nat) := (26, b, 0) :: ([] ++ ((27, b, 0) :: (List.range 128).map (fun i => (28, b, i))))
set_option maxRecDepth 100000 in
set_option maxHeartbeats 8000000 in
theorem n_X4_init (g : Gw) (l : Launch) (b : Nat) (h0 sz : Nat) : NMet g l yX4_init cX4_init 1 1 129 640 h0 4 [.null, .int 0] sz (wsLw g (L_X4 b)) := by
  refine NMet.of (own := RX4) (by decide +kernel) rfl rfl (by decide) ?_
  intro p e R s m args below meth c A hx hb hml hown hts hK hCN hA hR hlk hr hnm H ls hP hD hS hl
  refine lv_aload_n hx hb dX4_init_0 rfl (lv_at hl 0 rfl) ?_
  refine W.objInit hx hb hown (hts _ u_279) (hts _ u_151) (hts _ u_152) rfl (by rw [hml]; exact hl.1) rfl dX4_init_1 (by rw [hR]; exact Nat.le_of_ble_eq_true rfl) (by rw [hR]; exact Nat.le_of_ble_eq_true rfl) ?_
  refine W.eq (g2 := F0 m 4 ls []) rfl ?_
  refine lv_aload_n hx hb dX4_init_4 rfl (lv_at hl 0 rfl) ?_
  refine lv_sipush (v := 128) hx hb dX4_init_5 (by decide) ?_
  refine lv_iconst (v := 4) hx hb dX4_init_8 (by decide) ?_
  refine n_mna (N := 128) (K := 4) hx hb hown hts hK hCN hA hP hD hS dX4_init_9 u_280 u_173 (by decide) (by decide) (by decide) (by decide) (by decide) (by decide) (by rw [hR]; exact Nat.le_of_ble_eq_true rfl) (by rw [hR]; exact Nat.le_of_ble_eq_true rfl) (fun q1 r1 H hP2 hD2 hS2 => ?_)
  clear hP hD hS
  have hP : va_P (gD g) vwCl (((h0, .inr (4, [.null, .int 0])) :: ([] ++ ((q1, .inl (gC g 5, 128, .inr (.inr (.inr (.inr (fun i => some (r1 i))))))) :: (List.range 128).map (fun i => (r1 i, .inl (gC g 0, 4, .inl (fun _ => 0)))))))) H := hP2
  have hD : va_D A (((h0, .inr (4, [.null, .int 0])) :: ([] ++ ((q1, .inl (gC g 5, 128, .inr (.inr (.inr (.inr (fun i => some (r1 i))))))) :: (List.range 128).map (fun i => (r1 i, .inl (gC g 0, 4, .inl (fun _ => 0)))))))) := hD2
  have hS := hS2
  clear hP2 hD2 hS2
  refine W.widen (k := 129) (n := 640) (by decide) (by decide) ?_
  refine va_putF (D := gD g) (ci := 4) (v := .ref q1) (ty := (.array (.array .int))) (C := RX4) (T := TX4) (N := 2) hx hb hts inUX4 tyX4 tyX4_ok nmX4 hown hK hP hD hS 0 rfl rfl 0 (by decide) (hts _ u_281) (fun _ h9 => h9) rfl hnm rfl (by decide +kernel) rfl rfl (Nat.le_of_ble_eq_true rfl) dX4_init_13 (fun H locs hP2 hD2 hS2 => ?_)
  clear hP hD hS
  have hP : va_P (gD g) vwCl (((h0, .inr (4, [.ref q1, .int 0])) :: ([] ++ ((q1, .inl (gC g 5, 128, .inr (.inr (.inr (.inr (fun i => some (r1 i))))))) :: (List.range 128).map (fun i => (r1 i, .inl (gC g 0, 4, .inl (fun _ => 0)))))))) H := hP2
  have hD : va_D A (((h0, .inr (4, [.ref q1, .int 0])) :: ([] ++ ((q1, .inl (gC g 5, 128, .inr (.inr (.inr (.inr (fun i => some (r1 i))))))) :: (List.range 128).map (fun i => (r1 i, .inl (gC g 0, 4, .inl (fun _ => 0)))))))) := hD2
  have hS := hS2
  clear hP2 hD2 hS2
  have e : wsLw g (L_X4 b) (fun κ _ i => match κ with | 26 => h0 | 27 => q1 | 28 => r1 i | _ => 0) = ((h0, .inr (4, [.ref q1, .int 0])) :: ([] ++ ((q1, .inl (gC g 5, 128, .inr (.inr (.inr (.inr (fun i => some (r1 i))))))) :: (List.range 128).map (fun i => (r1 i, .inl (gC g 0, 4, .inl (fun _ => 0))))))) := by
    unfold wsLw L_X4
    simp only [List.map_cons, List.map_append, List.map_nil, List.map_map, Function.comp_def]
    rfl
  rw [← e] at hP hD
  exact W.vret hx hb hr (fun t ht hW => ⟨rfl, ⟨_, by rw [ht]; exact hP, hD, rfl⟩, hS.F ht⟩) hS.2.2 dX4_init_16 hlk
