def F_X9_had (p1 : Int32) (M : Mw) : Option (Int32 × Mw) :=
  (if p1 < 0 then some ((-2), M) else (if p1 < (M.1 0 1 0 0) then ((F_X5_show 1 (p1 + 1) M).bind (fun M3 => some ((M3.1 23 1 0 3), M3))) else some ((-2), M)))
set_option maxRecDepth 100000 in
set_option maxHeartbeats 4000000 in
theorem c_X9_had {g : Gw} {l : Launch} (p1 : Int32) (M : Mw) : Kw g l yX9_had cX9_had 2 (some .int) 7 0 0 [.ref (gA g 41 0 0), .int p1] M (fun q : Int32 × Mw => (some (.int q.1), q.2)) (F_X9_had p1 M) := by
  refine Kw.of (own := RX9) (lv0 := [(0, .ref (gA g 41 0 0)), (1, .int p1)]) (by decide +kernel) rfl (Nat.le_of_ble_eq_true rfl) rfl (fun x C hl hm => ?_)
  subst hl
  unfold F_X9_had
  refine r_iload_n C 1 dX9_had_0 rfl rfl ?_
  refine r_if_lt (tgt := 15) C dX9_had_1 (by decide) (fun h1 => ?_) (fun h1 => ?_)
  · refine r_bipush (v := (-2)) C dX9_had_15 (by decide) ?_
    exact r_iret C dX9_had_17 rfl rfl (xk0 hm) (xn0 hm)
  · refine r_iload_n C 1 dX9_had_4 rfl rfl ?_
    refine r_aload_n C 0 dX9_had_5 rfl rfl ?_
    refine gf_41_1 C dX9_had_6 u_365 in_41 ?_
    refine gf_0_0 C dX9_had_9 u_183 (in_0 (by decide)) ?_
    refine r_icmp_lt (tgt := 18) C dX9_had_12 (by decide) (fun h2 => ?_) (fun h2 => ?_)
    · refine r_aload_n C 0 dX9_had_18 rfl rfl ?_
      refine gf_41_7 C dX9_had_19 u_371 in_41 ?_
      refine r_iload_n C 1 dX9_had_22 rfl rfl ?_
      refine r_iconst (v := 1) C dX9_had_23 (by decide) ?_
      refine r_iadd C dX9_had_24 ?_
      refine r_callVU (rest := []) C (c_X5_show (by decide) (p1 + 1) M) dX9_had_25 u_570 (in_23 (by decide)) (contW_23 g _ _ _ _ _) rfl u_571 u_572 mi_X5_show (by decide) rfl rfl (Nat.le_of_ble_eq_true rfl) (xk1 hm (by decide)) (xn1 hm (by decide)) (fun M3 h4 => ?_)
      refine r_aload_n C 0 dX9_had_28 rfl rfl ?_
      refine gf_41_7 C dX9_had_29 u_371 in_41 ?_
      refine gf_23_3 C dX9_had_32 u_336 (in_23 (by decide)) ?_
      exact r_iret C dX9_had_35 rfl rfl (xk0 hm) (xn0 hm)
    · refine r_bipush (v := (-2)) C dX9_had_15 (by decide) ?_
      exact r_iret C dX9_had_17 rfl rfl (xk0 hm) (xn0 hm)
def F_X9_isTick (p1 : Int32) (M : Mw) : Option (Int32) :=
  (if (M.1 0 1 0 3) ≤ 0 then some 0 else (if p1 < 0 then some 0 else (if (M.1 0 1 0 0) < p1 then some 0 else some 1)))
set_option maxRecDepth 100000 in
set_option maxHeartbeats 4000000 in
theorem c_X9_isTick {g : Gw} {l : Launch} (p1 : Int32) (M : Mw) : Kw g l yX9_isTick cX9_isTick 2 (some .boolean) 1 0 0 [.ref (gA g 41 0 0), .int p1] M (fun v : Int32 => (some (.int v), M)) (F_X9_isTick p1 M) := by
  refine Kw.of (own := RX9) (lv0 := [(0, .ref (gA g 41 0 0)), (1, .int p1)]) (by decide +kernel) rfl (Nat.le_of_ble_eq_true rfl) rfl (fun x C hl hm => ?_)
  subst hl
  unfold F_X9_isTick
  refine r_aload_n C 0 dX9_isTick_0 rfl rfl ?_
  refine gf_41_1 C dX9_isTick_1 u_365 in_41 ?_
  refine gf_0_3 C dX9_isTick_4 u_195 (in_0 (by decide)) ?_
  refine r_if_le (tgt := 29) C dX9_isTick_7 (by decide) (fun h1 => ?_) (fun h1 => ?_)
  · refine r_iconst (v := 0) C dX9_isTick_29 (by decide) ?_
    exact r_zretc C dX9_isTick_30 rfl bz0 rfl (xk0 hm) (xn0 hm)
  · refine r_iload_n C 1 dX9_isTick_10 rfl rfl ?_
    refine r_if_lt (tgt := 29) C dX9_isTick_11 (by decide) (fun h2 => ?_) (fun h2 => ?_)
    · refine r_iconst (v := 0) C dX9_isTick_29 (by decide) ?_
      exact r_zretc C dX9_isTick_30 rfl bz0 rfl (xk0 hm) (xn0 hm)
    · refine r_iload_n C 1 dX9_isTick_14 rfl rfl ?_
      refine r_aload_n C 0 dX9_isTick_15 rfl rfl ?_
      refine gf_41_1 C dX9_isTick_16 u_365 in_41 ?_
      refine gf_0_0 C dX9_isTick_19 u_183 (in_0 (by decide)) ?_
      refine r_icmp_gt (tgt := 29) C dX9_isTick_22 (by decide) (fun h3 => ?_) (fun h3 => ?_)
      · refine r_iconst (v := 0) C dX9_isTick_29 (by decide) ?_
        exact r_zretc C dX9_isTick_30 rfl bz0 rfl (xk0 hm) (xn0 hm)
      · refine r_iconst (v := 1) C dX9_isTick_25 (by decide) ?_
        refine r_goto (tgt := 30) C dX9_isTick_26 (by decide) ?_
        exact r_zretc C dX9_isTick_30 rfl bz1 rfl (xk0 hm) (xn0 hm)
def F_X9_idle (p1 : Int32) (M : Mw) : Option (Int32 × Mw) :=
  ((F_X9_isTick p1 M).bind (fun v1 => (if v1 = 0 then some ((-2), M) else ((F_X5_show 1 p1 M).bind (fun M4 => some ((M4.1 23 1 0 4), M4))))))
set_option maxRecDepth 100000 in
set_option maxHeartbeats 4000000 in
theorem c_X9_idle {g : Gw} {l : Launch} (p1 : Int32) (M : Mw) : Kw g l yX9_idle cX9_idle 2 (some .int) 7 0 0 [.ref (gA g 41 0 0), .int p1] M (fun q : Int32 × Mw => (some (.int q.1), q.2)) (F_X9_idle p1 M) := by
  refine Kw.of (own := RX9) (lv0 := [(0, .ref (gA g 41 0 0)), (1, .int p1)]) (by decide +kernel) rfl (Nat.le_of_ble_eq_true rfl) rfl (fun x C hl hm => ?_)
  subst hl
  unfold F_X9_idle
  refine r_aload_n C 0 dX9_idle_0 rfl rfl ?_
  refine r_iload_n C 1 dX9_idle_1 rfl rfl ?_
  refine r_callVRi (rest := []) C (c_X9_isTick p1 M) dX9_idle_2 u_869 in_41 (contW_41 g _ _ _ _ _) rfl u_870 u_44 mi_X9_isTick (by decide) rfl rfl (Nat.le_of_ble_eq_true rfl) (xk1 hm (by decide)) (xn1 hm (by decide)) (fun v1 h2 => ?_)
  refine r_if_ne (tgt := 11) C dX9_idle_5 (by decide) (fun h3 => ?_) (fun h3 => ?_)
  · refine r_bipush (v := (-2)) C dX9_idle_8 (by decide) ?_
    exact r_iret C dX9_idle_10 rfl rfl (xk0 hm) (xn0 hm)
  · refine r_aload_n C 0 dX9_idle_11 rfl rfl ?_
    refine gf_41_7 C dX9_idle_12 u_371 in_41 ?_
    refine r_iload_n C 1 dX9_idle_15 rfl rfl ?_
    refine r_callVU (rest := []) C (c_X5_show (by decide) p1 M) dX9_idle_16 u_570 (in_23 (by decide)) (contW_23 g _ _ _ _ _) rfl u_571 u_572 mi_X5_show (by decide) rfl rfl (Nat.le_of_ble_eq_true rfl) (xk1 hm (by decide)) (xn1 hm (by decide)) (fun M4 h5 => ?_)
    refine r_aload_n C 0 dX9_idle_19 rfl rfl ?_
    refine gf_41_7 C dX9_idle_20 u_371 in_41 ?_
    refine gf_23_4 C dX9_idle_23 u_338 (in_23 (by decide)) ?_
    exact r_iret C dX9_idle_26 rfl rfl (xk0 hm) (xn0 hm)
def F_X9_isTaskAndTick (p1 : Int32) (p2 : Int32) (M : Mw) : Option (Int32) :=
  ((F_X0_hasTask 1 p1 M).bind (fun v1 => (if v1 = 0 then some 0 else ((F_X9_isTick p2 M).bind (fun v4 => (if v4 = 0 then some 0 else some 1))))))
set_option maxRecDepth 100000 in
set_option maxHeartbeats 4000000 in
theorem c_X9_isTaskAndTick {g : Gw} {l : Launch} (p1 : Int32) (p2 : Int32) (M : Mw) : Kw g l yX9_isTaskAndTick cX9_isTaskAndTick 3 (some .boolean) 2 0 0 [.ref (gA g 41 0 0), .int p1, .int p2] M (fun v : Int32 => (some (.int v), M)) (F_X9_isTaskAndTick p1 p2 M) := by
  refine Kw.of (own := RX9) (lv0 := [(0, .ref (gA g 41 0 0)), (1, .int p1), (2, .int p2)]) (by decide +kernel) rfl (Nat.le_of_ble_eq_true rfl) rfl (fun x C hl hm => ?_)
  subst hl
  unfold F_X9_isTaskAndTick
  refine r_aload_n C 0 dX9_isTaskAndTick_0 rfl rfl ?_
  refine gf_41_1 C dX9_isTaskAndTick_1 u_365 in_41 ?_
  refine r_iload_n C 1 dX9_isTaskAndTick_4 rfl rfl ?_
  refine r_callVRi (rest := []) C (c_X0_hasTask (by decide) p1 M) dX9_isTaskAndTick_5 u_699 (in_0 (by decide)) (contW_0 g _ _ _ _ _) rfl u_510 u_511 mi_X0_hasTask (by decide) rfl rfl (Nat.le_of_ble_eq_true rfl) (xk1 hm (by decide)) (xn1 hm (by decide)) (fun v1 h2 => ?_)
  refine r_if_eq (tgt := 23) C dX9_isTaskAndTick_8 (by decide) (fun h3 => ?_) (fun h3 => ?_)
  · refine r_iconst (v := 0) C dX9_isTaskAndTick_23 (by decide) ?_
    exact r_zretc C dX9_isTaskAndTick_24 rfl bz0 rfl (xk0 hm) (xn0 hm)
  · refine r_aload_n C 0 dX9_isTaskAndTick_11 rfl rfl ?_
    refine r_iload_n C 2 dX9_isTaskAndTick_12 rfl rfl ?_
    refine r_callVRi (rest := []) C (c_X9_isTick p2 M) dX9_isTaskAndTick_13 u_869 in_41 (contW_41 g _ _ _ _ _) rfl u_870 u_44 mi_X9_isTick (by decide) rfl rfl (Nat.le_of_ble_eq_true rfl) (xk1 hm (by decide)) (xn1 hm (by decide)) (fun v4 h5 => ?_)
    refine r_if_eq (tgt := 23) C dX9_isTaskAndTick_16 (by decide) (fun h6 => ?_) (fun h6 => ?_)
    · refine r_iconst (v := 0) C dX9_isTaskAndTick_23 (by decide) ?_
      exact r_zretc C dX9_isTaskAndTick_24 rfl bz0 rfl (xk0 hm) (xn0 hm)
    · refine r_iconst (v := 1) C dX9_isTaskAndTick_19 (by decide) ?_
      refine r_goto (tgt := 24) C dX9_isTaskAndTick_20 (by decide) ?_
      exact r_zretc C dX9_isTaskAndTick_24 rfl bz1 rfl (xk0 hm) (xn0 hm)
def F_X9_stateOf (p1 : Int32) (p2 : Int32) (M : Mw) : Option (Mw) :=
  ((F_X5_show 1 p2 M).bind (fun M1 => (if inb p1 5 then some M1 else none)))
theorem stateOf_in {p1 p2 : Int32} {M M2 : Mw} (h : F_X9_stateOf p1 p2 M = some M2) : p1.toNatClampNeg < 5 := by
  unfold F_X9_stateOf at h
  cases hc : F_X5_show 1 p2 M with
  | none => rw [hc] at h; cases h
  | some M1 =>
    rw [hc] at h
    by_cases hi : inb p1 5 = true
    · exact inb_lt hi
    · have h2 : (if inb p1 5 then some M1 else none) = some M2 := h
      rw [if_neg hi] at h2
      cases h2
set_option maxRecDepth 100000 in
set_option maxHeartbeats 4000000 in
theorem c_X9_stateOf {g : Gw} {l : Launch} (p1 : Int32) (p2 : Int32) (M : Mw) : Kw g l yX9_stateOf cX9_stateOf 3 (some (.object "WatchStack$TaskState")) 7 0 0 [.ref (gA g 41 0 0), .int p1, .int p2] M (fun M : Mw => (some (.ref (gA g 25 1 p1.toNatClampNeg)), M)) (F_X9_stateOf p1 p2 M) := by
  refine Kw.of (own := RX9) (lv0 := [(0, .ref (gA g 41 0 0)), (1, .int p1), (2, .int p2)]) (by decide +kernel) rfl (Nat.le_of_ble_eq_true rfl) rfl (fun x C hl hm => ?_)
  subst hl
  unfold F_X9_stateOf
  refine r_aload_n C 0 dX9_stateOf_0 rfl rfl ?_
  refine gf_41_7 C dX9_stateOf_1 u_371 in_41 ?_
  refine r_iload_n C 2 dX9_stateOf_4 rfl rfl ?_
  refine r_callVU (rest := []) C (c_X5_show (by decide) p2 M) dX9_stateOf_5 u_570 (in_23 (by decide)) (contW_23 g _ _ _ _ _) rfl u_571 u_572 mi_X5_show (by decide) rfl rfl (Nat.le_of_ble_eq_true rfl) (xk1 hm (by decide)) (xn1 hm (by decide)) (fun M1 h2 => ?_)
  refine r_aload_n C 0 dX9_stateOf_8 rfl rfl ?_
  refine gf_41_7 C dX9_stateOf_9 u_371 in_41 ?_
  refine gf_23_1 C dX9_stateOf_12 u_332 (in_23 (by decide)) ?_
  refine r_iload_n C 1 dX9_stateOf_15 rfl rfl ?_
  refine r_aald (t0 := 7) (ty := .object "WatchStack$TaskState") C dX9_stateOf_16 (in_24 (by decide)) (contW_24 g _ _ _ _ _) rfl rfl (fun h3 => ?_)
  exact r_aret (rt := .object "WatchStack$TaskState") C (Or.inl ⟨_, rfl⟩) dX9_stateOf_17 rfl rfl (xk0 hm) (xn0 hm)
def F_X9_kicks (p1 : Int32) (p2 : Int32) (M : Mw) : Option (Int32 × Mw) :=
  ((F_X9_isTaskAndTick p1 p2 M).bind (fun v1 => (if v1 = 0 then some ((-2), M) else ((F_X9_stateOf p1 p2 M).bind (fun M4 => some ((M4.1 25 1 p1.toNatClampNeg 12), M4))))))
set_option maxRecDepth 100000 in
set_option maxHeartbeats 4000000 in
theorem c_X9_kicks {g : Gw} {l : Launch} (p1 : Int32) (p2 : Int32) (M : Mw) : Kw g l yX9_kicks cX9_kicks 3 (some .int) 8 0 0 [.ref (gA g 41 0 0), .int p1, .int p2] M (fun q : Int32 × Mw => (some (.int q.1), q.2)) (F_X9_kicks p1 p2 M) := by
  refine Kw.of (own := RX9) (lv0 := [(0, .ref (gA g 41 0 0)), (1, .int p1), (2, .int p2)]) (by decide +kernel) rfl (Nat.le_of_ble_eq_true rfl) rfl (fun x C hl hm => ?_)
  subst hl
  unfold F_X9_kicks
  refine r_aload_n C 0 dX9_kicks_0 rfl rfl ?_
  refine r_iload_n C 1 dX9_kicks_1 rfl rfl ?_
  refine r_iload_n C 2 dX9_kicks_2 rfl rfl ?_
  refine r_callVRi (rest := []) C (c_X9_isTaskAndTick p1 p2 M) dX9_kicks_3 u_876 in_41 (contW_41 g _ _ _ _ _) rfl u_877 u_45 mi_X9_isTaskAndTick (by decide) rfl rfl (Nat.le_of_ble_eq_true rfl) (xk1 hm (by decide)) (xn1 hm (by decide)) (fun v1 h2 => ?_)
  refine r_if_eq (tgt := 21) C dX9_kicks_6 (by decide) (fun h3 => ?_) (fun h3 => ?_)
  · refine r_bipush (v := (-2)) C dX9_kicks_21 (by decide) ?_
    exact r_iret C dX9_kicks_23 rfl rfl (xk0 hm) (xn0 hm)
  · refine r_aload_n C 0 dX9_kicks_9 rfl rfl ?_
    refine r_iload_n C 1 dX9_kicks_10 rfl rfl ?_
    refine r_iload_n C 2 dX9_kicks_11 rfl rfl ?_
    refine r_callVA (rest := []) C (c_X9_stateOf p1 p2 M) dX9_kicks_12 u_879 in_41 (contW_41 g _ _ _ _ _) rfl u_880 u_46 mi_X9_stateOf (by decide) rfl rfl (Nat.le_of_ble_eq_true rfl) (xk1 hm (by decide)) (xn1 hm (by decide)) (fun M4 h5 => ?_)
    refine gf_25_12 C dX9_kicks_15 u_319 (in_25 (by decide) (stateOf_in h5)) ?_
    refine r_goto (tgt := 23) C dX9_kicks_18 (by decide) ?_
    exact r_iret C dX9_kicks_23 rfl rfl (xk0 hm) (xn0 hm)
def F_X9_kicked (p1 : Int32) (p2 : Int32) (M : Mw) : Option (Int32 × Mw) :=
  ((F_X9_isTaskAndTick p1 p2 M).bind (fun v1 => (if v1 = 0 then some ((-2), M) else ((F_X9_stateOf p1 p2 M).bind (fun M4 => some ((M4.1 25 1 p1.toNatClampNeg 13), M4))))))
set_option maxRecDepth 100000 in
set_option maxHeartbeats 4000000 in
theorem c_X9_kicked {g : Gw} {l : Launch} (p1 : Int32) (p2 : Int32) (M : Mw) : Kw g l yX9_kicked cX9_kicked 3 (some .int) 8 0 0 [.ref (gA g 41 0 0), .int p1, .int p2] M (fun q : Int32 × Mw => (some (.int q.1), q.2)) (F_X9_kicked p1 p2 M) := by
  refine Kw.of (own := RX9) (lv0 := [(0, .ref (gA g 41 0 0)), (1, .int p1), (2, .int p2)]) (by decide +kernel) rfl (Nat.le_of_ble_eq_true rfl) rfl (fun x C hl hm => ?_)
  subst hl
  unfold F_X9_kicked
  refine r_aload_n C 0 dX9_kicked_0 rfl rfl ?_
  refine r_iload_n C 1 dX9_kicked_1 rfl rfl ?_
  refine r_iload_n C 2 dX9_kicked_2 rfl rfl ?_
  refine r_callVRi (rest := []) C (c_X9_isTaskAndTick p1 p2 M) dX9_kicked_3 u_876 in_41 (contW_41 g _ _ _ _ _) rfl u_877 u_45 mi_X9_isTaskAndTick (by decide) rfl rfl (Nat.le_of_ble_eq_true rfl) (xk1 hm (by decide)) (xn1 hm (by decide)) (fun v1 h2 => ?_)
  refine r_if_eq (tgt := 21) C dX9_kicked_6 (by decide) (fun h3 => ?_) (fun h3 => ?_)
  · refine r_bipush (v := (-2)) C dX9_kicked_21 (by decide) ?_
    exact r_iret C dX9_kicked_23 rfl rfl (xk0 hm) (xn0 hm)
  · refine r_aload_n C 0 dX9_kicked_9 rfl rfl ?_
    refine r_iload_n C 1 dX9_kicked_10 rfl rfl ?_
    refine r_iload_n C 2 dX9_kicked_11 rfl rfl ?_
    refine r_callVA (rest := []) C (c_X9_stateOf p1 p2 M) dX9_kicked_12 u_879 in_41 (contW_41 g _ _ _ _ _) rfl u_880 u_46 mi_X9_stateOf (by decide) rfl rfl (Nat.le_of_ble_eq_true rfl) (xk1 hm (by decide)) (xn1 hm (by decide)) (fun M4 h5 => ?_)
    refine gf_25_13 C dX9_kicked_15 u_321 (in_25 (by decide) (stateOf_in h5)) ?_
    refine r_goto (tgt := 23) C dX9_kicked_18 (by decide) ?_
    exact r_iret C dX9_kicked_23 rfl rfl (xk0 hm) (xn0 hm)
def B_X5_gapOfKick_5 (b : Nat) (l1 : Int32) (M : Mw) (k5 : Int32 → Int32 → Option (Int32)) (l3 : Int32) (l4 : Int32) : Option (Int32) :=
  (if (M.1 23 b 0 12) ≤ l4 then some (-1) else (if inb l4 200 then (if (M.1 31 b 0 l4.toNatClampNeg) = l1 then (if l3 = 0 then (if inb l4 200 then some (M.1 32 b 0 l4.toNatClampNeg) else none) else (bd (l3 + (-1)) (fun v6 => (bd (l4 + 1) (fun v7 => (k5 v6 v7)))))) else (bd (l4 + 1) (fun v4 => (k5 l3 v4)))) else none))
def F_X5_gapOfKick (b : Nat) (p1 : Int32) (p2 : Int32) (M : Mw) : Option (Int32) :=
  (it (fun _ _ => none) (B_X5_gapOfKick_5 b p1 M) FU p2 0)
set_option maxRecDepth 100000 in
set_option maxHeartbeats 4000000 in
theorem t_X5_gapOfKick_5 {g : Gw} {x : Xw} (C : Cw g x cX5_gapOfKick RX5 5 (some .int) 1) (hm : x.2.2.2.2.2.2.2.2.2.2.2 = (0, 0)) {b : Nat} (hb : b < 3) (M : Mw) (l1 : Int32) (k5 : Int32 → Int32 → Option (Int32)) (hk5 : ∀ (l3 : Int32) (l4 : Int32), Sw g x (fun v : Int32 => (some (.int v), M)) M 0 0 5 [(0, .ref (gA g 23 b 0)), (1, .int l1), (3, .int l3), (4, .int l4)] [] (k5 l3 l4)) (l3 : Int32) (l4 : Int32) : Sw g x (fun v : Int32 => (some (.int v), M)) M 0 0 5 [(0, .ref (gA g 23 b 0)), (1, .int l1), (3, .int l3), (4, .int l4)] [] (B_X5_gapOfKick_5 b l1 M k5 l3 l4) := by
  unfold B_X5_gapOfKick_5
  refine r_iload C 3 dX5_gapOfKick_5 rfl ?_
  refine r_aload_n C 0 dX5_gapOfKick_7 rfl rfl ?_
  refine gf_23_12 C dX5_gapOfKick_8 u_347 (in_23 hb) ?_
  refine r_icmp_ge (tgt := 46) C dX5_gapOfKick_11 (by decide) (fun h1 => ?_) (fun h1 => ?_)
  · refine r_iconst (v := (-1)) C dX5_gapOfKick_46 (by decide) ?_
    exact r_iret C dX5_gapOfKick_47 rfl rfl (xk0 hm) (xn0 hm)
  · refine r_aload_n C 0 dX5_gapOfKick_14 rfl rfl ?_
    refine gf_23_10 C dX5_gapOfKick_15 u_345 (in_23 hb) ?_
    refine r_iload C 3 dX5_gapOfKick_18 rfl ?_
    refine r_iald C dX5_gapOfKick_20 (in_31 hb) (contW_31 g _ _ _ _ _) (fun h2 => ?_)
    refine r_iload_n C 1 dX5_gapOfKick_21 rfl rfl ?_
    refine r_icmp_ne (tgt := 40) C dX5_gapOfKick_22 (by decide) (fun h3 => ?_) (fun h3 => ?_)
    · refine r_iload_n C 2 dX5_gapOfKick_25 rfl rfl ?_
      refine r_if_ne (tgt := 37) C dX5_gapOfKick_26 (by decide) (fun h5 => ?_) (fun h5 => ?_)
      · refine r_aload_n C 0 dX5_gapOfKick_29 rfl rfl ?_
        refine gf_23_11 C dX5_gapOfKick_30 u_346 (in_23 hb) ?_
        refine r_iload C 3 dX5_gapOfKick_33 rfl ?_
        refine r_iald C dX5_gapOfKick_35 (in_32 hb) (contW_32 g _ _ _ _ _) (fun h8 => ?_)
        exact r_iret C dX5_gapOfKick_36 rfl rfl (xk0 hm) (xn0 hm)
      · refine r_iinc (c := (-1)) (lv' := fun v6 => [(3, .int v6), (0, .ref (gA g 23 b 0)), (1, .int l1), (4, .int l4)]) C 2 dX5_gapOfKick_37 rfl (by decide) (by decide) (fun _ => rfl) (fun v6 => ?_)
        refine r_iinc (c := 1) (lv' := fun v7 => [(4, .int v7), (3, .int v6), (0, .ref (gA g 23 b 0)), (1, .int l1)]) C 3 dX5_gapOfKick_40 rfl (by decide) (by decide) (fun _ => rfl) (fun v7 => ?_)
        refine r_goto (tgt := 5) C dX5_gapOfKick_43 (by decide) ?_
        refine r_lv [2, 3, 1, 0] rfl ?_
        exact hk5 v6 v7
    · refine r_iinc (c := 1) (lv' := fun v4 => [(4, .int v4), (0, .ref (gA g 23 b 0)), (1, .int l1), (3, .int l3)]) C 3 dX5_gapOfKick_40 rfl (by decide) (by decide) (fun _ => rfl) (fun v4 => ?_)
      refine r_goto (tgt := 5) C dX5_gapOfKick_43 (by decide) ?_
      refine r_lv [1, 2, 3, 0] rfl ?_
      exact hk5 l3 v4
set_option maxRecDepth 100000 in
set_option maxHeartbeats 4000000 in
theorem tl_X5_gapOfKick_5 {g : Gw} {x : Xw} (C : Cw g x cX5_gapOfKick RX5 5 (some .int) 1) (hm : x.2.2.2.2.2.2.2.2.2.2.2 = (0, 0)) {b : Nat} (hb : b < 3) (M : Mw) (l1 : Int32) (n : Nat) : ∀ (l3 : Int32) (l4 : Int32), Sw g x (fun v : Int32 => (some (.int v), M)) M 0 0 5 [(0, .ref (gA g 23 b 0)), (1, .int l1), (3, .int l3), (4, .int l4)] [] (it (fun _ _ => none) (B_X5_gapOfKick_5 b l1 M) n l3 l4) := by
  induction n with
  | zero =>
    intro l3 l4
    exact r_none
  | succ n ih =>
    intro l3 l4
    exact t_X5_gapOfKick_5 C hm hb M l1 _ ih l3 l4
set_option maxRecDepth 100000 in
set_option maxHeartbeats 4000000 in
theorem c_X5_gapOfKick {g : Gw} {l : Launch} {b : Nat} (hb : b < 3) (p1 : Int32) (p2 : Int32) (M : Mw) : Kw g l yX5_gapOfKick cX5_gapOfKick 5 (some .int) 1 0 0 [.ref (gA g 23 b 0), .int p1, .int p2] M (fun v : Int32 => (some (.int v), M)) (F_X5_gapOfKick b p1 p2 M) := by
  refine Kw.of (own := RX5) (lv0 := [(0, .ref (gA g 23 b 0)), (1, .int p1), (2, .int p2)]) (by decide +kernel) rfl (Nat.le_of_ble_eq_true rfl) rfl (fun x C hl hm => ?_)
  subst hl
  unfold F_X5_gapOfKick
  refine r_iload_n C 2 dX5_gapOfKick_0 rfl rfl ?_
  refine r_istore_n0 (lv' := [(3, .int p2), (0, .ref (gA g 23 b 0)), (1, .int p1), (2, .int p2)]) C dX5_gapOfKick_1 rfl (by decide) rfl ?_
  refine r_iconst (v := 0) C dX5_gapOfKick_2 (by decide) ?_
  refine r_istore0 (lv' := [(4, .int 0), (3, .int p2), (0, .ref (gA g 23 b 0)), (1, .int p1), (2, .int p2)]) C dX5_gapOfKick_3 (by decide) rfl ?_
  refine r_lv [2, 3, 1, 0] rfl ?_
  exact tl_X5_gapOfKick_5 C hm hb M p1 FU p2 0
def F_X9_gap (p1 : Int32) (p2 : Int32) (M : Mw) : Option (Int32) :=
  ((F_X0_hasTask 1 p1 M).bind (fun v1 => (if v1 = 0 then some (-2) else (if 0 ≤ p2 then ((F_X5_gapOfKick 0 p1 p2 M).bind (fun v5 => some v5)) else some (-2)))))
set_option maxRecDepth 100000 in
set_option maxHeartbeats 4000000 in
theorem c_X9_gap {g : Gw} {l : Launch} (p1 : Int32) (p2 : Int32) (M : Mw) : Kw g l yX9_gap cX9_gap 3 (some .int) 2 0 0 [.ref (gA g 41 0 0), .int p1, .int p2] M (fun v : Int32 => (some (.int v), M)) (F_X9_gap p1 p2 M) := by
  refine Kw.of (own := RX9) (lv0 := [(0, .ref (gA g 41 0 0)), (1, .int p1), (2, .int p2)]) (by decide +kernel) rfl (Nat.le_of_ble_eq_true rfl) rfl (fun x C hl hm => ?_)
  subst hl
  unfold F_X9_gap
  refine r_aload_n C 0 dX9_gap_0 rfl rfl ?_
  refine gf_41_1 C dX9_gap_1 u_365 in_41 ?_
  refine r_iload_n C 1 dX9_gap_4 rfl rfl ?_
  refine r_callVRi (rest := []) C (c_X0_hasTask (by decide) p1 M) dX9_gap_5 u_699 (in_0 (by decide)) (contW_0 g _ _ _ _ _) rfl u_510 u_511 mi_X0_hasTask (by decide) rfl rfl (Nat.le_of_ble_eq_true rfl) (xk1 hm (by decide)) (xn1 hm (by decide)) (fun v1 h2 => ?_)
  refine r_if_eq (tgt := 15) C dX9_gap_8 (by decide) (fun h3 => ?_) (fun h3 => ?_)
  · refine r_bipush (v := (-2)) C dX9_gap_15 (by decide) ?_
    exact r_iret C dX9_gap_17 rfl rfl (xk0 hm) (xn0 hm)
  · refine r_iload_n C 2 dX9_gap_11 rfl rfl ?_
    refine r_if_ge (tgt := 18) C dX9_gap_12 (by decide) (fun h4 => ?_) (fun h4 => ?_)
    · refine r_aload_n C 0 dX9_gap_18 rfl rfl ?_
      refine gf_41_6 C dX9_gap_19 u_370 in_41 ?_
      refine r_iload_n C 1 dX9_gap_22 rfl rfl ?_
      refine r_iload_n C 2 dX9_gap_23 rfl rfl ?_
      refine r_callVRi (rest := []) C (c_X5_gapOfKick (by decide) p1 p2 M) dX9_gap_24 u_890 (in_23 (by decide)) (contW_23 g _ _ _ _ _) rfl u_891 u_892 mi_X5_gapOfKick (by decide) rfl rfl (Nat.le_of_ble_eq_true rfl) (xk1 hm (by decide)) (xn1 hm (by decide)) (fun v5 h6 => ?_)
      exact r_iret C dX9_gap_27 rfl rfl (xk0 hm) (xn0 hm)
    · refine r_bipush (v := (-2)) C dX9_gap_15 (by decide) ?_
      exact r_iret C dX9_gap_17 rfl rfl (xk0 hm) (xn0 hm)
def F_X9_jobs (p1 : Int32) (p2 : Int32) (M : Mw) : Option (Int32 × Mw) :=
  ((F_X9_isTaskAndTick p1 p2 M).bind (fun v1 => (if v1 = 0 then some ((-2), M) else ((F_X9_stateOf p1 p2 M).bind (fun M4 => some ((M4.1 25 1 p1.toNatClampNeg 1), M4))))))
set_option maxRecDepth 100000 in
set_option maxHeartbeats 4000000 in
theorem c_X9_jobs {g : Gw} {l : Launch} (p1 : Int32) (p2 : Int32) (M : Mw) : Kw g l yX9_jobs cX9_jobs 3 (some .int) 8 0 0 [.ref (gA g 41 0 0), .int p1, .int p2] M (fun q : Int32 × Mw => (some (.int q.1), q.2)) (F_X9_jobs p1 p2 M) := by
  refine Kw.of (own := RX9) (lv0 := [(0, .ref (gA g 41 0 0)), (1, .int p1), (2, .int p2)]) (by decide +kernel) rfl (Nat.le_of_ble_eq_true rfl) rfl (fun x C hl hm => ?_)
  subst hl
  unfold F_X9_jobs
  refine r_aload_n C 0 dX9_jobs_0 rfl rfl ?_
  refine r_iload_n C 1 dX9_jobs_1 rfl rfl ?_
  refine r_iload_n C 2 dX9_jobs_2 rfl rfl ?_
  refine r_callVRi (rest := []) C (c_X9_isTaskAndTick p1 p2 M) dX9_jobs_3 u_876 in_41 (contW_41 g _ _ _ _ _) rfl u_877 u_45 mi_X9_isTaskAndTick (by decide) rfl rfl (Nat.le_of_ble_eq_true rfl) (xk1 hm (by decide)) (xn1 hm (by decide)) (fun v1 h2 => ?_)
  refine r_if_eq (tgt := 21) C dX9_jobs_6 (by decide) (fun h3 => ?_) (fun h3 => ?_)
  · refine r_bipush (v := (-2)) C dX9_jobs_21 (by decide) ?_
    exact r_iret C dX9_jobs_23 rfl rfl (xk0 hm) (xn0 hm)
  · refine r_aload_n C 0 dX9_jobs_9 rfl rfl ?_
    refine r_iload_n C 1 dX9_jobs_10 rfl rfl ?_
    refine r_iload_n C 2 dX9_jobs_11 rfl rfl ?_
    refine r_callVA (rest := []) C (c_X9_stateOf p1 p2 M) dX9_jobs_12 u_879 in_41 (contW_41 g _ _ _ _ _) rfl u_880 u_46 mi_X9_stateOf (by decide) rfl rfl (Nat.le_of_ble_eq_true rfl) (xk1 hm (by decide)) (xn1 hm (by decide)) (fun M4 h5 => ?_)
    refine gf_25_1 C dX9_jobs_15 u_296 (in_25 (by decide) (stateOf_in h5)) ?_
    refine r_goto (tgt := 23) C dX9_jobs_18 (by decide) ?_
    exact r_iret C dX9_jobs_23 rfl rfl (xk0 hm) (xn0 hm)
def F_X9_at (p1 : Int32) (p2 : Int32) (M : Mw) : Option (Int32 × Mw) :=
  ((F_X9_isTaskAndTick p1 p2 M).bind (fun v1 => (if v1 = 0 then some ((-2), M) else ((F_X9_stateOf p1 p2 M).bind (fun M4 => some ((M4.1 25 1 p1.toNatClampNeg 2), M4))))))
set_option maxRecDepth 100000 in
set_option maxHeartbeats 4000000 in
theorem c_X9_at {g : Gw} {l : Launch} (p1 : Int32) (p2 : Int32) (M : Mw) : Kw g l yX9_at cX9_at 3 (some .int) 8 0 0 [.ref (gA g 41 0 0), .int p1, .int p2] M (fun q : Int32 × Mw => (some (.int q.1), q.2)) (F_X9_at p1 p2 M) := by
  refine Kw.of (own := RX9) (lv0 := [(0, .ref (gA g 41 0 0)), (1, .int p1), (2, .int p2)]) (by decide +kernel) rfl (Nat.le_of_ble_eq_true rfl) rfl (fun x C hl hm => ?_)
  subst hl
  unfold F_X9_at
  refine r_aload_n C 0 dX9_at_0 rfl rfl ?_
  refine r_iload_n C 1 dX9_at_1 rfl rfl ?_
  refine r_iload_n C 2 dX9_at_2 rfl rfl ?_
  refine r_callVRi (rest := []) C (c_X9_isTaskAndTick p1 p2 M) dX9_at_3 u_876 in_41 (contW_41 g _ _ _ _ _) rfl u_877 u_45 mi_X9_isTaskAndTick (by decide) rfl rfl (Nat.le_of_ble_eq_true rfl) (xk1 hm (by decide)) (xn1 hm (by decide)) (fun v1 h2 => ?_)
  refine r_if_eq (tgt := 21) C dX9_at_6 (by decide) (fun h3 => ?_) (fun h3 => ?_)
  · refine r_bipush (v := (-2)) C dX9_at_21 (by decide) ?_
    exact r_iret C dX9_at_23 rfl rfl (xk0 hm) (xn0 hm)
  · refine r_aload_n C 0 dX9_at_9 rfl rfl ?_
    refine r_iload_n C 1 dX9_at_10 rfl rfl ?_
    refine r_iload_n C 2 dX9_at_11 rfl rfl ?_
    refine r_callVA (rest := []) C (c_X9_stateOf p1 p2 M) dX9_at_12 u_879 in_41 (contW_41 g _ _ _ _ _) rfl u_880 u_46 mi_X9_stateOf (by decide) rfl rfl (Nat.le_of_ble_eq_true rfl) (xk1 hm (by decide)) (xn1 hm (by decide)) (fun M4 h5 => ?_)
    refine gf_25_2 C dX9_at_15 u_299 (in_25 (by decide) (stateOf_in h5)) ?_
    refine r_goto (tgt := 23) C dX9_at_18 (by decide) ?_
    exact r_iret C dX9_at_23 rfl rfl (xk0 hm) (xn0 hm)
def F_X9_question (p1 : Int32) (p2 : Int32) (M : Mw) : Option (Int32 × Mw) :=
  ((F_X9_isTaskAndTick p1 p2 M).bind (fun v1 => (if v1 = 0 then some ((-2), M) else ((F_X9_stateOf p1 p2 M).bind (fun M4 => some ((M4.1 25 1 p1.toNatClampNeg 6), M4))))))
set_option maxRecDepth 100000 in
set_option maxHeartbeats 4000000 in
theorem c_X9_question {g : Gw} {l : Launch} (p1 : Int32) (p2 : Int32) (M : Mw) : Kw g l yX9_question cX9_question 3 (some .int) 8 0 0 [.ref (gA g 41 0 0), .int p1, .int p2] M (fun q : Int32 × Mw => (some (.int q.1), q.2)) (F_X9_question p1 p2 M) := by
  refine Kw.of (own := RX9) (lv0 := [(0, .ref (gA g 41 0 0)), (1, .int p1), (2, .int p2)]) (by decide +kernel) rfl (Nat.le_of_ble_eq_true rfl) rfl (fun x C hl hm => ?_)
  subst hl
  unfold F_X9_question
  refine r_aload_n C 0 dX9_question_0 rfl rfl ?_
  refine r_iload_n C 1 dX9_question_1 rfl rfl ?_
  refine r_iload_n C 2 dX9_question_2 rfl rfl ?_
  refine r_callVRi (rest := []) C (c_X9_isTaskAndTick p1 p2 M) dX9_question_3 u_876 in_41 (contW_41 g _ _ _ _ _) rfl u_877 u_45 mi_X9_isTaskAndTick (by decide) rfl rfl (Nat.le_of_ble_eq_true rfl) (xk1 hm (by decide)) (xn1 hm (by decide)) (fun v1 h2 => ?_)
  refine r_if_eq (tgt := 21) C dX9_question_6 (by decide) (fun h3 => ?_) (fun h3 => ?_)
  · refine r_bipush (v := (-2)) C dX9_question_21 (by decide) ?_
    exact r_iret C dX9_question_23 rfl rfl (xk0 hm) (xn0 hm)
  · refine r_aload_n C 0 dX9_question_9 rfl rfl ?_
    refine r_iload_n C 1 dX9_question_10 rfl rfl ?_
    refine r_iload_n C 2 dX9_question_11 rfl rfl ?_
    refine r_callVA (rest := []) C (c_X9_stateOf p1 p2 M) dX9_question_12 u_879 in_41 (contW_41 g _ _ _ _ _) rfl u_880 u_46 mi_X9_stateOf (by decide) rfl rfl (Nat.le_of_ble_eq_true rfl) (xk1 hm (by decide)) (xn1 hm (by decide)) (fun M4 h5 => ?_)
    refine gf_25_6 C dX9_question_15 u_307 (in_25 (by decide) (stateOf_in h5)) ?_
    refine r_goto (tgt := 23) C dX9_question_18 (by decide) ?_
    exact r_iret C dX9_question_23 rfl rfl (xk0 hm) (xn0 hm)
def F_X9_start (p1 : Int32) (p2 : Int32) (M : Mw) : Option (Int32 × Mw) :=
  ((F_X9_isTaskAndTick p1 p2 M).bind (fun v1 => (if v1 = 0 then some ((-2), M) else ((F_X9_stateOf p1 p2 M).bind (fun M4 => some ((M4.1 25 1 p1.toNatClampNeg 0), M4))))))
set_option maxRecDepth 100000 in
set_option maxHeartbeats 4000000 in
theorem c_X9_start {g : Gw} {l : Launch} (p1 : Int32) (p2 : Int32) (M : Mw) : Kw g l yX9_start cX9_start 3 (some .int) 8 0 0 [.ref (gA g 41 0 0), .int p1, .int p2] M (fun q : Int32 × Mw => (some (.int q.1), q.2)) (F_X9_start p1 p2 M) := by
  refine Kw.of (own := RX9) (lv0 := [(0, .ref (gA g 41 0 0)), (1, .int p1), (2, .int p2)]) (by decide +kernel) rfl (Nat.le_of_ble_eq_true rfl) rfl (fun x C hl hm => ?_)
  subst hl
  unfold F_X9_start
  refine r_aload_n C 0 dX9_start_0 rfl rfl ?_
  refine r_iload_n C 1 dX9_start_1 rfl rfl ?_
  refine r_iload_n C 2 dX9_start_2 rfl rfl ?_
  refine r_callVRi (rest := []) C (c_X9_isTaskAndTick p1 p2 M) dX9_start_3 u_876 in_41 (contW_41 g _ _ _ _ _) rfl u_877 u_45 mi_X9_isTaskAndTick (by decide) rfl rfl (Nat.le_of_ble_eq_true rfl) (xk1 hm (by decide)) (xn1 hm (by decide)) (fun v1 h2 => ?_)
  refine r_if_eq (tgt := 21) C dX9_start_6 (by decide) (fun h3 => ?_) (fun h3 => ?_)
  · refine r_bipush (v := (-2)) C dX9_start_21 (by decide) ?_
    exact r_iret C dX9_start_23 rfl rfl (xk0 hm) (xn0 hm)
  · refine r_aload_n C 0 dX9_start_9 rfl rfl ?_
    refine r_iload_n C 1 dX9_start_10 rfl rfl ?_
    refine r_iload_n C 2 dX9_start_11 rfl rfl ?_
    refine r_callVA (rest := []) C (c_X9_stateOf p1 p2 M) dX9_start_12 u_879 in_41 (contW_41 g _ _ _ _ _) rfl u_880 u_46 mi_X9_stateOf (by decide) rfl rfl (Nat.le_of_ble_eq_true rfl) (xk1 hm (by decide)) (xn1 hm (by decide)) (fun M4 h5 => ?_)
    refine gf_25_0 C dX9_start_15 u_293 (in_25 (by decide) (stateOf_in h5)) ?_
    refine r_goto (tgt := 23) C dX9_start_18 (by decide) ?_
    exact r_iret C dX9_start_23 rfl rfl (xk0 hm) (xn0 hm)
def F_X9_memory (p1 : Int32) (p2 : Int32) (M : Mw) : Option (Int32 × Mw) :=
  ((F_X9_isTaskAndTick p1 p2 M).bind (fun v1 => (if v1 = 0 then some ((-2), M) else ((F_X9_stateOf p1 p2 M).bind (fun M4 => some ((M4.1 25 1 p1.toNatClampNeg 7), M4))))))
set_option maxRecDepth 100000 in
set_option maxHeartbeats 4000000 in
theorem c_X9_memory {g : Gw} {l : Launch} (p1 : Int32) (p2 : Int32) (M : Mw) : Kw g l yX9_memory cX9_memory 3 (some .int) 8 0 0 [.ref (gA g 41 0 0), .int p1, .int p2] M (fun q : Int32 × Mw => (some (.int q.1), q.2)) (F_X9_memory p1 p2 M) := by
  refine Kw.of (own := RX9) (lv0 := [(0, .ref (gA g 41 0 0)), (1, .int p1), (2, .int p2)]) (by decide +kernel) rfl (Nat.le_of_ble_eq_true rfl) rfl (fun x C hl hm => ?_)
  subst hl
  unfold F_X9_memory
  refine r_aload_n C 0 dX9_memory_0 rfl rfl ?_
  refine r_iload_n C 1 dX9_memory_1 rfl rfl ?_
  refine r_iload_n C 2 dX9_memory_2 rfl rfl ?_
  refine r_callVRi (rest := []) C (c_X9_isTaskAndTick p1 p2 M) dX9_memory_3 u_876 in_41 (contW_41 g _ _ _ _ _) rfl u_877 u_45 mi_X9_isTaskAndTick (by decide) rfl rfl (Nat.le_of_ble_eq_true rfl) (xk1 hm (by decide)) (xn1 hm (by decide)) (fun v1 h2 => ?_)
  refine r_if_eq (tgt := 21) C dX9_memory_6 (by decide) (fun h3 => ?_) (fun h3 => ?_)
  · refine r_bipush (v := (-2)) C dX9_memory_21 (by decide) ?_
    exact r_iret C dX9_memory_23 rfl rfl (xk0 hm) (xn0 hm)
  · refine r_aload_n C 0 dX9_memory_9 rfl rfl ?_
    refine r_iload_n C 1 dX9_memory_10 rfl rfl ?_
    refine r_iload_n C 2 dX9_memory_11 rfl rfl ?_
    refine r_callVA (rest := []) C (c_X9_stateOf p1 p2 M) dX9_memory_12 u_879 in_41 (contW_41 g _ _ _ _ _) rfl u_880 u_46 mi_X9_stateOf (by decide) rfl rfl (Nat.le_of_ble_eq_true rfl) (xk1 hm (by decide)) (xn1 hm (by decide)) (fun M4 h5 => ?_)
    refine gf_25_7 C dX9_memory_15 u_310 (in_25 (by decide) (stateOf_in h5)) ?_
    refine r_goto (tgt := 23) C dX9_memory_18 (by decide) ?_
    exact r_iret C dX9_memory_23 rfl rfl (xk0 hm) (xn0 hm)
def F_X9_health (p1 : Int32) (p2 : Int32) (M : Mw) : Option (Int32 × Mw) :=
  ((F_X9_isTaskAndTick p1 p2 M).bind (fun v1 => (if v1 = 0 then some ((-2), M) else ((F_X9_stateOf p1 p2 M).bind (fun M4 => ((F_X9_bitsOfFloat (M4.2.1 25 1 p1.toNatClampNeg 11) M4).bind (fun v6 => some (v6, M4))))))))
set_option maxRecDepth 100000 in
set_option maxHeartbeats 4000000 in
theorem c_X9_health {g : Gw} {l : Launch} (p1 : Int32) (p2 : Int32) (M : Mw) : Kw g l yX9_health cX9_health 3 (some .int) 8 0 0 [.ref (gA g 41 0 0), .int p1, .int p2] M (fun q : Int32 × Mw => (some (.int q.1), q.2)) (F_X9_health p1 p2 M) := by
  refine Kw.of (own := RX9) (lv0 := [(0, .ref (gA g 41 0 0)), (1, .int p1), (2, .int p2)]) (by decide +kernel) rfl (Nat.le_of_ble_eq_true rfl) rfl (fun x C hl hm => ?_)
  subst hl
  unfold F_X9_health
  refine r_aload_n C 0 dX9_health_0 rfl rfl ?_
  refine r_iload_n C 1 dX9_health_1 rfl rfl ?_
  refine r_iload_n C 2 dX9_health_2 rfl rfl ?_
  refine r_callVRi (rest := []) C (c_X9_isTaskAndTick p1 p2 M) dX9_health_3 u_876 in_41 (contW_41 g _ _ _ _ _) rfl u_877 u_45 mi_X9_isTaskAndTick (by decide) rfl rfl (Nat.le_of_ble_eq_true rfl) (xk1 hm (by decide)) (xn1 hm (by decide)) (fun v1 h2 => ?_)
  refine r_if_eq (tgt := 24) C dX9_health_6 (by decide) (fun h3 => ?_) (fun h3 => ?_)
  · refine r_bipush (v := (-2)) C dX9_health_24 (by decide) ?_
    exact r_iret C dX9_health_26 rfl rfl (xk0 hm) (xn0 hm)
  · refine r_aload_n C 0 dX9_health_9 rfl rfl ?_
    refine r_iload_n C 1 dX9_health_10 rfl rfl ?_
    refine r_iload_n C 2 dX9_health_11 rfl rfl ?_
    refine r_callVA (rest := []) C (c_X9_stateOf p1 p2 M) dX9_health_12 u_879 in_41 (contW_41 g _ _ _ _ _) rfl u_880 u_46 mi_X9_stateOf (by decide) rfl rfl (Nat.le_of_ble_eq_true rfl) (xk1 hm (by decide)) (xn1 hm (by decide)) (fun M4 h5 => ?_)
    refine gf_25_11 C dX9_health_15 u_317 (in_25 (by decide) (stateOf_in h5)) ?_
    refine r_callSRi (rest := []) C (c_X9_bitsOfFloat (M4.2.1 25 1 p1.toNatClampNeg 11) M4) dX9_health_18 u_857 u_858 mi_X9_bitsOfFloat (by decide) rfl rfl (Nat.le_of_ble_eq_true rfl) (xk1 hm (by decide)) (xn1 hm (by decide)) (fun v6 h7 => ?_)
    refine r_goto (tgt := 26) C dX9_health_21 (by decide) ?_
    exact r_iret C dX9_health_26 rfl rfl (xk0 hm) (xn0 hm)
def F_X9_tenths (p1 : Int32) (p2 : Int32) (M : Mw) : Option (Int32 × Mw) :=
  ((F_X9_isTaskAndTick p1 p2 M).bind (fun v1 => (if v1 = 0 then some ((-2), M) else ((F_X9_stateOf p1 p2 M).bind (fun M4 => (if nf (FP.fmul (M4.2.1 25 1 p1.toNatClampNeg 11) 1092616192) then some ((FP.f2i (FP.fmul (M4.2.1 25 1 p1.toNatClampNeg 11) 1092616192)), M4) else none))))))
set_option maxRecDepth 100000 in
set_option maxHeartbeats 4000000 in
theorem c_X9_tenths {g : Gw} {l : Launch} (p1 : Int32) (p2 : Int32) (M : Mw) : Kw g l yX9_tenths cX9_tenths 3 (some .int) 8 0 0 [.ref (gA g 41 0 0), .int p1, .int p2] M (fun q : Int32 × Mw => (some (.int q.1), q.2)) (F_X9_tenths p1 p2 M) := by
  refine Kw.of (own := RX9) (lv0 := [(0, .ref (gA g 41 0 0)), (1, .int p1), (2, .int p2)]) (by decide +kernel) rfl (Nat.le_of_ble_eq_true rfl) rfl (fun x C hl hm => ?_)
  subst hl
  unfold F_X9_tenths
  refine r_aload_n C 0 dX9_tenths_0 rfl rfl ?_
  refine r_iload_n C 1 dX9_tenths_1 rfl rfl ?_
  refine r_iload_n C 2 dX9_tenths_2 rfl rfl ?_
  refine r_callVRi (rest := []) C (c_X9_isTaskAndTick p1 p2 M) dX9_tenths_3 u_876 in_41 (contW_41 g _ _ _ _ _) rfl u_877 u_45 mi_X9_isTaskAndTick (by decide) rfl rfl (Nat.le_of_ble_eq_true rfl) (xk1 hm (by decide)) (xn1 hm (by decide)) (fun v1 h2 => ?_)
  refine r_if_eq (tgt := 25) C dX9_tenths_6 (by decide) (fun h3 => ?_) (fun h3 => ?_)
  · refine r_bipush (v := (-2)) C dX9_tenths_25 (by decide) ?_
    exact r_iret C dX9_tenths_27 rfl rfl (xk0 hm) (xn0 hm)
  · refine r_aload_n C 0 dX9_tenths_9 rfl rfl ?_
    refine r_iload_n C 1 dX9_tenths_10 rfl rfl ?_
    refine r_iload_n C 2 dX9_tenths_11 rfl rfl ?_
    refine r_callVA (rest := []) C (c_X9_stateOf p1 p2 M) dX9_tenths_12 u_879 in_41 (contW_41 g _ _ _ _ _) rfl u_880 u_46 mi_X9_stateOf (by decide) rfl rfl (Nat.le_of_ble_eq_true rfl) (xk1 hm (by decide)) (xn1 hm (by decide)) (fun M4 h5 => ?_)
    refine gf_25_11 C dX9_tenths_15 u_317 (in_25 (by decide) (stateOf_in h5)) ?_
    refine r_ldcf (v := 1092616192) C u_922 dX9_tenths_18 ?_
    refine r_fmul C dX9_tenths_20 ?_
    refine r_f2i C dX9_tenths_21 ?_
    refine r_goto (tgt := 27) C dX9_tenths_22 (by decide) ?_
    exact r_iret C dX9_tenths_27 rfl rfl (xk0 hm) (xn0 hm)
def F_X9_margin (p1 : Int32) (p2 : Int32) (M : Mw) : Option (Int32 × Mw) :=
  ((F_X9_isTaskAndTick p1 p2 M).bind (fun v1 => (if v1 = 0 then some ((-2), M) else ((F_X9_stateOf p1 p2 M).bind (fun M4 => (if (M4.1 25 1 p1.toNatClampNeg 14) = 0 then some ((-1), M4) else ((F_X9_bitsOfFloat (M4.2.1 25 1 p1.toNatClampNeg 15) M4).bind (fun v7 => some (v7, M4)))))))))
set_option maxRecDepth 100000 in
set_option maxHeartbeats 4000000 in
theorem c_X9_margin {g : Gw} {l : Launch} (p1 : Int32) (p2 : Int32) (M : Mw) : Kw g l yX9_margin cX9_margin 4 (some .int) 8 0 0 [.ref (gA g 41 0 0), .int p1, .int p2] M (fun q : Int32 × Mw => (some (.int q.1), q.2)) (F_X9_margin p1 p2 M) := by
  refine Kw.of (own := RX9) (lv0 := [(0, .ref (gA g 41 0 0)), (1, .int p1), (2, .int p2)]) (by decide +kernel) rfl (Nat.le_of_ble_eq_true rfl) rfl (fun x C hl hm => ?_)
  subst hl
  unfold F_X9_margin
  refine r_aload_n C 0 dX9_margin_0 rfl rfl ?_
  refine r_iload_n C 1 dX9_margin_1 rfl rfl ?_
  refine r_iload_n C 2 dX9_margin_2 rfl rfl ?_
  refine r_callVRi (rest := []) C (c_X9_isTaskAndTick p1 p2 M) dX9_margin_3 u_876 in_41 (contW_41 g _ _ _ _ _) rfl u_877 u_45 mi_X9_isTaskAndTick (by decide) rfl rfl (Nat.le_of_ble_eq_true rfl) (xk1 hm (by decide)) (xn1 hm (by decide)) (fun v1 h2 => ?_)
  refine r_if_ne (tgt := 12) C dX9_margin_6 (by decide) (fun h3 => ?_) (fun h3 => ?_)
  · refine r_bipush (v := (-2)) C dX9_margin_9 (by decide) ?_
    exact r_iret C dX9_margin_11 rfl rfl (xk0 hm) (xn0 hm)
  · refine r_aload_n C 0 dX9_margin_12 rfl rfl ?_
    refine r_iload_n C 1 dX9_margin_13 rfl rfl ?_
    refine r_iload_n C 2 dX9_margin_14 rfl rfl ?_
    refine r_callVA (rest := []) C (c_X9_stateOf p1 p2 M) dX9_margin_15 u_879 in_41 (contW_41 g _ _ _ _ _) rfl u_880 u_46 mi_X9_stateOf (by decide) rfl rfl (Nat.le_of_ble_eq_true rfl) (xk1 hm (by decide)) (xn1 hm (by decide)) (fun M4 h5 => ?_)
    refine r_astore_n (lv' := [(3, .ref (gA g 25 1 p1.toNatClampNeg)), (0, .ref (gA g 41 0 0)), (1, .int p1), (2, .int p2)]) C dX9_margin_18 rfl (by decide) rfl ?_
    refine r_aload_n C 0 dX9_margin_19 rfl rfl ?_
    refine gf_25_14 C dX9_margin_20 u_323 (in_25 (by decide) (stateOf_in h5)) ?_
    refine r_if_ne (tgt := 30) C dX9_margin_23 (by decide) (fun h6 => ?_) (fun h6 => ?_)
    · refine r_iconst (v := (-1)) C dX9_margin_26 (by decide) ?_
      refine r_goto (tgt := 37) C dX9_margin_27 (by decide) ?_
      exact r_iret C dX9_margin_37 rfl rfl (xk0 hm) (xn0 hm)
    · refine r_aload_n C 0 dX9_margin_30 rfl rfl ?_
      refine gf_25_15 C dX9_margin_31 u_325 (in_25 (by decide) (stateOf_in h5)) ?_
      refine r_callSRi (rest := []) C (c_X9_bitsOfFloat (M4.2.1 25 1 p1.toNatClampNeg 15) M4) dX9_margin_34 u_857 u_858 mi_X9_bitsOfFloat (by decide) rfl rfl (Nat.le_of_ble_eq_true rfl) (xk1 hm (by decide)) (xn1 hm (by decide)) (fun v7 h8 => ?_)
      exact r_iret C dX9_margin_37 rfl rfl (xk0 hm) (xn0 hm)
def B_X9_bitsOfDouble_87 (l2 : UInt64) (l4 : Int64) (M : Mw) : Option (Int64) :=
  (if 0 ≤ (Op.cmpValue (FP.dcmp l2 FP.dconst1) .g) then (if nd (FP.dsub l2 FP.dconst1) then (if nd (FP.dmul (FP.dsub l2 FP.dconst1) 4841369599423283200) then some ((l4 <<< ((52 : Int32).toInt64 &&& 63)) + (FP.d2l (FP.dmul (FP.dsub l2 FP.dconst1) 4841369599423283200))) else none) else none) else (if nd (FP.dmul l2 4841369599423283200) then some (FP.d2l (FP.dmul l2 4841369599423283200)) else none))
def B_X9_bitsOfDouble_55 (M : Mw) (k55 : UInt64 → Int64 → Int32 → Option (Int64)) (l2 : UInt64) (l4 : Int64) (l6 : Int32) : Option (Int64) :=
  (if 1022 ≤ l6 then (B_X9_bitsOfDouble_87 l2 l4 M) else (if 0 ≤ (Op.cmpValue (FP.dcmp l2 FP.dconst1) .g) then (B_X9_bitsOfDouble_87 l2 l4 M) else (if nd (FP.dmul l2 4611686018427387904) then (bd (FP.dmul l2 4611686018427387904) (fun v8 => (bd (l4 - 1) (fun v9 => (bd (l6 + 1) (fun v10 => (k55 v8 v9 v10))))))) else none)))
def B_X9_bitsOfDouble_52 (l2 : UInt64) (l4 : Int64) (M : Mw) : Option (Int64) :=
  (it (fun _ _ _ => none) (B_X9_bitsOfDouble_55 M) FU l2 l4 0)
def B_X9_bitsOfDouble_18 (M : Mw) (k18 : UInt64 → Int64 → Int32 → Option (Int64)) (l2 : UInt64) (l4 : Int64) (l6 : Int32) : Option (Int64) :=
  (if 1024 ≤ l6 then (B_X9_bitsOfDouble_52 l2 l4 M) else (if (Op.cmpValue (FP.dcmp l2 4611686018427387904) .l) < 0 then (B_X9_bitsOfDouble_52 l2 l4 M) else (if nd (FP.ddiv l2 4611686018427387904) then (bd (FP.ddiv l2 4611686018427387904) (fun v12 => (bd (l4 + 1) (fun v13 => (bd (l6 + 1) (fun v14 => (k18 v12 v13 v14))))))) else none)))
def F_X9_bitsOfDouble (p1 : UInt64) (M : Mw) : Option (Int64) :=
  (if 0 < (Op.cmpValue (FP.dcmp p1 FP.dconst0) .l) then (bd p1 (fun v2 => (bd 1023 (fun v3 => (it (fun _ _ _ => none) (B_X9_bitsOfDouble_18 M) FU v2 v3 0))))) else some 0)
set_option maxRecDepth 100000 in
set_option maxHeartbeats 4000000 in
theorem t_X9_bitsOfDouble_87 {g : Gw} {x : Xw} (C : Cw g x cX9_bitsOfDouble RX9 7 (some .long) 1) (hm : x.2.2.2.2.2.2.2.2.2.2.2 = (0, 0)) (M : Mw) (l2 : UInt64) (l4 : Int64) : Sw g x (fun v : Int64 => (some (.long v), M)) M 0 0 87 [(2, .double l2), (4, .long l4)] [] (B_X9_bitsOfDouble_87 l2 l4 M) := by
  unfold B_X9_bitsOfDouble_87
  refine r_dload_n C 0 dX9_bitsOfDouble_87 rfl rfl ?_
  refine r_dconst1 C dX9_bitsOfDouble_88 ?_
  refine r_dcmp C dX9_bitsOfDouble_89 ?_
  refine r_if_ge (tgt := 100) C dX9_bitsOfDouble_90 (by decide) (fun h6 => ?_) (fun h6 => ?_)
  · refine r_lload C 1 dX9_bitsOfDouble_100 rfl ?_
    refine r_bipush (v := 52) C dX9_bitsOfDouble_102 (by decide) ?_
    refine r_lshl C dX9_bitsOfDouble_104 ?_
    refine r_dload_n C 0 dX9_bitsOfDouble_105 rfl rfl ?_
    refine r_dconst1 C dX9_bitsOfDouble_106 ?_
    refine r_dsub C dX9_bitsOfDouble_107 ?_
    refine r_ldc2d (v := 4841369599423283200) C u_938 dX9_bitsOfDouble_108 ?_
    refine r_dmul C dX9_bitsOfDouble_111 ?_
    refine r_d2l C dX9_bitsOfDouble_112 ?_
    refine r_ladd C dX9_bitsOfDouble_113 ?_
    exact r_lret C dX9_bitsOfDouble_114 rfl rfl (xk0 hm) (xn0 hm)
  · refine r_dload_n C 0 dX9_bitsOfDouble_93 rfl rfl ?_
    refine r_ldc2d (v := 4841369599423283200) C u_938 dX9_bitsOfDouble_94 ?_
    refine r_dmul C dX9_bitsOfDouble_97 ?_
    refine r_d2l C dX9_bitsOfDouble_98 ?_
    exact r_lret C dX9_bitsOfDouble_99 rfl rfl (xk0 hm) (xn0 hm)
set_option maxRecDepth 100000 in
set_option maxHeartbeats 4000000 in
theorem t_X9_bitsOfDouble_55 {g : Gw} {x : Xw} (C : Cw g x cX9_bitsOfDouble RX9 7 (some .long) 1) (hm : x.2.2.2.2.2.2.2.2.2.2.2 = (0, 0)) (M : Mw) (k55 : UInt64 → Int64 → Int32 → Option (Int64)) (hk55 : ∀ (l2 : UInt64) (l4 : Int64) (l6 : Int32), Sw g x (fun v : Int64 => (some (.long v), M)) M 0 0 55 [(2, .double l2), (4, .long l4), (6, .int l6)] [] (k55 l2 l4 l6)) (l2 : UInt64) (l4 : Int64) (l6 : Int32) : Sw g x (fun v : Int64 => (some (.long v), M)) M 0 0 55 [(2, .double l2), (4, .long l4), (6, .int l6)] [] (B_X9_bitsOfDouble_55 M k55 l2 l4 l6) := by
  unfold B_X9_bitsOfDouble_55
  refine r_iload C 2 dX9_bitsOfDouble_55 rfl ?_
  refine r_sipush (v := 1022) C dX9_bitsOfDouble_57 (by decide) ?_
  refine r_icmp_ge (tgt := 87) C dX9_bitsOfDouble_60 (by decide) (fun h5 => ?_) (fun h5 => ?_)
  · refine r_lv [0, 1] rfl ?_
    exact t_X9_bitsOfDouble_87 C hm M l2 l4
  · refine r_dload_n C 0 dX9_bitsOfDouble_63 rfl rfl ?_
    refine r_dconst1 C dX9_bitsOfDouble_64 ?_
    refine r_dcmp C dX9_bitsOfDouble_65 ?_
    refine r_if_ge (tgt := 87) C dX9_bitsOfDouble_66 (by decide) (fun h7 => ?_) (fun h7 => ?_)
    · refine r_lv [0, 1] rfl ?_
      exact t_X9_bitsOfDouble_87 C hm M l2 l4
    · refine r_dload_n C 0 dX9_bitsOfDouble_69 rfl rfl ?_
      refine r_ldc2d (v := 4611686018427387904) C u_937 dX9_bitsOfDouble_70 ?_
      refine r_dmul C dX9_bitsOfDouble_73 ?_
      refine r_dstore_n (lv' := fun v8 => [(2, .double v8), (4, .long l4), (6, .int l6)]) C dX9_bitsOfDouble_74 rfl (by decide) (fun _ => rfl) (fun v8 => ?_)
      refine r_lload C 1 dX9_bitsOfDouble_75 rfl ?_
      refine r_lconst (v := 1) C dX9_bitsOfDouble_77 (by decide) ?_
      refine r_lsub C dX9_bitsOfDouble_78 ?_
      refine r_lstore (lv' := fun v9 => [(4, .long v9), (2, .double v8), (6, .int l6)]) C dX9_bitsOfDouble_79 (by decide) (fun _ => rfl) (fun v9 => ?_)
      refine r_iinc (c := 1) (lv' := fun v10 => [(6, .int v10), (4, .long v9), (2, .double v8)]) C 2 dX9_bitsOfDouble_81 rfl (by decide) (by decide) (fun _ => rfl) (fun v10 => ?_)
      refine r_goto (tgt := 55) C dX9_bitsOfDouble_84 (by decide) ?_
      refine r_lv [2, 1, 0] rfl ?_
      exact hk55 v8 v9 v10
set_option maxRecDepth 100000 in
set_option maxHeartbeats 4000000 in
theorem tl_X9_bitsOfDouble_55 {g : Gw} {x : Xw} (C : Cw g x cX9_bitsOfDouble RX9 7 (some .long) 1) (hm : x.2.2.2.2.2.2.2.2.2.2.2 = (0, 0)) (M : Mw) (n : Nat) : ∀ (l2 : UInt64) (l4 : Int64) (l6 : Int32), Sw g x (fun v : Int64 => (some (.long v), M)) M 0 0 55 [(2, .double l2), (4, .long l4), (6, .int l6)] [] (it (fun _ _ _ => none) (B_X9_bitsOfDouble_55 M) n l2 l4 l6) := by
  induction n with
  | zero =>
    intro l2 l4 l6
    exact r_none
  | succ n ih =>
    intro l2 l4 l6
    exact t_X9_bitsOfDouble_55 C hm M _ ih l2 l4 l6
set_option maxRecDepth 100000 in
set_option maxHeartbeats 4000000 in
theorem t_X9_bitsOfDouble_52 {g : Gw} {x : Xw} (C : Cw g x cX9_bitsOfDouble RX9 7 (some .long) 1) (hm : x.2.2.2.2.2.2.2.2.2.2.2 = (0, 0)) (M : Mw) (l2 : UInt64) (l4 : Int64) : Sw g x (fun v : Int64 => (some (.long v), M)) M 0 0 52 [(2, .double l2), (4, .long l4)] [] (B_X9_bitsOfDouble_52 l2 l4 M) := by
  unfold B_X9_bitsOfDouble_52
  refine r_iconst (v := 0) C dX9_bitsOfDouble_52 (by decide) ?_
  refine r_istore0 (lv' := [(6, .int 0), (2, .double l2), (4, .long l4)]) C dX9_bitsOfDouble_53 (by decide) rfl ?_
  refine r_lv [1, 2, 0] rfl ?_
  exact tl_X9_bitsOfDouble_55 C hm M FU l2 l4 0
set_option maxRecDepth 100000 in
set_option maxHeartbeats 4000000 in
theorem t_X9_bitsOfDouble_18 {g : Gw} {x : Xw} (C : Cw g x cX9_bitsOfDouble RX9 7 (some .long) 1) (hm : x.2.2.2.2.2.2.2.2.2.2.2 = (0, 0)) (M : Mw) (k18 : UInt64 → Int64 → Int32 → Option (Int64)) (hk18 : ∀ (l2 : UInt64) (l4 : Int64) (l6 : Int32), Sw g x (fun v : Int64 => (some (.long v), M)) M 0 0 18 [(2, .double l2), (4, .long l4), (6, .int l6)] [] (k18 l2 l4 l6)) (l2 : UInt64) (l4 : Int64) (l6 : Int32) : Sw g x (fun v : Int64 => (some (.long v), M)) M 0 0 18 [(2, .double l2), (4, .long l4), (6, .int l6)] [] (B_X9_bitsOfDouble_18 M k18 l2 l4 l6) := by
  unfold B_X9_bitsOfDouble_18
  refine r_iload C 2 dX9_bitsOfDouble_18 rfl ?_
  refine r_sipush (v := 1024) C dX9_bitsOfDouble_20 (by decide) ?_
  refine r_icmp_ge (tgt := 52) C dX9_bitsOfDouble_23 (by decide) (fun h4 => ?_) (fun h4 => ?_)
  · refine r_lv [0, 1] rfl ?_
    exact t_X9_bitsOfDouble_52 C hm M l2 l4
  · refine r_dload_n C 0 dX9_bitsOfDouble_26 rfl rfl ?_
    refine r_ldc2d (v := 4611686018427387904) C u_937 dX9_bitsOfDouble_27 ?_
    refine r_dcmp C dX9_bitsOfDouble_30 ?_
    refine r_if_lt (tgt := 52) C dX9_bitsOfDouble_31 (by decide) (fun h11 => ?_) (fun h11 => ?_)
    · refine r_lv [0, 1] rfl ?_
      exact t_X9_bitsOfDouble_52 C hm M l2 l4
    · refine r_dload_n C 0 dX9_bitsOfDouble_34 rfl rfl ?_
      refine r_ldc2d (v := 4611686018427387904) C u_937 dX9_bitsOfDouble_35 ?_
      refine r_ddiv C dX9_bitsOfDouble_38 ?_
      refine r_dstore_n (lv' := fun v12 => [(2, .double v12), (4, .long l4), (6, .int l6)]) C dX9_bitsOfDouble_39 rfl (by decide) (fun _ => rfl) (fun v12 => ?_)
      refine r_lload C 1 dX9_bitsOfDouble_40 rfl ?_
      refine r_lconst (v := 1) C dX9_bitsOfDouble_42 (by decide) ?_
      refine r_ladd C dX9_bitsOfDouble_43 ?_
      refine r_lstore (lv' := fun v13 => [(4, .long v13), (2, .double v12), (6, .int l6)]) C dX9_bitsOfDouble_44 (by decide) (fun _ => rfl) (fun v13 => ?_)
      refine r_iinc (c := 1) (lv' := fun v14 => [(6, .int v14), (4, .long v13), (2, .double v12)]) C 2 dX9_bitsOfDouble_46 rfl (by decide) (by decide) (fun _ => rfl) (fun v14 => ?_)
      refine r_goto (tgt := 18) C dX9_bitsOfDouble_49 (by decide) ?_
      refine r_lv [2, 1, 0] rfl ?_
      exact hk18 v12 v13 v14
set_option maxRecDepth 100000 in
set_option maxHeartbeats 4000000 in
theorem tl_X9_bitsOfDouble_18 {g : Gw} {x : Xw} (C : Cw g x cX9_bitsOfDouble RX9 7 (some .long) 1) (hm : x.2.2.2.2.2.2.2.2.2.2.2 = (0, 0)) (M : Mw) (n : Nat) : ∀ (l2 : UInt64) (l4 : Int64) (l6 : Int32), Sw g x (fun v : Int64 => (some (.long v), M)) M 0 0 18 [(2, .double l2), (4, .long l4), (6, .int l6)] [] (it (fun _ _ _ => none) (B_X9_bitsOfDouble_18 M) n l2 l4 l6) := by
  induction n with
  | zero =>
    intro l2 l4 l6
    exact r_none
  | succ n ih =>
    intro l2 l4 l6
    exact t_X9_bitsOfDouble_18 C hm M _ ih l2 l4 l6
set_option maxRecDepth 100000 in
set_option maxHeartbeats 4000000 in
theorem c_X9_bitsOfDouble {g : Gw} {l : Launch} (p1 : UInt64) (M : Mw) : Kw g l yX9_bitsOfDouble cX9_bitsOfDouble 7 (some .long) 1 0 0 [.double p1] M (fun v : Int64 => (some (.long v), M)) (F_X9_bitsOfDouble p1 M) := by
  refine Kw.of (own := RX9) (lv0 := [(0, .double p1)]) (by decide +kernel) rfl (Nat.le_of_ble_eq_true rfl) rfl (fun x C hl hm => ?_)
  subst hl
  unfold F_X9_bitsOfDouble
  refine r_dload_n C 0 dX9_bitsOfDouble_0 rfl rfl ?_
  refine r_dconst0 C dX9_bitsOfDouble_1 ?_
  refine r_dcmp C dX9_bitsOfDouble_2 ?_
  refine r_if_gt (tgt := 8) C dX9_bitsOfDouble_3 (by decide) (fun h1 => ?_) (fun h1 => ?_)
  · refine r_dload_n C 0 dX9_bitsOfDouble_8 rfl rfl ?_
    refine r_dstore_n (lv' := fun v2 => [(2, .double v2), (0, .double p1)]) C dX9_bitsOfDouble_9 rfl (by decide) (fun _ => rfl) (fun v2 => ?_)
    refine r_ldc2 (v := 1023) C u_936 dX9_bitsOfDouble_10 ?_
    refine r_lstore (lv' := fun v3 => [(4, .long v3), (2, .double v2), (0, .double p1)]) C dX9_bitsOfDouble_13 (by decide) (fun _ => rfl) (fun v3 => ?_)
    refine r_iconst (v := 0) C dX9_bitsOfDouble_15 (by decide) ?_
    refine r_istore0 (lv' := [(6, .int 0), (4, .long v3), (2, .double v2), (0, .double p1)]) C dX9_bitsOfDouble_16 (by decide) rfl ?_
    refine r_lv [2, 1, 0] rfl ?_
    exact tl_X9_bitsOfDouble_18 C hm M FU v2 v3 0
  · refine r_lconst (v := 0) C dX9_bitsOfDouble_6 (by decide) ?_
    exact r_lret C dX9_bitsOfDouble_7 rfl rfl (xk0 hm) (xn0 hm)
def F_X9_mean (p1 : Int32) (p2 : Int32) (M : Mw) : Option (Int64 × Mw) :=
  ((F_X9_isTaskAndTick p1 p2 M).bind (fun v1 => (if v1 = 0 then some ((-2), M) else ((F_X9_stateOf p1 p2 M).bind (fun M4 => (if (M4.1 25 1 p1.toNatClampNeg 14) = 0 then some ((-1), M4) else (if nd (FP.ddiv (M4.2.2 25 1 p1.toNatClampNeg 16) (FP.i2d (M4.1 25 1 p1.toNatClampNeg 14))) then ((F_X9_bitsOfDouble (FP.ddiv (M4.2.2 25 1 p1.toNatClampNeg 16) (FP.i2d (M4.1 25 1 p1.toNatClampNeg 14))) M4).bind (fun v7 => some (v7, M4))) else none)))))))
set_option maxRecDepth 100000 in
set_option maxHeartbeats 4000000 in
theorem c_X9_mean {g : Gw} {l : Launch} (p1 : Int32) (p2 : Int32) (M : Mw) : Kw g l yX9_mean cX9_mean 4 (some .long) 8 0 0 [.ref (gA g 41 0 0), .int p1, .int p2] M (fun q : Int64 × Mw => (some (.long q.1), q.2)) (F_X9_mean p1 p2 M) := by
  refine Kw.of (own := RX9) (lv0 := [(0, .ref (gA g 41 0 0)), (1, .int p1), (2, .int p2)]) (by decide +kernel) rfl (Nat.le_of_ble_eq_true rfl) rfl (fun x C hl hm => ?_)
  subst hl
  unfold F_X9_mean
  refine r_aload_n C 0 dX9_mean_0 rfl rfl ?_
  refine r_iload_n C 1 dX9_mean_1 rfl rfl ?_
  refine r_iload_n C 2 dX9_mean_2 rfl rfl ?_
  refine r_callVRi (rest := []) C (c_X9_isTaskAndTick p1 p2 M) dX9_mean_3 u_876 in_41 (contW_41 g _ _ _ _ _) rfl u_877 u_45 mi_X9_isTaskAndTick (by decide) rfl rfl (Nat.le_of_ble_eq_true rfl) (xk1 hm (by decide)) (xn1 hm (by decide)) (fun v1 h2 => ?_)
  refine r_if_ne (tgt := 13) C dX9_mean_6 (by decide) (fun h3 => ?_) (fun h3 => ?_)
  · refine r_ldc2 (v := (-2)) C u_931 dX9_mean_9 ?_
    exact r_lret C dX9_mean_12 rfl rfl (xk0 hm) (xn0 hm)
  · refine r_aload_n C 0 dX9_mean_13 rfl rfl ?_
    refine r_iload_n C 1 dX9_mean_14 rfl rfl ?_
    refine r_iload_n C 2 dX9_mean_15 rfl rfl ?_
    refine r_callVA (rest := []) C (c_X9_stateOf p1 p2 M) dX9_mean_16 u_879 in_41 (contW_41 g _ _ _ _ _) rfl u_880 u_46 mi_X9_stateOf (by decide) rfl rfl (Nat.le_of_ble_eq_true rfl) (xk1 hm (by decide)) (xn1 hm (by decide)) (fun M4 h5 => ?_)
    refine r_astore_n (lv' := [(3, .ref (gA g 25 1 p1.toNatClampNeg)), (0, .ref (gA g 41 0 0)), (1, .int p1), (2, .int p2)]) C dX9_mean_19 rfl (by decide) rfl ?_
    refine r_aload_n C 0 dX9_mean_20 rfl rfl ?_
    refine gf_25_14 C dX9_mean_21 u_323 (in_25 (by decide) (stateOf_in h5)) ?_
    refine r_if_ne (tgt := 33) C dX9_mean_24 (by decide) (fun h6 => ?_) (fun h6 => ?_)
    · refine r_ldc2 (v := (-1)) C u_932 dX9_mean_27 ?_
      refine r_goto (tgt := 46) C dX9_mean_30 (by decide) ?_
      exact r_lret C dX9_mean_46 rfl rfl (xk0 hm) (xn0 hm)
    · refine r_aload_n C 0 dX9_mean_33 rfl rfl ?_
      refine gf_25_16 C dX9_mean_34 u_327 (in_25 (by decide) (stateOf_in h5)) ?_
      refine r_aload_n C 0 dX9_mean_37 rfl rfl ?_
      refine gf_25_14 C dX9_mean_38 u_323 (in_25 (by decide) (stateOf_in h5)) ?_
      refine r_i2d C dX9_mean_41 ?_
      refine r_ddiv C dX9_mean_42 ?_
      refine r_callSRl (rest := []) C (c_X9_bitsOfDouble (FP.ddiv (M4.2.2 25 1 p1.toNatClampNeg 16) (FP.i2d (M4.1 25 1 p1.toNatClampNeg 14))) M4) dX9_mean_43 u_933 u_934 mi_X9_bitsOfDouble (by decide) rfl rfl (Nat.le_of_ble_eq_true rfl) (xk1 hm (by decide)) (xn1 hm (by decide)) (fun v7 h8 => ?_)
      exact r_lret C dX9_mean_46 rfl rfl (xk0 hm) (xn0 hm)
def B_X4_countAhead_4 (b : Nat) (l1 : Int32) (M : Mw) (k4 : Int32 → Int32 → Option (Int32)) (l2 : Int32) (l3 : Int32) : Option (Int32) :=
  (if (M.1 26 b 0 1) ≤ l3 then some l2 else (if inb l3 128 then (if l1 ≤ (M.1 28 b l3.toNatClampNeg 0) then (bd (l3 + 1) (fun v4 => (k4 l2 v4))) else (bd (l2 + 1) (fun v5 => (bd (l3 + 1) (fun v6 => (k4 v5 v6)))))) else none))
def F_X4_countAhead (b : Nat) (p1 : Int32) (M : Mw) : Option (Int32) :=
  (it (fun _ _ => none) (B_X4_countAhead_4 b p1 M) FU 0 0)
set_option maxRecDepth 100000 in
set_option maxHeartbeats 4000000 in
theorem t_X4_countAhead_4 {g : Gw} {x : Xw} (C : Cw g x cX4_countAhead RX4 4 (some .int) 1) (hm : x.2.2.2.2.2.2.2.2.2.2.2 = (0, 0)) {b : Nat} (hb : b < 3) (M : Mw) (l1 : Int32) (k4 : Int32 → Int32 → Option (Int32)) (hk4 : ∀ (l2 : Int32) (l3 : Int32), Sw g x (fun v : Int32 => (some (.int v), M)) M 0 0 4 [(0, .ref (gA g 26 b 0)), (1, .int l1), (2, .int l2), (3, .int l3)] [] (k4 l2 l3)) (l2 : Int32) (l3 : Int32) : Sw g x (fun v : Int32 => (some (.int v), M)) M 0 0 4 [(0, .ref (gA g 26 b 0)), (1, .int l1), (2, .int l2), (3, .int l3)] [] (B_X4_countAhead_4 b l1 M k4 l2 l3) := by
  unfold B_X4_countAhead_4
  refine r_iload_n C 3 dX4_countAhead_4 rfl rfl ?_
  refine r_aload_n C 0 dX4_countAhead_5 rfl rfl ?_
  refine gf_26_1 C dX4_countAhead_6 u_283 (in_26 hb) ?_
  refine r_icmp_ge (tgt := 33) C dX4_countAhead_9 (by decide) (fun h1 => ?_) (fun h1 => ?_)
  · refine r_iload_n C 2 dX4_countAhead_33 rfl rfl ?_
    exact r_iret C dX4_countAhead_34 rfl rfl (xk0 hm) (xn0 hm)
  · refine r_aload_n C 0 dX4_countAhead_12 rfl rfl ?_
    refine gf_26_0 C dX4_countAhead_13 u_281 (in_26 hb) ?_
    refine r_iload_n C 3 dX4_countAhead_16 rfl rfl ?_
    refine r_aald (t0 := 5) (ty := .array .int) C dX4_countAhead_17 (in_27 hb) (contW_27 g _ _ _ _ _) rfl rfl (fun h2 => ?_)
    refine r_iconst (v := 0) C dX4_countAhead_18 (by decide) ?_
    refine r_ialdc C dX4_countAhead_19 (in_28 hb (inb_lt h2)) (contW_28 g _ _ _ _ _) (by decide) (j := 0) (by decide) ?_
    refine r_iload_n C 1 dX4_countAhead_20 rfl rfl ?_
    refine r_icmp_ge (tgt := 27) C dX4_countAhead_21 (by decide) (fun h3 => ?_) (fun h3 => ?_)
    · refine r_iinc (c := 1) (lv' := fun v4 => [(3, .int v4), (0, .ref (gA g 26 b 0)), (1, .int l1), (2, .int l2)]) C 3 dX4_countAhead_27 rfl (by decide) (by decide) (fun _ => rfl) (fun v4 => ?_)
      refine r_goto (tgt := 4) C dX4_countAhead_30 (by decide) ?_
      refine r_lv [1, 2, 3, 0] rfl ?_
      exact hk4 l2 v4
    · refine r_iinc (c := 1) (lv' := fun v5 => [(2, .int v5), (0, .ref (gA g 26 b 0)), (1, .int l1), (3, .int l3)]) C 2 dX4_countAhead_24 rfl (by decide) (by decide) (fun _ => rfl) (fun v5 => ?_)
      refine r_iinc (c := 1) (lv' := fun v6 => [(3, .int v6), (2, .int v5), (0, .ref (gA g 26 b 0)), (1, .int l1)]) C 3 dX4_countAhead_27 rfl (by decide) (by decide) (fun _ => rfl) (fun v6 => ?_)
      refine r_goto (tgt := 4) C dX4_countAhead_30 (by decide) ?_
      refine r_lv [2, 3, 1, 0] rfl ?_
      exact hk4 v5 v6
set_option maxRecDepth 100000 in
set_option maxHeartbeats 4000000 in
theorem tl_X4_countAhead_4 {g : Gw} {x : Xw} (C : Cw g x cX4_countAhead RX4 4 (some .int) 1) (hm : x.2.2.2.2.2.2.2.2.2.2.2 = (0, 0)) {b : Nat} (hb : b < 3) (M : Mw) (l1 : Int32) (n : Nat) : ∀ (l2 : Int32) (l3 : Int32), Sw g x (fun v : Int32 => (some (.int v), M)) M 0 0 4 [(0, .ref (gA g 26 b 0)), (1, .int l1), (2, .int l2), (3, .int l3)] [] (it (fun _ _ => none) (B_X4_countAhead_4 b l1 M) n l2 l3) := by
  induction n with
  | zero =>
    intro l2 l3
    exact r_none
  | succ n ih =>
    intro l2 l3
    exact t_X4_countAhead_4 C hm hb M l1 _ ih l2 l3
set_option maxRecDepth 100000 in
set_option maxHeartbeats 4000000 in
theorem c_X4_countAhead {g : Gw} {l : Launch} {b : Nat} (hb : b < 3) (p1 : Int32) (M : Mw) : Kw g l yX4_countAhead cX4_countAhead 4 (some .int) 1 0 0 [.ref (gA g 26 b 0), .int p1] M (fun v : Int32 => (some (.int v), M)) (F_X4_countAhead b p1 M) := by
  refine Kw.of (own := RX4) (lv0 := [(0, .ref (gA g 26 b 0)), (1, .int p1)]) (by decide +kernel) rfl (Nat.le_of_ble_eq_true rfl) rfl (fun x C hl hm => ?_)
  subst hl
  unfold F_X4_countAhead
  refine r_iconst (v := 0) C dX4_countAhead_0 (by decide) ?_
  refine r_istore_n0 (lv' := [(2, .int 0), (0, .ref (gA g 26 b 0)), (1, .int p1)]) C dX4_countAhead_1 rfl (by decide) rfl ?_
  refine r_iconst (v := 0) C dX4_countAhead_2 (by decide) ?_
  refine r_istore_n0 (lv' := [(3, .int 0), (2, .int 0), (0, .ref (gA g 26 b 0)), (1, .int p1)]) C dX4_countAhead_3 rfl (by decide) rfl ?_
  refine r_lv [2, 3, 1, 0] rfl ?_
  exact tl_X4_countAhead_4 C hm hb M p1 FU 0 0
def F_X9_faults (p1 : Int32) (M : Mw) : Option (Int32) :=
  ((F_X9_isTick p1 M).bind (fun v1 => (if v1 = 0 then some (-2) else ((F_X4_countAhead 0 p1 M).bind (fun v4 => some v4)))))
set_option maxRecDepth 100000 in
set_option maxHeartbeats 4000000 in
theorem c_X9_faults {g : Gw} {l : Launch} (p1 : Int32) (M : Mw) : Kw g l yX9_faults cX9_faults 2 (some .int) 2 0 0 [.ref (gA g 41 0 0), .int p1] M (fun v : Int32 => (some (.int v), M)) (F_X9_faults p1 M) := by
  refine Kw.of (own := RX9) (lv0 := [(0, .ref (gA g 41 0 0)), (1, .int p1)]) (by decide +kernel) rfl (Nat.le_of_ble_eq_true rfl) rfl (fun x C hl hm => ?_)
  subst hl
  unfold F_X9_faults
  refine r_aload_n C 0 dX9_faults_0 rfl rfl ?_
  refine r_iload_n C 1 dX9_faults_1 rfl rfl ?_
  refine r_callVRi (rest := []) C (c_X9_isTick p1 M) dX9_faults_2 u_869 in_41 (contW_41 g _ _ _ _ _) rfl u_870 u_44 mi_X9_isTick (by decide) rfl rfl (Nat.le_of_ble_eq_true rfl) (xk1 hm (by decide)) (xn1 hm (by decide)) (fun v1 h2 => ?_)
  refine r_if_eq (tgt := 22) C dX9_faults_5 (by decide) (fun h3 => ?_) (fun h3 => ?_)
  · refine r_bipush (v := (-2)) C dX9_faults_22 (by decide) ?_
    exact r_iret C dX9_faults_24 rfl rfl (xk0 hm) (xn0 hm)
  · refine r_aload_n C 0 dX9_faults_8 rfl rfl ?_
    refine gf_41_6 C dX9_faults_9 u_370 in_41 ?_
    refine gf_23_2 C dX9_faults_12 u_334 (in_23 (by decide)) ?_
    refine r_iload_n C 1 dX9_faults_15 rfl rfl ?_
    refine r_callVRi (rest := []) C (c_X4_countAhead (by decide) p1 M) dX9_faults_16 u_943 (in_26 (by decide)) (contW_26 g _ _ _ _ _) rfl u_944 u_945 mi_X4_countAhead (by decide) rfl rfl (Nat.le_of_ble_eq_true rfl) (xk1 hm (by decide)) (xn1 hm (by decide)) (fun v4 h5 => ?_)
    refine r_goto (tgt := 24) C dX9_faults_19 (by decide) ?_
    exact r_iret C dX9_faults_24 rfl rfl (xk0 hm) (xn0 hm)
def F_X9_record (p1 : Int32) (p2 : Int32) (M : Mw) : Option (Int32) :=
  (if (M.1 0 1 0 3) = 0 then some (-2) else (if p1 < 0 then some (-2) else (if p2 < 0 then some (-2) else (if p2 < 4 then (if (M.1 26 0 0 1) ≤ p1 then some (-1) else (if inb p1 128 then (if inb p2 4 then some (M.1 28 0 p1.toNatClampNeg p2.toNatClampNeg) else none) else none)) else some (-2)))))
set_option maxRecDepth 100000 in
set_option maxHeartbeats 4000000 in
theorem c_X9_record {g : Gw} {l : Launch} (p1 : Int32) (p2 : Int32) (M : Mw) : Kw g l yX9_record cX9_record 3 (some .int) 1 0 0 [.ref (gA g 41 0 0), .int p1, .int p2] M (fun v : Int32 => (some (.int v), M)) (F_X9_record p1 p2 M) := by
  refine Kw.of (own := RX9) (lv0 := [(0, .ref (gA g 41 0 0)), (1, .int p1), (2, .int p2)]) (by decide +kernel) rfl (Nat.le_of_ble_eq_true rfl) rfl (fun x C hl hm => ?_)
  subst hl
  unfold F_X9_record
  refine r_aload_n C 0 dX9_record_0 rfl rfl ?_
  refine gf_41_1 C dX9_record_1 u_365 in_41 ?_
  refine gf_0_3 C dX9_record_4 u_195 (in_0 (by decide)) ?_
  refine r_if_eq (tgt := 23) C dX9_record_7 (by decide) (fun h1 => ?_) (fun h1 => ?_)
  · refine r_bipush (v := (-2)) C dX9_record_23 (by decide) ?_
    exact r_iret C dX9_record_25 rfl rfl (xk0 hm) (xn0 hm)
  · refine r_iload_n C 1 dX9_record_10 rfl rfl ?_
    refine r_if_lt (tgt := 23) C dX9_record_11 (by decide) (fun h2 => ?_) (fun h2 => ?_)
    · refine r_bipush (v := (-2)) C dX9_record_23 (by decide) ?_
      exact r_iret C dX9_record_25 rfl rfl (xk0 hm) (xn0 hm)
    · refine r_iload_n C 2 dX9_record_14 rfl rfl ?_
      refine r_if_lt (tgt := 23) C dX9_record_15 (by decide) (fun h3 => ?_) (fun h3 => ?_)
      · refine r_bipush (v := (-2)) C dX9_record_23 (by decide) ?_
        exact r_iret C dX9_record_25 rfl rfl (xk0 hm) (xn0 hm)
      · refine r_iload_n C 2 dX9_record_18 rfl rfl ?_
        refine r_iconst (v := 4) C dX9_record_19 (by decide) ?_
        refine r_icmp_lt (tgt := 26) C dX9_record_20 (by decide) (fun h4 => ?_) (fun h4 => ?_)
        · refine r_iload_n C 1 dX9_record_26 rfl rfl ?_
          refine r_aload_n C 0 dX9_record_27 rfl rfl ?_
          refine gf_41_6 C dX9_record_28 u_370 in_41 ?_
          refine gf_23_2 C dX9_record_31 u_334 (in_23 (by decide)) ?_
          refine gf_26_1 C dX9_record_34 u_285 (in_26 (by decide)) ?_
          refine r_icmp_ge (tgt := 57) C dX9_record_37 (by decide) (fun h5 => ?_) (fun h5 => ?_)
          · refine r_iconst (v := (-1)) C dX9_record_57 (by decide) ?_
            exact r_iret C dX9_record_58 rfl rfl (xk0 hm) (xn0 hm)
          · refine r_aload_n C 0 dX9_record_40 rfl rfl ?_
            refine gf_41_6 C dX9_record_41 u_370 in_41 ?_
            refine gf_23_2 C dX9_record_44 u_334 (in_23 (by decide)) ?_
            refine gf_26_0 C dX9_record_47 u_282 (in_26 (by decide)) ?_
            refine r_iload_n C 1 dX9_record_50 rfl rfl ?_
            refine r_aald (t0 := 5) (ty := .array .int) C dX9_record_51 (in_27 (by decide)) (contW_27 g _ _ _ _ _) rfl rfl (fun h6 => ?_)
            refine r_iload_n C 2 dX9_record_52 rfl rfl ?_
            refine r_iald C dX9_record_53 (in_28 (by decide) (inb_lt h6)) (contW_28 g _ _ _ _ _) (fun h7 => ?_)
            refine r_goto (tgt := 58) C dX9_record_54 (by decide) ?_
            exact r_iret C dX9_record_58 rfl rfl (xk0 hm) (xn0 hm)
        · refine r_bipush (v := (-2)) C dX9_record_23 (by decide) ?_
          exact r_iret C dX9_record_25 rfl rfl (xk0 hm) (xn0 hm)
def B_X4_countKind_4 (b : Nat) (l1 : Int32) (M : Mw) (k4 : Int32 → Int32 → Option (Int32)) (l2 : Int32) (l3 : Int32) : Option (Int32) :=
  (if (M.1 26 b 0 1) ≤ l3 then some l2 else (if inb l3 128 then (if (M.1 28 b l3.toNatClampNeg 1) = l1 then (bd (l2 + 1) (fun v5 => (bd (l3 + 1) (fun v6 => (k4 v5 v6))))) else (bd (l3 + 1) (fun v4 => (k4 l2 v4)))) else none))
def F_X4_countKind (b : Nat) (p1 : Int32) (M : Mw) : Option (Int32) :=
  (it (fun _ _ => none) (B_X4_countKind_4 b p1 M) FU 0 0)
set_option maxRecDepth 100000 in
set_option maxHeartbeats 4000000 in
theorem t_X4_countKind_4 {g : Gw} {x : Xw} (C : Cw g x cX4_countKind RX4 4 (some .int) 1) (hm : x.2.2.2.2.2.2.2.2.2.2.2 = (0, 0)) {b : Nat} (hb : b < 3) (M : Mw) (l1 : Int32) (k4 : Int32 → Int32 → Option (Int32)) (hk4 : ∀ (l2 : Int32) (l3 : Int32), Sw g x (fun v : Int32 => (some (.int v), M)) M 0 0 4 [(0, .ref (gA g 26 b 0)), (1, .int l1), (2, .int l2), (3, .int l3)] [] (k4 l2 l3)) (l2 : Int32) (l3 : Int32) : Sw g x (fun v : Int32 => (some (.int v), M)) M 0 0 4 [(0, .ref (gA g 26 b 0)), (1, .int l1), (2, .int l2), (3, .int l3)] [] (B_X4_countKind_4 b l1 M k4 l2 l3) := by
  unfold B_X4_countKind_4
  refine r_iload_n C 3 dX4_countKind_4 rfl rfl ?_
  refine r_aload_n C 0 dX4_countKind_5 rfl rfl ?_
  refine gf_26_1 C dX4_countKind_6 u_283 (in_26 hb) ?_
  refine r_icmp_ge (tgt := 33) C dX4_countKind_9 (by decide) (fun h1 => ?_) (fun h1 => ?_)
  · refine r_iload_n C 2 dX4_countKind_33 rfl rfl ?_
    exact r_iret C dX4_countKind_34 rfl rfl (xk0 hm) (xn0 hm)
  · refine r_aload_n C 0 dX4_countKind_12 rfl rfl ?_
    refine gf_26_0 C dX4_countKind_13 u_281 (in_26 hb) ?_
    refine r_iload_n C 3 dX4_countKind_16 rfl rfl ?_
    refine r_aald (t0 := 5) (ty := .array .int) C dX4_countKind_17 (in_27 hb) (contW_27 g _ _ _ _ _) rfl rfl (fun h2 => ?_)
    refine r_iconst (v := 1) C dX4_countKind_18 (by decide) ?_
    refine r_ialdc C dX4_countKind_19 (in_28 hb (inb_lt h2)) (contW_28 g _ _ _ _ _) (by decide) (j := 1) (by decide) ?_
    refine r_iload_n C 1 dX4_countKind_20 rfl rfl ?_
    refine r_icmp_ne (tgt := 27) C dX4_countKind_21 (by decide) (fun h3 => ?_) (fun h3 => ?_)
    · refine r_iinc (c := 1) (lv' := fun v5 => [(2, .int v5), (0, .ref (gA g 26 b 0)), (1, .int l1), (3, .int l3)]) C 2 dX4_countKind_24 rfl (by decide) (by decide) (fun _ => rfl) (fun v5 => ?_)
      refine r_iinc (c := 1) (lv' := fun v6 => [(3, .int v6), (2, .int v5), (0, .ref (gA g 26 b 0)), (1, .int l1)]) C 3 dX4_countKind_27 rfl (by decide) (by decide) (fun _ => rfl) (fun v6 => ?_)
      refine r_goto (tgt := 4) C dX4_countKind_30 (by decide) ?_
      refine r_lv [2, 3, 1, 0] rfl ?_
      exact hk4 v5 v6
    · refine r_iinc (c := 1) (lv' := fun v4 => [(3, .int v4), (0, .ref (gA g 26 b 0)), (1, .int l1), (2, .int l2)]) C 3 dX4_countKind_27 rfl (by decide) (by decide) (fun _ => rfl) (fun v4 => ?_)
      refine r_goto (tgt := 4) C dX4_countKind_30 (by decide) ?_
      refine r_lv [1, 2, 3, 0] rfl ?_
      exact hk4 l2 v4
set_option maxRecDepth 100000 in
set_option maxHeartbeats 4000000 in
theorem tl_X4_countKind_4 {g : Gw} {x : Xw} (C : Cw g x cX4_countKind RX4 4 (some .int) 1) (hm : x.2.2.2.2.2.2.2.2.2.2.2 = (0, 0)) {b : Nat} (hb : b < 3) (M : Mw) (l1 : Int32) (n : Nat) : ∀ (l2 : Int32) (l3 : Int32), Sw g x (fun v : Int32 => (some (.int v), M)) M 0 0 4 [(0, .ref (gA g 26 b 0)), (1, .int l1), (2, .int l2), (3, .int l3)] [] (it (fun _ _ => none) (B_X4_countKind_4 b l1 M) n l2 l3) := by
  induction n with
  | zero =>
    intro l2 l3
    exact r_none
  | succ n ih =>
    intro l2 l3
    exact t_X4_countKind_4 C hm hb M l1 _ ih l2 l3
set_option maxRecDepth 100000 in
set_option maxHeartbeats 4000000 in
theorem c_X4_countKind {g : Gw} {l : Launch} {b : Nat} (hb : b < 3) (p1 : Int32) (M : Mw) : Kw g l yX4_countKind cX4_countKind 4 (some .int) 1 0 0 [.ref (gA g 26 b 0), .int p1] M (fun v : Int32 => (some (.int v), M)) (F_X4_countKind b p1 M) := by
  refine Kw.of (own := RX4) (lv0 := [(0, .ref (gA g 26 b 0)), (1, .int p1)]) (by decide +kernel) rfl (Nat.le_of_ble_eq_true rfl) rfl (fun x C hl hm => ?_)
  subst hl
  unfold F_X4_countKind
  refine r_iconst (v := 0) C dX4_countKind_0 (by decide) ?_
  refine r_istore_n0 (lv' := [(2, .int 0), (0, .ref (gA g 26 b 0)), (1, .int p1)]) C dX4_countKind_1 rfl (by decide) rfl ?_
  refine r_iconst (v := 0) C dX4_countKind_2 (by decide) ?_
  refine r_istore_n0 (lv' := [(3, .int 0), (2, .int 0), (0, .ref (gA g 26 b 0)), (1, .int p1)]) C dX4_countKind_3 rfl (by decide) rfl ?_
  refine r_lv [2, 3, 1, 0] rfl ?_
  exact tl_X4_countKind_4 C hm hb M p1 FU 0 0
