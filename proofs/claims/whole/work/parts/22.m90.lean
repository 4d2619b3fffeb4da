def B_X1_readTape_102 (M : Mw) : Option (Int32 × Mw) :=
  (if (M.1 13 0 0 2) = 0 then some (1, M) else some (0, M))
def B_X1_readTape_88 (M : Mw) : Option (Int32 × Mw) :=
  (if (M.1 13 0 0 2) = 0 then ((F_X0_measureTasks 0 M).bind (fun M11 => (B_X1_readTape_102 M11))) else (B_X1_readTape_102 M))
def B_X1_readTape_77 (M : Mw) : Option (Int32 × Mw) :=
  (if (M.1 13 0 0 2) = 0 then ((F_X1_findTaskWithoutNode M).bind (fun M13 => (B_X1_readTape_88 M13))) else (B_X1_readTape_88 M))
def B_X1_readTape_26 (k26 : Int32 → Mw → Option (Int32 × Mw)) (l1 : Int32) (M : Mw) : Option (Int32 × Mw) :=
  (if 1000 ≤ l1 then (B_X1_readTape_77 M) else (if (M.1 13 0 0 2) = 0 then (if (M.1 15 0 0 2) = 4 then (B_X1_readTape_77 M) else ((F_X1_readLine M).bind (fun q17 => (if q17.1 = 0 then (bd (l1 + 1) (fun v20 => (k26 v20 q17.2))) else (bd (uIw q17.2 0 0 0 3 ((q17.2.1 0 0 0 3) + 1)) (fun M21 => (bd (l1 + 1) (fun v22 => (k26 v22 M21))))))))) else (B_X1_readTape_77 M)))
def F_X1_readTape (M : Mw) : Option (Int32 × Mw) :=
  ((F_X0_clear 0 M).bind (fun M1 => (bd (uIw M1 13 0 0 2 0) (fun M3 => (bd (uIw M3 13 0 0 3 (-1)) (fun M4 => ((F_X6_rewind M4).bind (fun M5 => (it (fun _ _ => none) (B_X1_readTape_26) FU 0 M5)))))))))
set_option maxRecDepth 100000 in
set_option maxHeartbeats 4000000 in
theorem t_X1_readTape_102 {g : Gw} {x : Xw} (C : Cw g x cX1_readTape RX1 2 (some .boolean) 12) (hm : x.2.2.2.2.2.2.2.2.2.2.2 = (2, 12)) (hT0 : gT g = 0) (M : Mw) : Sw g x (fun q : Int32 × Mw => (some (.int q.1), q.2)) M 2 12 102 [(0, .ref (gA g 13 0 0))] [] (B_X1_readTape_102 M) := by
  unfold B_X1_readTape_102
  refine r_aload_n C 0 dX1_readTape_102 rfl rfl ?_
  refine gf_13_2 C dX1_readTape_103 u_243 in_13 ?_
  refine r_if_ne (tgt := 113) C dX1_readTape_106 (by decide) (fun h10 => ?_) (fun h10 => ?_)
  · refine r_iconst (v := 1) C dX1_readTape_109 (by decide) ?_
    refine r_goto (tgt := 114) C dX1_readTape_110 (by decide) ?_
    exact r_zretc C dX1_readTape_114 rfl bz1 rfl (xk0 hm) (xn0 hm)
  · refine r_iconst (v := 0) C dX1_readTape_113 (by decide) ?_
    exact r_zretc C dX1_readTape_114 rfl bz0 rfl (xk0 hm) (xn0 hm)
set_option maxRecDepth 100000 in
set_option maxHeartbeats 4000000 in
theorem t_X1_readTape_88 {g : Gw} {x : Xw} (C : Cw g x cX1_readTape RX1 2 (some .boolean) 12) (hm : x.2.2.2.2.2.2.2.2.2.2.2 = (2, 12)) (hT0 : gT g = 0) (M : Mw) : Sw g x (fun q : Int32 × Mw => (some (.int q.1), q.2)) M 0 0 88 [(0, .ref (gA g 13 0 0))] [] (B_X1_readTape_88 M) := by
  unfold B_X1_readTape_88
  refine r_aload_n C 0 dX1_readTape_88 rfl rfl ?_
  refine gf_13_2 C dX1_readTape_89 u_243 in_13 ?_
  refine r_if_ne (tgt := 102) C dX1_readTape_92 (by decide) (fun h9 => ?_) (fun h9 => ?_)
  · refine r_aload_n C 0 dX1_readTape_95 rfl rfl ?_
    refine gf_13_1 C dX1_readTape_96 u_241 in_13 ?_
    refine r_callVU (rest := []) C (c_X0_measureTasks (by decide) hT0 M) dX1_readTape_99 u_530 (in_0 (by decide)) (contW_0 g _ _ _ _ _) rfl u_531 u_532 mi_X0_measureTasks (by decide) rfl rfl (Nat.le_of_ble_eq_true rfl) (xk1 hm (by decide)) (xn1 hm (by decide)) (fun M11 h12 => ?_)
    exact t_X1_readTape_102 C hm hT0 M11
  · refine r_widen (k' := 2) (n' := 12) (by decide) (by decide) ?_
    exact t_X1_readTape_102 C hm hT0 M
set_option maxRecDepth 100000 in
set_option maxHeartbeats 4000000 in
theorem t_X1_readTape_77 {g : Gw} {x : Xw} (C : Cw g x cX1_readTape RX1 2 (some .boolean) 12) (hm : x.2.2.2.2.2.2.2.2.2.2.2 = (2, 12)) (hT0 : gT g = 0) (M : Mw) : Sw g x (fun q : Int32 × Mw => (some (.int q.1), q.2)) M 0 0 77 [(0, .ref (gA g 13 0 0))] [] (B_X1_readTape_77 M) := by
  unfold B_X1_readTape_77
  refine r_aload_n C 0 dX1_readTape_77 rfl rfl ?_
  refine gf_13_2 C dX1_readTape_78 u_243 in_13 ?_
  refine r_if_ne (tgt := 88) C dX1_readTape_81 (by decide) (fun h8 => ?_) (fun h8 => ?_)
  · refine r_aload_n C 0 dX1_readTape_84 rfl rfl ?_
    refine r_callVU (rest := []) C (c_X1_findTaskWithoutNode M) dX1_readTape_85 u_527 in_13 (contW_13 g _ _ _ _ _) rfl u_528 u_16 mi_X1_findTaskWithoutNode (by decide) rfl rfl (Nat.le_of_ble_eq_true rfl) (xk1 hm (by decide)) (xn1 hm (by decide)) (fun M13 h14 => ?_)
    exact t_X1_readTape_88 C hm hT0 M13
  · exact t_X1_readTape_88 C hm hT0 M
set_option maxRecDepth 100000 in
set_option maxHeartbeats 4000000 in
theorem t_X1_readTape_26 {g : Gw} {x : Xw} (C : Cw g x cX1_readTape RX1 2 (some .boolean) 12) (hm : x.2.2.2.2.2.2.2.2.2.2.2 = (2, 12)) (hT0 : gT g = 0) (k26 : Int32 → Mw → Option (Int32 × Mw)) (hk26 : ∀ (l1 : Int32) (M : Mw), Sw g x (fun q : Int32 × Mw => (some (.int q.1), q.2)) M 0 0 26 [(0, .ref (gA g 13 0 0)), (1, .int l1)] [] (k26 l1 M)) (l1 : Int32) (M : Mw) : Sw g x (fun q : Int32 × Mw => (some (.int q.1), q.2)) M 0 0 26 [(0, .ref (gA g 13 0 0)), (1, .int l1)] [] (B_X1_readTape_26 k26 l1 M) := by
  unfold B_X1_readTape_26
  refine r_iload_n C 1 dX1_readTape_26 rfl rfl ?_
  refine r_sipush (v := 1000) C dX1_readTape_27 (by decide) ?_
  refine r_icmp_ge (tgt := 77) C dX1_readTape_30 (by decide) (fun h7 => ?_) (fun h7 => ?_)
  · refine r_lv [0] rfl ?_
    exact t_X1_readTape_77 C hm hT0 M
  · refine r_aload_n C 0 dX1_readTape_33 rfl rfl ?_
    refine gf_13_2 C dX1_readTape_34 u_243 in_13 ?_
    refine r_if_ne (tgt := 77) C dX1_readTape_37 (by decide) (fun h15 => ?_) (fun h15 => ?_)
    · refine r_aload_n C 0 dX1_readTape_40 rfl rfl ?_
      refine gf_13_0 C dX1_readTape_41 u_239 in_13 ?_
      refine gf_15_2 C dX1_readTape_44 u_167 in_15 ?_
      refine r_iconst (v := 4) C dX1_readTape_47 (by decide) ?_
      refine r_icmp_eq (tgt := 77) C dX1_readTape_48 (by decide) (fun h16 => ?_) (fun h16 => ?_)
      · refine r_lv [0] rfl ?_
        exact t_X1_readTape_77 C hm hT0 M
      · refine r_aload_n C 0 dX1_readTape_51 rfl rfl ?_
        refine r_callVWi (rest := []) C (c_X1_readLine M) dX1_readTape_52 u_416 in_13 (contW_13 g _ _ _ _ _) rfl u_417 u_2 mi_X1_readLine (by decide) rfl rfl (Nat.le_of_ble_eq_true rfl) (xk1 hm (by decide)) (xn1 hm (by decide)) (fun q17 h18 => ?_)
        refine r_if_eq (tgt := 71) C dX1_readTape_55 (by decide) (fun h19 => ?_) (fun h19 => ?_)
        · refine r_iinc (c := 1) (lv' := fun v20 => [(1, .int v20), (0, .ref (gA g 13 0 0))]) C 1 dX1_readTape_71 rfl (by decide) (by decide) (fun _ => rfl) (fun v20 => ?_)
          refine r_goto (tgt := 26) C dX1_readTape_74 (by decide) ?_
          refine r_lv [1, 0] rfl ?_
          exact hk26 v20 q17.2
        · refine r_aload_n C 0 dX1_readTape_58 rfl rfl ?_
          refine gf_13_1 C dX1_readTape_59 u_241 in_13 ?_
          refine r_dup C rfl dX1_readTape_62 ?_
          refine gf_0_3 C dX1_readTape_63 u_194 (in_0 (by decide)) ?_
          refine r_iconst (v := 1) C dX1_readTape_66 (by decide) ?_
          refine r_iadd C dX1_readTape_67 ?_
          refine pf_0_3 C dX1_readTape_68 u_194 (in_0 (by decide)) (fun M21 => ?_)
          refine r_iinc (c := 1) (lv' := fun v22 => [(1, .int v22), (0, .ref (gA g 13 0 0))]) C 1 dX1_readTape_71 rfl (by decide) (by decide) (fun _ => rfl) (fun v22 => ?_)
          refine r_goto (tgt := 26) C dX1_readTape_74 (by decide) ?_
          refine r_lv [1, 0] rfl ?_
          exact hk26 v22 M21
    · refine r_lv [0] rfl ?_
      exact t_X1_readTape_77 C hm hT0 M
set_option maxRecDepth 100000 in
set_option maxHeartbeats 4000000 in
theorem tl_X1_readTape_26 {g : Gw} {x : Xw} (C : Cw g x cX1_readTape RX1 2 (some .boolean) 12) (hm : x.2.2.2.2.2.2.2.2.2.2.2 = (2, 12)) (hT0 : gT g = 0) (n : Nat) : ∀ (l1 : Int32) (M : Mw), Sw g x (fun q : Int32 × Mw => (some (.int q.1), q.2)) M 0 0 26 [(0, .ref (gA g 13 0 0)), (1, .int l1)] [] (it (fun _ _ => none) (B_X1_readTape_26) n l1 M) := by
  induction n with
  | zero =>
    intro l1 M
    exact r_none
  | succ n ih =>
    intro l1 M
    exact t_X1_readTape_26 C hm hT0 _ ih l1 M
set_option maxRecDepth 100000 in
set_option maxHeartbeats 4000000 in
theorem c_X1_readTape {g : Gw} {l : Launch} (hT0 : gT g = 0) (M : Mw) : Kw g l yX1_readTape cX1_readTape 2 (some .boolean) 12 2 12 [.ref (gA g 13 0 0)] M (fun q : Int32 × Mw => (some (.int q.1), q.2)) (F_X1_readTape M) := by
  refine Kw.of (own := RX1) (lv0 := [(0, .ref (gA g 13 0 0))]) (by decide +kernel) rfl (Nat.le_of_ble_eq_true rfl) rfl (fun x C hl hm => ?_)
  subst hl
  unfold F_X1_readTape
  refine r_aload_n C 0 dX1_readTape_0 rfl rfl ?_
  refine gf_13_1 C dX1_readTape_1 u_241 in_13 ?_
  refine r_callVU (rest := []) C (c_X0_clear (by decide) M) dX1_readTape_4 u_400 (in_0 (by decide)) (contW_0 g _ _ _ _ _) rfl u_401 u_402 mi_X0_clear (by decide) rfl rfl (Nat.le_of_ble_eq_true rfl) (xk1 hm (by decide)) (xn1 hm (by decide)) (fun M1 h2 => ?_)
  refine r_aload_n C 0 dX1_readTape_7 rfl rfl ?_
  refine r_iconst (v := 0) C dX1_readTape_8 (by decide) ?_
  refine pf_13_2 C dX1_readTape_9 u_243 in_13 (fun M3 => ?_)
  refine r_aload_n C 0 dX1_readTape_12 rfl rfl ?_
  refine r_iconst (v := (-1)) C dX1_readTape_13 (by decide) ?_
  refine pf_13_3 C dX1_readTape_14 u_245 in_13 (fun M4 => ?_)
  refine r_aload_n C 0 dX1_readTape_17 rfl rfl ?_
  refine gf_13_0 C dX1_readTape_18 u_239 in_13 ?_
  refine r_callVU (rest := []) C (c_X6_rewind M4) dX1_readTape_21 u_404 in_15 (contW_15 g _ _ _ _ _) rfl u_405 u_406 mi_X6_rewind (by decide) rfl rfl (Nat.le_of_ble_eq_true rfl) (xk1 hm (by decide)) (xn1 hm (by decide)) (fun M5 h6 => ?_)
  refine r_iconst (v := 0) C dX1_readTape_24 (by decide) ?_
  refine r_istore_n0 (lv' := [(1, .int 0), (0, .ref (gA g 13 0 0))]) C dX1_readTape_25 rfl (by decide) rfl ?_
  refine r_lv [1, 0] rfl ?_
  exact tl_X1_readTape_26 C hm hT0 FU 0 M5
def F_X9_board (M : Mw) : Option (Int32 × Mw) :=
  ((F_X1_readTape M).bind (fun q1 => (bd q1.1 (fun v3 => ((F_X6_cut 0 q1.2).bind (fun q4 => (if v3 = 0 then some ((-4), q4.2) else ((F_X0_copyFrom 1 0 q4.2).bind (fun M7 => ((F_X9_refresh M7).bind (fun M9 => some ((M9.1 0 1 0 3), M9))))))))))))
set_option maxRecDepth 100000 in
set_option maxHeartbeats 4000000 in
theorem c_X9_board {g : Gw} {l : Launch} (hT0 : gT g = 0) (M : Mw) : Kw g l yX9_board cX9_board 2 (some .int) 13 2 12 [.ref (gA g 41 0 0)] M (fun q : Int32 × Mw => (some (.int q.1), q.2)) (F_X9_board M) := by
  refine Kw.of (own := RX9) (lv0 := [(0, .ref (gA g 41 0 0))]) (by decide +kernel) rfl (Nat.le_of_ble_eq_true rfl) rfl (fun x C hl hm => ?_)
  subst hl
  unfold F_X9_board
  refine r_aload_n C 0 dX9_board_0 rfl rfl ?_
  refine gf_41_0 C dX9_board_1 u_364 in_41 ?_
  refine r_callVWi (rest := []) C (c_X1_readTape hT0 M) dX9_board_4 u_396 in_13 (contW_13 g _ _ _ _ _) rfl u_397 u_398 mi_X1_readTape (by decide) rfl rfl (Nat.le_of_ble_eq_true rfl) (xk1 hm (by decide)) (xn1 hm (by decide)) (fun q1 h2 => ?_)
  refine r_istore_n (lv' := fun v3 => [(1, .int v3), (0, .ref (gA g 41 0 0))]) C dX9_board_7 rfl (by decide) (fun _ => rfl) (fun v3 => ?_)
  refine r_aload_n C 1 dX9_board_8 rfl rfl ?_
  refine gf_41_0 C dX9_board_9 u_364 in_41 ?_
  refine gf_13_0 C dX9_board_12 u_240 in_13 ?_
  refine r_iconst (v := 0) C dX9_board_15 (by decide) ?_
  refine r_callVWi (rest := []) C (c_X6_cut 0 q1.2) dX9_board_16 u_388 in_15 (contW_15 g _ _ _ _ _) rfl u_389 u_390 mi_X6_cut (by decide) rfl rfl (Nat.le_of_ble_eq_true rfl) (xk1 hm (by decide)) (xn1 hm (by decide)) (fun q4 h5 => ?_)
  refine r_pop C rfl dX9_board_19 ?_
  refine r_iload_n C 0 dX9_board_20 rfl rfl ?_
  refine r_if_ne (tgt := 27) C dX9_board_21 (by decide) (fun h6 => ?_) (fun h6 => ?_)
  · refine r_bipush (v := (-4)) C dX9_board_24 (by decide) ?_
    refine r_widen (k' := 2) (n' := 12) (by decide) (by decide) ?_
    exact r_iret C dX9_board_26 rfl rfl (xk0 hm) (xn0 hm)
  · refine r_aload_n C 1 dX9_board_27 rfl rfl ?_
    refine gf_41_1 C dX9_board_28 u_365 in_41 ?_
    refine r_aload_n C 1 dX9_board_31 rfl rfl ?_
    refine gf_41_0 C dX9_board_32 u_364 in_41 ?_
    refine gf_13_1 C dX9_board_35 u_242 in_13 ?_
    refine r_callVU (rest := []) C (c_X0_copyFrom (by decide) (by decide) q4.2) dX9_board_38 u_544 (in_0 (by decide)) (contW_0 g _ _ _ _ _) rfl u_545 u_546 mi_X0_copyFrom (by decide) rfl rfl (Nat.le_of_ble_eq_true rfl) (xk1 hm (by decide)) (xn1 hm (by decide)) (fun M7 h8 => ?_)
    refine r_aload_n C 1 dX9_board_41 rfl rfl ?_
    refine r_callVU (rest := []) C (c_X9_refresh M7) dX9_board_42 u_551 in_41 (contW_41 g _ _ _ _ _) rfl u_552 u_18 mi_X9_refresh (by decide) rfl rfl (Nat.le_of_ble_eq_true rfl) (xk1 hm (by decide)) (xn1 hm (by decide)) (fun M9 h10 => ?_)
    refine r_aload_n C 1 dX9_board_45 rfl rfl ?_
    refine gf_41_1 C dX9_board_46 u_365 in_41 ?_
    refine gf_0_3 C dX9_board_49 u_195 (in_0 (by decide)) ?_
    refine r_widen (k' := 2) (n' := 12) (by decide) (by decide) ?_
    exact r_iret C dX9_board_52 rfl rfl (xk0 hm) (xn0 hm)
