def B_X1_readNode_76 (l1 : Int32) (l2 : Int32) (M : Mw) : Option (Int32 × Mw) :=
  ((F_X1_readEnd M).bind (fun q12 => (if q12.1 = 0 then some (0, q12.2) else (if inb l1 5 then (if inb l2 6 then (bd (uIw q12.2 6 0 l1.toNatClampNeg l2.toNatClampNeg (q12.2.1 14 0 0 0)) (fun M16 => (if inb l1 5 then (bd (uIw M16 4 0 l1.toNatClampNeg 6 ((M16.1 4 0 l1.toNatClampNeg 6) + 1)) (fun M19 => some (1, M19))) else none))) else none) else none))))
def F_X1_readNode (M : Mw) : Option (Int32 × Mw) :=
  (bd ((M.1 0 0 0 5) - 1) (fun v1 => (if 0 ≤ v1 then (if inb v1 5 then (bd (M.1 4 0 v1.toNatClampNeg 6) (fun v4 => (if v4 < 6 then ((F_X6_advance M).bind (fun M6 => ((F_X1_readNumber 1 9 0 M6).bind (fun q8 => (if q8.1 = 0 then some (0, q8.2) else (if v4 ≤ 0 then (B_X1_readNode_76 v1 v4 q8.2) else ((F_X1_readFlow v1 v4 q8.2).bind (fun q20 => (if q20.1 = 0 then some (0, q20.2) else (B_X1_readNode_76 v1 v4 q20.2)))))))))) else ((F_X1_fail 3 M).bind (fun q23 => (if bz q23.1 then some (q23.1, q23.2) else none)))))) else none) else ((F_X1_fail 1 M).bind (fun q25 => (if bz q25.1 then some (q25.1, q25.2) else none))))))
set_option maxRecDepth 100000 in
set_option maxHeartbeats 4000000 in
theorem t_X1_readNode_76 {g : Gw} {x : Xw} (C : Cw g x cX1_readNode RX1 3 (some .boolean) 10) (hm : x.2.2.2.2.2.2.2.2.2.2.2 = (0, 0)) (l1 : Int32) (l2 : Int32) (M : Mw) : Sw g x (fun q : Int32 × Mw => (some (.int q.1), q.2)) M 0 0 76 [(0, .ref (gA g 13 0 0)), (1, .int l1), (2, .int l2)] [] (B_X1_readNode_76 l1 l2 M) := by
  unfold B_X1_readNode_76
  refine r_aload_n C 0 dX1_readNode_76 rfl rfl ?_
  refine r_callVWi (rest := []) C (c_X1_readEnd M) dX1_readNode_77 u_482 in_13 (contW_13 g _ _ _ _ _) rfl u_483 u_8 mi_X1_readEnd (by decide) rfl rfl (Nat.le_of_ble_eq_true rfl) (xk1 hm (by decide)) (xn1 hm (by decide)) (fun q12 h13 => ?_)
  refine r_if_ne (tgt := 85) C dX1_readNode_80 (by decide) (fun h14 => ?_) (fun h14 => ?_)
  · refine r_iconst (v := 0) C dX1_readNode_83 (by decide) ?_
    exact r_zretc C dX1_readNode_84 rfl bz0 rfl (xk0 hm) (xn0 hm)
  · refine r_aload_n C 0 dX1_readNode_85 rfl rfl ?_
    refine gf_13_1 C dX1_readNode_86 u_241 in_13 ?_
    refine gf_0_11 C dX1_readNode_89 u_228 (in_0 (by decide)) ?_
    refine r_iload_n C 1 dX1_readNode_92 rfl rfl ?_
    refine r_aald (t0 := 5) (ty := .array .int) C dX1_readNode_93 (in_5 (by decide)) (contW_5 g _ _ _ _ _) rfl rfl (fun h15 => ?_)
    refine r_iload_n C 2 dX1_readNode_94 rfl rfl ?_
    refine r_aload_n C 0 dX1_readNode_95 rfl rfl ?_
    refine gf_13_4 C dX1_readNode_96 u_247 in_13 ?_
    refine r_iconst (v := 0) C dX1_readNode_99 (by decide) ?_
    refine r_ialdc C dX1_readNode_100 in_14 (contW_14 g _ _ _ _ _) (by decide) (j := 0) (by decide) ?_
    refine r_iast C dX1_readNode_101 (in_6 (by decide) (inb_lt h15)) (contW_6 g _ _) (fun M16 h17 => ?_)
    refine r_aload_n C 0 dX1_readNode_102 rfl rfl ?_
    refine gf_13_1 C dX1_readNode_103 u_241 in_13 ?_
    refine gf_0_10 C dX1_readNode_106 u_221 (in_0 (by decide)) ?_
    refine r_iload_n C 1 dX1_readNode_109 rfl rfl ?_
    refine r_aald (t0 := 5) (ty := .array .int) C dX1_readNode_110 (in_3 (by decide)) (contW_3 g _ _ _ _ _) rfl rfl (fun h18 => ?_)
    refine r_bipush (v := 6) C dX1_readNode_111 (by decide) ?_
    refine r_dup2 C rfl rfl dX1_readNode_113 ?_
    refine r_ialdc C dX1_readNode_114 (in_4 (by decide) (inb_lt h18)) (contW_4 g _ _ _ _ _) (by decide) (j := 6) (by decide) ?_
    refine r_iconst (v := 1) C dX1_readNode_115 (by decide) ?_
    refine r_iadd C dX1_readNode_116 ?_
    refine r_iastc C dX1_readNode_117 (in_4 (by decide) (inb_lt h18)) (contW_4 g _ _) (by decide) (j := 6) (by decide) (fun M19 => ?_)
    refine r_iconst (v := 1) C dX1_readNode_118 (by decide) ?_
    exact r_zretc C dX1_readNode_119 rfl bz1 rfl (xk0 hm) (xn0 hm)
set_option maxRecDepth 100000 in
set_option maxHeartbeats 4000000 in
theorem c_X1_readNode {g : Gw} {l : Launch} (M : Mw) : Kw g l yX1_readNode cX1_readNode 3 (some .boolean) 10 0 0 [.ref (gA g 13 0 0)] M (fun q : Int32 × Mw => (some (.int q.1), q.2)) (F_X1_readNode M) := by
  refine Kw.of (own := RX1) (lv0 := [(0, .ref (gA g 13 0 0))]) (by decide +kernel) rfl (Nat.le_of_ble_eq_true rfl) rfl (fun x C hl hm => ?_)
  subst hl
  unfold F_X1_readNode
  refine r_aload_n C 0 dX1_readNode_0 rfl rfl ?_
  refine gf_13_1 C dX1_readNode_1 u_241 in_13 ?_
  refine gf_0_5 C dX1_readNode_4 u_201 (in_0 (by decide)) ?_
  refine r_iconst (v := 1) C dX1_readNode_7 (by decide) ?_
  refine r_isub C dX1_readNode_8 ?_
  refine r_istore_n (lv' := fun v1 => [(1, .int v1), (0, .ref (gA g 13 0 0))]) C dX1_readNode_9 rfl (by decide) (fun _ => rfl) (fun v1 => ?_)
  refine r_iload_n C 0 dX1_readNode_10 rfl rfl ?_
  refine r_if_ge (tgt := 20) C dX1_readNode_11 (by decide) (fun h2 => ?_) (fun h2 => ?_)
  · refine r_aload_n C 1 dX1_readNode_20 rfl rfl ?_
    refine gf_13_1 C dX1_readNode_21 u_241 in_13 ?_
    refine gf_0_10 C dX1_readNode_24 u_221 (in_0 (by decide)) ?_
    refine r_iload_n C 0 dX1_readNode_27 rfl rfl ?_
    refine r_aald (t0 := 5) (ty := .array .int) C dX1_readNode_28 (in_3 (by decide)) (contW_3 g _ _ _ _ _) rfl rfl (fun h3 => ?_)
    refine r_bipush (v := 6) C dX1_readNode_29 (by decide) ?_
    refine r_ialdc C dX1_readNode_31 (in_4 (by decide) (inb_lt h3)) (contW_4 g _ _ _ _ _) (by decide) (j := 6) (by decide) ?_
    refine r_istore_n (lv' := fun v4 => [(2, .int v4), (1, .int v1), (0, .ref (gA g 13 0 0))]) C dX1_readNode_32 rfl (by decide) (fun _ => rfl) (fun v4 => ?_)
    refine r_iload_n C 0 dX1_readNode_33 rfl rfl ?_
    refine r_bipush (v := 6) C dX1_readNode_34 (by decide) ?_
    refine r_icmp_lt (tgt := 45) C dX1_readNode_36 (by decide) (fun h5 => ?_) (fun h5 => ?_)
    · refine r_aload_n C 2 dX1_readNode_45 rfl rfl ?_
      refine gf_13_0 C dX1_readNode_46 u_239 in_13 ?_
      refine r_callVU (rest := []) C (c_X6_advance M) dX1_readNode_49 u_472 in_15 (contW_15 g _ _ _ _ _) rfl u_409 u_410 mi_X6_advance (by decide) rfl rfl (Nat.le_of_ble_eq_true rfl) (xk1 hm (by decide)) (xn1 hm (by decide)) (fun M6 h7 => ?_)
      refine r_aload_n C 2 dX1_readNode_52 rfl rfl ?_
      refine r_iconst (v := 1) C dX1_readNode_53 (by decide) ?_
      refine r_bipush (v := 9) C dX1_readNode_54 (by decide) ?_
      refine r_iconst (v := 0) C dX1_readNode_56 (by decide) ?_
      refine r_callVWi (rest := []) C (c_X1_readNumber 1 9 0 M6) dX1_readNode_57 u_479 in_13 (contW_13 g _ _ _ _ _) rfl u_480 u_7 mi_X1_readNumber (by decide) rfl rfl (Nat.le_of_ble_eq_true rfl) (xk1 hm (by decide)) (xn1 hm (by decide)) (fun q8 h9 => ?_)
      refine r_if_eq (tgt := 83) C dX1_readNode_60 (by decide) (fun h10 => ?_) (fun h10 => ?_)
      · refine r_iconst (v := 0) C dX1_readNode_83 (by decide) ?_
        exact r_zretc C dX1_readNode_84 rfl bz0 rfl (xk0 hm) (xn0 hm)
      · refine r_iload_n C 0 dX1_readNode_63 rfl rfl ?_
        refine r_if_le (tgt := 76) C dX1_readNode_64 (by decide) (fun h11 => ?_) (fun h11 => ?_)
        · refine r_lv [2, 1, 0] rfl ?_
          exact t_X1_readNode_76 C hm v1 v4 q8.2
        · refine r_aload_n C 2 dX1_readNode_67 rfl rfl ?_
          refine r_iload_n C 1 dX1_readNode_68 rfl rfl ?_
          refine r_iload_n C 0 dX1_readNode_69 rfl rfl ?_
          refine r_callVWi (rest := []) C (c_X1_readFlow v1 v4 q8.2) dX1_readNode_70 u_498 in_13 (contW_13 g _ _ _ _ _) rfl u_499 u_12 mi_X1_readFlow (by decide) rfl rfl (Nat.le_of_ble_eq_true rfl) (xk1 hm (by decide)) (xn1 hm (by decide)) (fun q20 h21 => ?_)
          refine r_if_eq (tgt := 83) C dX1_readNode_73 (by decide) (fun h22 => ?_) (fun h22 => ?_)
          · refine r_iconst (v := 0) C dX1_readNode_83 (by decide) ?_
            exact r_zretc C dX1_readNode_84 rfl bz0 rfl (xk0 hm) (xn0 hm)
          · refine r_lv [2, 1, 0] rfl ?_
            exact t_X1_readNode_76 C hm v1 v4 q20.2
    · refine r_aload_n C 2 dX1_readNode_39 rfl rfl ?_
      refine r_iconst (v := 3) C dX1_readNode_40 (by decide) ?_
      refine r_callVWi (rest := []) C (c_X1_fail 3 M) dX1_readNode_41 u_466 in_13 (contW_13 g _ _ _ _ _) rfl u_467 u_3 mi_X1_fail (by decide) rfl rfl (Nat.le_of_ble_eq_true rfl) (xk1 hm (by decide)) (xn1 hm (by decide)) (fun q23 h24 => ?_)
      exact r_zret C dX1_readNode_44 rfl rfl (xk0 hm) (xn0 hm)
  · refine r_aload_n C 1 dX1_readNode_14 rfl rfl ?_
    refine r_iconst (v := 1) C dX1_readNode_15 (by decide) ?_
    refine r_callVWi (rest := []) C (c_X1_fail 1 M) dX1_readNode_16 u_466 in_13 (contW_13 g _ _ _ _ _) rfl u_467 u_3 mi_X1_fail (by decide) rfl rfl (Nat.le_of_ble_eq_true rfl) (xk1 hm (by decide)) (xn1 hm (by decide)) (fun q25 h26 => ?_)
    exact r_zret C dX1_readNode_19 rfl rfl (xk0 hm) (xn0 hm)
def F_X1_injectionKind (M : Mw) : Option (Int32) :=
  ((F_X6_isWord 4 M).bind (fun v1 => (if v1 = 0 then ((F_X6_isWord 16 M).bind (fun v4 => (if v4 = 0 then ((F_X6_isWord 13 M).bind (fun v7 => (if v7 = 0 then ((F_X6_isWord 15 M).bind (fun v10 => (if v10 = 0 then ((F_X6_isWord 23 M).bind (fun v13 => (if v13 = 0 then ((F_X6_isWord 14 M).bind (fun v16 => (if v16 = 0 then some (-1) else some 5))) else some 4))) else some 3))) else some 2))) else some 1))) else some 0)))
set_option maxRecDepth 100000 in
set_option maxHeartbeats 4000000 in
theorem c_X1_injectionKind {g : Gw} {l : Launch} (M : Mw) : Kw g l yX1_injectionKind cX1_injectionKind 1 (some .int) 8 0 0 [.ref (gA g 13 0 0)] M (fun v : Int32 => (some (.int v), M)) (F_X1_injectionKind M) := by
  refine Kw.of (own := RX1) (lv0 := [(0, .ref (gA g 13 0 0))]) (by decide +kernel) rfl (Nat.le_of_ble_eq_true rfl) rfl (fun x C hl hm => ?_)
  subst hl
  unfold F_X1_injectionKind
  refine r_aload_n C 0 dX1_injectionKind_0 rfl rfl ?_
  refine gf_13_0 C dX1_injectionKind_1 u_239 in_13 ?_
  refine r_ldcS (i := 4) (tx := "hang") C (by decide) dX1_injectionKind_4 ?_
  refine r_callVRi (rest := []) C (c_X6_isWord (by decide) M) dX1_injectionKind_6 u_419 in_15 (contW_15 g _ _ _ _ _) rfl u_420 u_421 mi_X6_isWord (by decide) rfl rfl (Nat.le_of_ble_eq_true rfl) (xk1 hm (by decide)) (xn1 hm (by decide)) (fun v1 h2 => ?_)
  refine r_if_eq (tgt := 14) C dX1_injectionKind_9 (by decide) (fun h3 => ?_) (fun h3 => ?_)
  · refine r_aload_n C 0 dX1_injectionKind_14 rfl rfl ?_
    refine gf_13_0 C dX1_injectionKind_15 u_239 in_13 ?_
    refine r_ldcS (i := 16) (tx := "stop") C (by decide) dX1_injectionKind_18 ?_
    refine r_callVRi (rest := []) C (c_X6_isWord (by decide) M) dX1_injectionKind_20 u_419 in_15 (contW_15 g _ _ _ _ _) rfl u_420 u_421 mi_X6_isWord (by decide) rfl rfl (Nat.le_of_ble_eq_true rfl) (xk1 hm (by decide)) (xn1 hm (by decide)) (fun v4 h5 => ?_)
    refine r_if_eq (tgt := 28) C dX1_injectionKind_23 (by decide) (fun h6 => ?_) (fun h6 => ?_)
    · refine r_aload_n C 0 dX1_injectionKind_28 rfl rfl ?_
      refine gf_13_0 C dX1_injectionKind_29 u_239 in_13 ?_
      refine r_ldcS (i := 13) (tx := "skip") C (by decide) dX1_injectionKind_32 ?_
      refine r_callVRi (rest := []) C (c_X6_isWord (by decide) M) dX1_injectionKind_34 u_419 in_15 (contW_15 g _ _ _ _ _) rfl u_420 u_421 mi_X6_isWord (by decide) rfl rfl (Nat.le_of_ble_eq_true rfl) (xk1 hm (by decide)) (xn1 hm (by decide)) (fun v7 h8 => ?_)
      refine r_if_eq (tgt := 42) C dX1_injectionKind_37 (by decide) (fun h9 => ?_) (fun h9 => ?_)
      · refine r_aload_n C 0 dX1_injectionKind_42 rfl rfl ?_
        refine gf_13_0 C dX1_injectionKind_43 u_239 in_13 ?_
        refine r_ldcS (i := 15) (tx := "slow") C (by decide) dX1_injectionKind_46 ?_
        refine r_callVRi (rest := []) C (c_X6_isWord (by decide) M) dX1_injectionKind_48 u_419 in_15 (contW_15 g _ _ _ _ _) rfl u_420 u_421 mi_X6_isWord (by decide) rfl rfl (Nat.le_of_ble_eq_true rfl) (xk1 hm (by decide)) (xn1 hm (by decide)) (fun v10 h11 => ?_)
        refine r_if_eq (tgt := 56) C dX1_injectionKind_51 (by decide) (fun h12 => ?_) (fun h12 => ?_)
        · refine r_aload_n C 0 dX1_injectionKind_56 rfl rfl ?_
          refine gf_13_0 C dX1_injectionKind_57 u_239 in_13 ?_
          refine r_ldcS (i := 23) (tx := "wrong") C (by decide) dX1_injectionKind_60 ?_
          refine r_callVRi (rest := []) C (c_X6_isWord (by decide) M) dX1_injectionKind_62 u_419 in_15 (contW_15 g _ _ _ _ _) rfl u_420 u_421 mi_X6_isWord (by decide) rfl rfl (Nat.le_of_ble_eq_true rfl) (xk1 hm (by decide)) (xn1 hm (by decide)) (fun v13 h14 => ?_)
          refine r_if_eq (tgt := 70) C dX1_injectionKind_65 (by decide) (fun h15 => ?_) (fun h15 => ?_)
          · refine r_aload_n C 0 dX1_injectionKind_70 rfl rfl ?_
            refine gf_13_0 C dX1_injectionKind_71 u_239 in_13 ?_
            refine r_ldcS (i := 14) (tx := "sleep") C (by decide) dX1_injectionKind_74 ?_
            refine r_callVRi (rest := []) C (c_X6_isWord (by decide) M) dX1_injectionKind_76 u_419 in_15 (contW_15 g _ _ _ _ _) rfl u_420 u_421 mi_X6_isWord (by decide) rfl rfl (Nat.le_of_ble_eq_true rfl) (xk1 hm (by decide)) (xn1 hm (by decide)) (fun v16 h17 => ?_)
            refine r_if_eq (tgt := 86) C dX1_injectionKind_79 (by decide) (fun h18 => ?_) (fun h18 => ?_)
            · refine r_iconst (v := (-1)) C dX1_injectionKind_86 (by decide) ?_
              exact r_iret C dX1_injectionKind_87 rfl rfl (xk0 hm) (xn0 hm)
            · refine r_iconst (v := 5) C dX1_injectionKind_82 (by decide) ?_
              refine r_goto (tgt := 87) C dX1_injectionKind_83 (by decide) ?_
              exact r_iret C dX1_injectionKind_87 rfl rfl (xk0 hm) (xn0 hm)
          · refine r_iconst (v := 4) C dX1_injectionKind_68 (by decide) ?_
            exact r_iret C dX1_injectionKind_69 rfl rfl (xk0 hm) (xn0 hm)
        · refine r_iconst (v := 3) C dX1_injectionKind_54 (by decide) ?_
          exact r_iret C dX1_injectionKind_55 rfl rfl (xk0 hm) (xn0 hm)
      · refine r_iconst (v := 2) C dX1_injectionKind_40 (by decide) ?_
        exact r_iret C dX1_injectionKind_41 rfl rfl (xk0 hm) (xn0 hm)
    · refine r_iconst (v := 1) C dX1_injectionKind_26 (by decide) ?_
      exact r_iret C dX1_injectionKind_27 rfl rfl (xk0 hm) (xn0 hm)
  · refine r_iconst (v := 0) C dX1_injectionKind_12 (by decide) ?_
    exact r_iret C dX1_injectionKind_13 rfl rfl (xk0 hm) (xn0 hm)
def B_X1_readChangedTask_35 (M : Mw) : Option (Int32 × Mw) :=
  ((F_X1_readNumber 0 ((M.1 0 0 0 5) - 1) 0 M).bind (fun q2 => (if bz q2.1 then some (q2.1, q2.2) else none)))
def F_X1_readChangedTask (M : Mw) : Option (Int32 × Mw) :=
  (if (M.1 15 0 0 2) = 1 then ((F_X0_hasNode 0 (M.1 15 0 0 5) 0 M).bind (fun v4 => (if v4 = 0 then ((F_X1_fail 2 M).bind (fun q7 => (if bz q7.1 then some (q7.1, q7.2) else none))) else (B_X1_readChangedTask_35 M)))) else (B_X1_readChangedTask_35 M))
set_option maxRecDepth 100000 in
set_option maxHeartbeats 4000000 in
theorem t_X1_readChangedTask_35 {g : Gw} {x : Xw} (C : Cw g x cX1_readChangedTask RX1 1 (some .boolean) 4) (hm : x.2.2.2.2.2.2.2.2.2.2.2 = (0, 0)) (M : Mw) : Sw g x (fun q : Int32 × Mw => (some (.int q.1), q.2)) M 0 0 35 [(0, .ref (gA g 13 0 0))] [] (B_X1_readChangedTask_35 M) := by
  unfold B_X1_readChangedTask_35
  refine r_aload_n C 0 dX1_readChangedTask_35 rfl rfl ?_
  refine r_iconst (v := 0) C dX1_readChangedTask_36 (by decide) ?_
  refine r_aload_n C 0 dX1_readChangedTask_37 rfl rfl ?_
  refine gf_13_1 C dX1_readChangedTask_38 u_241 in_13 ?_
  refine gf_0_5 C dX1_readChangedTask_41 u_201 (in_0 (by decide)) ?_
  refine r_iconst (v := 1) C dX1_readChangedTask_44 (by decide) ?_
  refine r_isub C dX1_readChangedTask_45 ?_
  refine r_iconst (v := 0) C dX1_readChangedTask_46 (by decide) ?_
  refine r_callVWi (rest := []) C (c_X1_readNumber 0 ((M.1 0 0 0 5) - 1) 0 M) dX1_readChangedTask_47 u_479 in_13 (contW_13 g _ _ _ _ _) rfl u_480 u_7 mi_X1_readNumber (by decide) rfl rfl (Nat.le_of_ble_eq_true rfl) (xk1 hm (by decide)) (xn1 hm (by decide)) (fun q2 h3 => ?_)
  exact r_zret C dX1_readChangedTask_50 rfl rfl (xk0 hm) (xn0 hm)
set_option maxRecDepth 100000 in
set_option maxHeartbeats 4000000 in
theorem c_X1_readChangedTask {g : Gw} {l : Launch} (M : Mw) : Kw g l yX1_readChangedTask cX1_readChangedTask 1 (some .boolean) 4 0 0 [.ref (gA g 13 0 0)] M (fun q : Int32 × Mw => (some (.int q.1), q.2)) (F_X1_readChangedTask M) := by
  refine Kw.of (own := RX1) (lv0 := [(0, .ref (gA g 13 0 0))]) (by decide +kernel) rfl (Nat.le_of_ble_eq_true rfl) rfl (fun x C hl hm => ?_)
  subst hl
  unfold F_X1_readChangedTask
  refine r_aload_n C 0 dX1_readChangedTask_0 rfl rfl ?_
  refine gf_13_0 C dX1_readChangedTask_1 u_239 in_13 ?_
  refine gf_15_2 C dX1_readChangedTask_4 u_167 in_15 ?_
  refine r_iconst (v := 1) C dX1_readChangedTask_7 (by decide) ?_
  refine r_icmp_ne (tgt := 35) C dX1_readChangedTask_8 (by decide) (fun h1 => ?_) (fun h1 => ?_)
  · refine r_aload_n C 0 dX1_readChangedTask_11 rfl rfl ?_
    refine gf_13_1 C dX1_readChangedTask_12 u_241 in_13 ?_
    refine r_aload_n C 0 dX1_readChangedTask_15 rfl rfl ?_
    refine gf_13_0 C dX1_readChangedTask_16 u_239 in_13 ?_
    refine gf_15_5 C dX1_readChangedTask_19 u_172 in_15 ?_
    refine r_iconst (v := 0) C dX1_readChangedTask_22 (by decide) ?_
    refine r_callVRi (rest := []) C (c_X0_hasNode (by decide) (M.1 15 0 0 5) 0 M) dX1_readChangedTask_23 u_522 (in_0 (by decide)) (contW_0 g _ _ _ _ _) rfl u_506 u_507 mi_X0_hasNode (by decide) rfl rfl (Nat.le_of_ble_eq_true rfl) (xk1 hm (by decide)) (xn1 hm (by decide)) (fun v4 h5 => ?_)
    refine r_if_ne (tgt := 35) C dX1_readChangedTask_26 (by decide) (fun h6 => ?_) (fun h6 => ?_)
    · refine r_aload_n C 0 dX1_readChangedTask_29 rfl rfl ?_
      refine r_iconst (v := 2) C dX1_readChangedTask_30 (by decide) ?_
      refine r_callVWi (rest := []) C (c_X1_fail 2 M) dX1_readChangedTask_31 u_466 in_13 (contW_13 g _ _ _ _ _) rfl u_467 u_3 mi_X1_fail (by decide) rfl rfl (Nat.le_of_ble_eq_true rfl) (xk1 hm (by decide)) (xn1 hm (by decide)) (fun q7 h8 => ?_)
      exact r_zret C dX1_readChangedTask_34 rfl rfl (xk0 hm) (xn0 hm)
    · exact t_X1_readChangedTask_35 C hm M
  · exact t_X1_readChangedTask_35 C hm M
def B_X0_setInjection_54 (b : Nat) (l2 : Int32) (l6 : Int32) (l7i : Nat) (s0 : Int32) (s1 : Int32) (s2i : Nat) (M : Mw) : Option (Mw) :=
  (if inb s1 5 then (bd (uIw M 12 b s2i s1.toNatClampNeg s0) (fun M8 => (if l2 = 5 then (bd (uIw M8 12 b l7i 4 (-1)) (fun M12 => some M12)) else (bd (uIw M8 12 b l7i 4 l6) (fun M11 => some M11))))) else none)
def B_X0_setInjection_48 (b : Nat) (l2 : Int32) (l6 : Int32) (l7i : Nat) (s0 : Int32) (s1i : Nat) (M : Mw) : Option (Mw) :=
  (B_X0_setInjection_54 b l2 l6 l7i (-1) s0 s1i M)
def F_X0_setInjection (b : Nat) (p1 : Int32) (p2 : Int32) (p3 : Int32) (p4 : Int32) (p5 : Int32) (p6 : Int32) (M : Mw) : Option (Mw) :=
  (if p1 < 0 then some M else (if p1 < 19 then (if inb p1 19 then (bd (uIw M 12 b p1.toNatClampNeg 0 p2) (fun M4 => (bd (uIw M4 12 b p1.toNatClampNeg 1 p3) (fun M5 => (bd (uIw M5 12 b p1.toNatClampNeg 2 p4) (fun M6 => (if p2 = 4 then (B_X0_setInjection_48 b p2 p6 p1.toNatClampNeg 3 p1.toNatClampNeg M6) else (if p2 = 5 then (B_X0_setInjection_48 b p2 p6 p1.toNatClampNeg 3 p1.toNatClampNeg M6) else (B_X0_setInjection_54 b p2 p6 p1.toNatClampNeg p5 3 p1.toNatClampNeg M6))))))))) else none) else some M))
set_option maxRecDepth 100000 in
set_option maxHeartbeats 4000000 in
theorem t_X0_setInjection_54 {g : Gw} {x : Xw} (C : Cw g x cX0_setInjection RX0 8 none 1) (hm : x.2.2.2.2.2.2.2.2.2.2.2 = (0, 0)) {b : Nat} (hb : b < 8) (l2 : Int32) (l6 : Int32) (l7i : Nat) (s0 : Int32) (s1 : Int32) (s2i : Nat) (hl7i : l7i < 19) (hs2i : s2i < 19) (M : Mw) : Sw g x (fun M : Mw => (none, M)) M 0 0 54 [(2, .int l2), (6, .int l6), (7, .ref (gA g 12 b l7i))] [.int s0, .int s1, .ref (gA g 12 b s2i)] (B_X0_setInjection_54 b l2 l6 l7i s0 s1 s2i M) := by
  unfold B_X0_setInjection_54
  refine r_iast C dX0_setInjection_54 (in_12 hb hs2i) (contW_12 g _ _) (fun M8 h9 => ?_)
  refine r_aload C 2 dX0_setInjection_55 rfl ?_
  refine r_iconst (v := 4) C dX0_setInjection_57 (by decide) ?_
  refine r_iload_n C 0 dX0_setInjection_58 rfl rfl ?_
  refine r_iconst (v := 5) C dX0_setInjection_59 (by decide) ?_
  refine r_icmp_ne (tgt := 67) C dX0_setInjection_60 (by decide) (fun h10 => ?_) (fun h10 => ?_)
  · refine r_iconst (v := (-1)) C dX0_setInjection_63 (by decide) ?_
    refine r_goto (tgt := 69) C dX0_setInjection_64 (by decide) ?_
    refine r_iastc C dX0_setInjection_69 (in_12 hb hl7i) (contW_12 g _ _) (by decide) (j := 4) (by decide) (fun M12 => ?_)
    exact r_vret C dX0_setInjection_70 rfl rfl (xk0 hm) (xn0 hm)
  · refine r_iload C 1 dX0_setInjection_67 rfl ?_
    refine r_iastc C dX0_setInjection_69 (in_12 hb hl7i) (contW_12 g _ _) (by decide) (j := 4) (by decide) (fun M11 => ?_)
    exact r_vret C dX0_setInjection_70 rfl rfl (xk0 hm) (xn0 hm)
set_option maxRecDepth 100000 in
set_option maxHeartbeats 4000000 in
theorem t_X0_setInjection_48 {g : Gw} {x : Xw} (C : Cw g x cX0_setInjection RX0 8 none 1) (hm : x.2.2.2.2.2.2.2.2.2.2.2 = (0, 0)) {b : Nat} (hb : b < 8) (l2 : Int32) (l6 : Int32) (l7i : Nat) (s0 : Int32) (s1i : Nat) (hl7i : l7i < 19) (hs1i : s1i < 19) (M : Mw) : Sw g x (fun M : Mw => (none, M)) M 0 0 48 [(2, .int l2), (6, .int l6), (7, .ref (gA g 12 b l7i))] [.int s0, .ref (gA g 12 b s1i)] (B_X0_setInjection_48 b l2 l6 l7i s0 s1i M) := by
  unfold B_X0_setInjection_48
  refine r_iconst (v := (-1)) C dX0_setInjection_48 (by decide) ?_
  refine r_goto (tgt := 54) C dX0_setInjection_49 (by decide) ?_
  exact t_X0_setInjection_54 C hm hb l2 l6 l7i (-1) s0 s1i hl7i hs1i M
set_option maxRecDepth 100000 in
set_option maxHeartbeats 4000000 in
theorem c_X0_setInjection {g : Gw} {l : Launch} {b : Nat} (hb : b < 8) (p1 : Int32) (p2 : Int32) (p3 : Int32) (p4 : Int32) (p5 : Int32) (p6 : Int32) (M : Mw) : Kw g l yX0_setInjection cX0_setInjection 8 none 1 0 0 [.ref (gA g 0 b 0), .int p1, .int p2, .int p3, .int p4, .int p5, .int p6] M (fun M : Mw => (none, M)) (F_X0_setInjection b p1 p2 p3 p4 p5 p6 M) := by
  refine Kw.of (own := RX0) (lv0 := [(0, .ref (gA g 0 b 0)), (1, .int p1), (2, .int p2), (3, .int p3), (4, .int p4), (5, .int p5), (6, .int p6)]) (by decide +kernel) rfl (Nat.le_of_ble_eq_true rfl) rfl (fun x C hl hm => ?_)
  subst hl
  unfold F_X0_setInjection
  refine r_iload_n C 1 dX0_setInjection_0 rfl rfl ?_
  refine r_if_lt (tgt := 10) C dX0_setInjection_1 (by decide) (fun h1 => ?_) (fun h1 => ?_)
  · exact r_vret C dX0_setInjection_10 rfl rfl (xk0 hm) (xn0 hm)
  · refine r_iload_n C 1 dX0_setInjection_4 rfl rfl ?_
    refine r_bipush (v := 19) C dX0_setInjection_5 (by decide) ?_
    refine r_icmp_lt (tgt := 11) C dX0_setInjection_7 (by decide) (fun h2 => ?_) (fun h2 => ?_)
    · refine r_aload_n C 0 dX0_setInjection_11 rfl rfl ?_
      refine gf_0_14 C dX0_setInjection_12 u_236 (in_0 hb) ?_
      refine r_iload_n C 1 dX0_setInjection_15 rfl rfl ?_
      refine r_aald (t0 := 5) (ty := .array .int) C dX0_setInjection_16 (in_11 hb) (contW_11 g _ _ _ _ _) rfl rfl (fun h3 => ?_)
      refine r_astore (lv' := [(7, .ref (gA g 12 b p1.toNatClampNeg)), (0, .ref (gA g 0 b 0)), (1, .int p1), (2, .int p2), (3, .int p3), (4, .int p4), (5, .int p5), (6, .int p6)]) C dX0_setInjection_17 (by decide) rfl ?_
      refine r_aload C 0 dX0_setInjection_19 rfl ?_
      refine r_iconst (v := 0) C dX0_setInjection_21 (by decide) ?_
      refine r_iload_n C 3 dX0_setInjection_22 rfl rfl ?_
      refine r_iastc C dX0_setInjection_23 (in_12 hb (inb_lt h3)) (contW_12 g _ _) (by decide) (j := 0) (by decide) (fun M4 => ?_)
      refine r_aload C 0 dX0_setInjection_24 rfl ?_
      refine r_iconst (v := 1) C dX0_setInjection_26 (by decide) ?_
      refine r_iload_n C 4 dX0_setInjection_27 rfl rfl ?_
      refine r_iastc C dX0_setInjection_28 (in_12 hb (inb_lt h3)) (contW_12 g _ _) (by decide) (j := 1) (by decide) (fun M5 => ?_)
      refine r_aload C 0 dX0_setInjection_29 rfl ?_
      refine r_iconst (v := 2) C dX0_setInjection_31 (by decide) ?_
      refine r_iload C 5 dX0_setInjection_32 rfl ?_
      refine r_iastc C dX0_setInjection_34 (in_12 hb (inb_lt h3)) (contW_12 g _ _) (by decide) (j := 2) (by decide) (fun M6 => ?_)
      refine r_aload C 0 dX0_setInjection_35 rfl ?_
      refine r_iconst (v := 3) C dX0_setInjection_37 (by decide) ?_
      refine r_iload_n C 3 dX0_setInjection_38 rfl rfl ?_
      refine r_iconst (v := 4) C dX0_setInjection_39 (by decide) ?_
      refine r_icmp_eq (tgt := 48) C dX0_setInjection_40 (by decide) (fun h7 => ?_) (fun h7 => ?_)
      · refine r_lv [3, 7, 0] rfl ?_
        exact t_X0_setInjection_48 C hm hb p2 p6 p1.toNatClampNeg 3 p1.toNatClampNeg (inb_lt h3) (inb_lt h3) M6
      · refine r_iload_n C 3 dX0_setInjection_43 rfl rfl ?_
        refine r_iconst (v := 5) C dX0_setInjection_44 (by decide) ?_
        refine r_icmp_ne (tgt := 52) C dX0_setInjection_45 (by decide) (fun h13 => ?_) (fun h13 => ?_)
        · refine r_lv [3, 7, 0] rfl ?_
          exact t_X0_setInjection_48 C hm hb p2 p6 p1.toNatClampNeg 3 p1.toNatClampNeg (inb_lt h3) (inb_lt h3) M6
        · refine r_iload C 6 dX0_setInjection_52 rfl ?_
          refine r_lv [3, 7, 0] rfl ?_
          exact t_X0_setInjection_54 C hm hb p2 p6 p1.toNatClampNeg p5 3 p1.toNatClampNeg (inb_lt h3) (inb_lt h3) M6
    · exact r_vret C dX0_setInjection_10 rfl rfl (xk0 hm) (xn0 hm)
def B_X1_readInjection_145 (l1 : Int32) (M : Mw) : Option (Int32 × Mw) :=
  ((F_X1_readEnd M).bind (fun q16 => (if q16.1 = 0 then some (0, q16.2) else ((F_X0_setInjection 0 (q16.2.1 0 0 0 6) l1 (q16.2.1 14 0 0 0) (q16.2.1 14 0 0 1) (q16.2.1 14 0 0 2) (q16.2.1 14 0 0 3) q16.2).bind (fun M19 => (bd (uIw M19 0 0 0 6 ((M19.1 0 0 0 6) + 1)) (fun M21 => some (1, M21))))))))
def B_X1_readInjection_130 (l1 : Int32) (M : Mw) : Option (Int32 × Mw) :=
  ((F_X1_readPair 20 1 9 3 M).bind (fun q13 => (if q13.1 = 0 then some (0, q13.2) else (B_X1_readInjection_145 l1 q13.2))))
def F_X1_readInjection (p1 : Int32) (M : Mw) : Option (Int32 × Mw) :=
  (if p1 = (-1) then ((F_X1_fail 1 M).bind (fun q34 => (if bz q34.1 then some (q34.1, q34.2) else none))) else (if (M.1 0 0 0 6) < 8 then ((F_X6_advance M).bind (fun M3 => (if p1 = 5 then ((F_X1_readNumber 0 ((M3.1 0 0 0 4) - 1) 0 M3).bind (fun q26 => (if q26.1 = 0 then some (0, q26.2) else ((F_X1_readPair 18 0 199 1 q26.2).bind (fun q29 => (if q29.1 = 0 then some (0, q29.2) else (B_X1_readInjection_145 p1 q29.2))))))) else ((F_X1_readChangedTask M3).bind (fun q6 => (if q6.1 = 0 then some (0, q6.2) else ((F_X1_readPair 5 0 50 1 q6.2).bind (fun q9 => (if q9.1 = 0 then some (0, q9.2) else (if p1 = 4 then (B_X1_readInjection_130 p1 q9.2) else (if inb (q9.2.1 14 0 0 0) 5 then ((F_X1_readPair 9 0 ((q9.2.1 4 0 ((q9.2.1 14 0 0 0).toNatClampNeg) 6) - 1) 2 q9.2).bind (fun q23 => (if q23.1 = 0 then some (0, q23.2) else (B_X1_readInjection_130 p1 q23.2)))) else none))))))))))) else ((F_X1_fail 3 M).bind (fun q32 => (if bz q32.1 then some (q32.1, q32.2) else none)))))
set_option maxRecDepth 100000 in
set_option maxHeartbeats 4000000 in
theorem t_X1_readInjection_145 {g : Gw} {x : Xw} (C : Cw g x cX1_readInjection RX1 2 (some .boolean) 10) (hm : x.2.2.2.2.2.2.2.2.2.2.2 = (0, 0)) (l1 : Int32) (M : Mw) : Sw g x (fun q : Int32 × Mw => (some (.int q.1), q.2)) M 0 0 145 [(0, .ref (gA g 13 0 0)), (1, .int l1)] [] (B_X1_readInjection_145 l1 M) := by
  unfold B_X1_readInjection_145
  refine r_aload_n C 0 dX1_readInjection_145 rfl rfl ?_
  refine r_callVWi (rest := []) C (c_X1_readEnd M) dX1_readInjection_146 u_482 in_13 (contW_13 g _ _ _ _ _) rfl u_483 u_8 mi_X1_readEnd (by decide) rfl rfl (Nat.le_of_ble_eq_true rfl) (xk1 hm (by decide)) (xn1 hm (by decide)) (fun q16 h17 => ?_)
  refine r_if_ne (tgt := 154) C dX1_readInjection_149 (by decide) (fun h18 => ?_) (fun h18 => ?_)
  · refine r_iconst (v := 0) C dX1_readInjection_152 (by decide) ?_
    exact r_zretc C dX1_readInjection_153 rfl bz0 rfl (xk0 hm) (xn0 hm)
  · refine r_aload_n C 0 dX1_readInjection_154 rfl rfl ?_
    refine gf_13_1 C dX1_readInjection_155 u_241 in_13 ?_
    refine r_aload_n C 0 dX1_readInjection_158 rfl rfl ?_
    refine gf_13_1 C dX1_readInjection_159 u_241 in_13 ?_
    refine gf_0_6 C dX1_readInjection_162 u_207 (in_0 (by decide)) ?_
    refine r_iload_n C 1 dX1_readInjection_165 rfl rfl ?_
    refine r_aload_n C 0 dX1_readInjection_166 rfl rfl ?_
    refine gf_13_4 C dX1_readInjection_167 u_247 in_13 ?_
    refine r_iconst (v := 0) C dX1_readInjection_170 (by decide) ?_
    refine r_ialdc C dX1_readInjection_171 in_14 (contW_14 g _ _ _ _ _) (by decide) (j := 0) (by decide) ?_
    refine r_aload_n C 0 dX1_readInjection_172 rfl rfl ?_
    refine gf_13_4 C dX1_readInjection_173 u_247 in_13 ?_
    refine r_iconst (v := 1) C dX1_readInjection_176 (by decide) ?_
    refine r_ialdc C dX1_readInjection_177 in_14 (contW_14 g _ _ _ _ _) (by decide) (j := 1) (by decide) ?_
    refine r_aload_n C 0 dX1_readInjection_178 rfl rfl ?_
    refine gf_13_4 C dX1_readInjection_179 u_247 in_13 ?_
    refine r_iconst (v := 2) C dX1_readInjection_182 (by decide) ?_
    refine r_ialdc C dX1_readInjection_183 in_14 (contW_14 g _ _ _ _ _) (by decide) (j := 2) (by decide) ?_
    refine r_aload_n C 0 dX1_readInjection_184 rfl rfl ?_
    refine gf_13_4 C dX1_readInjection_185 u_247 in_13 ?_
    refine r_iconst (v := 3) C dX1_readInjection_188 (by decide) ?_
    refine r_ialdc C dX1_readInjection_189 in_14 (contW_14 g _ _ _ _ _) (by decide) (j := 3) (by decide) ?_
    refine r_callVU (rest := []) C (c_X0_setInjection (by decide) (q16.2.1 0 0 0 6) l1 (q16.2.1 14 0 0 0) (q16.2.1 14 0 0 1) (q16.2.1 14 0 0 2) (q16.2.1 14 0 0 3) q16.2) dX1_readInjection_190 u_523 (in_0 (by decide)) (contW_0 g _ _ _ _ _) rfl u_524 u_525 mi_X0_setInjection (by decide) rfl rfl (Nat.le_of_ble_eq_true rfl) (xk1 hm (by decide)) (xn1 hm (by decide)) (fun M19 h20 => ?_)
    refine r_aload_n C 0 dX1_readInjection_193 rfl rfl ?_
    refine gf_13_1 C dX1_readInjection_194 u_241 in_13 ?_
    refine r_dup C rfl dX1_readInjection_197 ?_
    refine gf_0_6 C dX1_readInjection_198 u_207 (in_0 (by decide)) ?_
    refine r_iconst (v := 1) C dX1_readInjection_201 (by decide) ?_
    refine r_iadd C dX1_readInjection_202 ?_
    refine pf_0_6 C dX1_readInjection_203 u_207 (in_0 (by decide)) (fun M21 => ?_)
    refine r_iconst (v := 1) C dX1_readInjection_206 (by decide) ?_
    exact r_zretc C dX1_readInjection_207 rfl bz1 rfl (xk0 hm) (xn0 hm)
set_option maxRecDepth 100000 in
set_option maxHeartbeats 4000000 in
theorem t_X1_readInjection_130 {g : Gw} {x : Xw} (C : Cw g x cX1_readInjection RX1 2 (some .boolean) 10) (hm : x.2.2.2.2.2.2.2.2.2.2.2 = (0, 0)) (l1 : Int32) (M : Mw) : Sw g x (fun q : Int32 × Mw => (some (.int q.1), q.2)) M 0 0 130 [(0, .ref (gA g 13 0 0)), (1, .int l1)] [] (B_X1_readInjection_130 l1 M) := by
  unfold B_X1_readInjection_130
  refine r_aload_n C 0 dX1_readInjection_130 rfl rfl ?_
  refine r_ldcS (i := 20) (tx := "times") C (by decide) dX1_readInjection_131 ?_
  refine r_iconst (v := 1) C dX1_readInjection_133 (by decide) ?_
  refine r_bipush (v := 9) C dX1_readInjection_134 (by decide) ?_
  refine r_iconst (v := 3) C dX1_readInjection_136 (by decide) ?_
  refine r_callVWi (rest := []) C (c_X1_readPair (by decide) 1 9 3 M) dX1_readInjection_137 u_473 in_13 (contW_13 g _ _ _ _ _) rfl u_474 u_5 mi_X1_readPair (by decide) rfl rfl (Nat.le_of_ble_eq_true rfl) (xk1 hm (by decide)) (xn1 hm (by decide)) (fun q13 h14 => ?_)
  refine r_if_ne (tgt := 145) C dX1_readInjection_140 (by decide) (fun h15 => ?_) (fun h15 => ?_)
  · refine r_iconst (v := 0) C dX1_readInjection_143 (by decide) ?_
    exact r_zretc C dX1_readInjection_144 rfl bz0 rfl (xk0 hm) (xn0 hm)
  · exact t_X1_readInjection_145 C hm l1 q13.2
set_option maxRecDepth 100000 in
set_option maxHeartbeats 4000000 in
theorem c_X1_readInjection {g : Gw} {l : Launch} (p1 : Int32) (M : Mw) : Kw g l yX1_readInjection cX1_readInjection 2 (some .boolean) 10 0 0 [.ref (gA g 13 0 0), .int p1] M (fun q : Int32 × Mw => (some (.int q.1), q.2)) (F_X1_readInjection p1 M) := by
  refine Kw.of (own := RX1) (lv0 := [(0, .ref (gA g 13 0 0)), (1, .int p1)]) (by decide +kernel) rfl (Nat.le_of_ble_eq_true rfl) rfl (fun x C hl hm => ?_)
  subst hl
  unfold F_X1_readInjection
  refine r_iload_n C 1 dX1_readInjection_0 rfl rfl ?_
  refine r_iconst (v := (-1)) C dX1_readInjection_1 (by decide) ?_
  refine r_icmp_ne (tgt := 11) C dX1_readInjection_2 (by decide) (fun h1 => ?_) (fun h1 => ?_)
  · refine r_aload_n C 0 dX1_readInjection_5 rfl rfl ?_
    refine r_iconst (v := 1) C dX1_readInjection_6 (by decide) ?_
    refine r_callVWi (rest := []) C (c_X1_fail 1 M) dX1_readInjection_7 u_466 in_13 (contW_13 g _ _ _ _ _) rfl u_467 u_3 mi_X1_fail (by decide) rfl rfl (Nat.le_of_ble_eq_true rfl) (xk1 hm (by decide)) (xn1 hm (by decide)) (fun q34 h35 => ?_)
    exact r_zret C dX1_readInjection_10 rfl rfl (xk0 hm) (xn0 hm)
  · refine r_aload_n C 0 dX1_readInjection_11 rfl rfl ?_
    refine gf_13_1 C dX1_readInjection_12 u_241 in_13 ?_
    refine gf_0_6 C dX1_readInjection_15 u_207 (in_0 (by decide)) ?_
    refine r_bipush (v := 8) C dX1_readInjection_18 (by decide) ?_
    refine r_icmp_lt (tgt := 29) C dX1_readInjection_20 (by decide) (fun h2 => ?_) (fun h2 => ?_)
    · refine r_aload_n C 0 dX1_readInjection_29 rfl rfl ?_
      refine gf_13_0 C dX1_readInjection_30 u_239 in_13 ?_
      refine r_callVU (rest := []) C (c_X6_advance M) dX1_readInjection_33 u_472 in_15 (contW_15 g _ _ _ _ _) rfl u_409 u_410 mi_X6_advance (by decide) rfl rfl (Nat.le_of_ble_eq_true rfl) (xk1 hm (by decide)) (xn1 hm (by decide)) (fun M3 h4 => ?_)
      refine r_iload_n C 1 dX1_readInjection_36 rfl rfl ?_
      refine r_iconst (v := 5) C dX1_readInjection_37 (by decide) ?_
      refine r_icmp_ne (tgt := 75) C dX1_readInjection_38 (by decide) (fun h5 => ?_) (fun h5 => ?_)
      · refine r_aload_n C 0 dX1_readInjection_41 rfl rfl ?_
        refine r_iconst (v := 0) C dX1_readInjection_42 (by decide) ?_
        refine r_aload_n C 0 dX1_readInjection_43 rfl rfl ?_
        refine gf_13_1 C dX1_readInjection_44 u_241 in_13 ?_
        refine gf_0_4 C dX1_readInjection_47 u_197 (in_0 (by decide)) ?_
        refine r_iconst (v := 1) C dX1_readInjection_50 (by decide) ?_
        refine r_isub C dX1_readInjection_51 ?_
        refine r_iconst (v := 0) C dX1_readInjection_52 (by decide) ?_
        refine r_callVWi (rest := []) C (c_X1_readNumber 0 ((M3.1 0 0 0 4) - 1) 0 M3) dX1_readInjection_53 u_479 in_13 (contW_13 g _ _ _ _ _) rfl u_480 u_7 mi_X1_readNumber (by decide) rfl rfl (Nat.le_of_ble_eq_true rfl) (xk1 hm (by decide)) (xn1 hm (by decide)) (fun q26 h27 => ?_)
        refine r_if_eq (tgt := 73) C dX1_readInjection_56 (by decide) (fun h28 => ?_) (fun h28 => ?_)
        · refine r_iconst (v := 0) C dX1_readInjection_73 (by decide) ?_
          exact r_zretc C dX1_readInjection_74 rfl bz0 rfl (xk0 hm) (xn0 hm)
        · refine r_aload_n C 0 dX1_readInjection_59 rfl rfl ?_
          refine r_ldcS (i := 18) (tx := "tick") C (by decide) dX1_readInjection_60 ?_
          refine r_iconst (v := 0) C dX1_readInjection_62 (by decide) ?_
          refine r_sipush (v := 199) C dX1_readInjection_63 (by decide) ?_
          refine r_iconst (v := 1) C dX1_readInjection_66 (by decide) ?_
          refine r_callVWi (rest := []) C (c_X1_readPair (by decide) 0 199 1 q26.2) dX1_readInjection_67 u_473 in_13 (contW_13 g _ _ _ _ _) rfl u_474 u_5 mi_X1_readPair (by decide) rfl rfl (Nat.le_of_ble_eq_true rfl) (xk1 hm (by decide)) (xn1 hm (by decide)) (fun q29 h30 => ?_)
          refine r_if_ne (tgt := 145) C dX1_readInjection_70 (by decide) (fun h31 => ?_) (fun h31 => ?_)
          · refine r_iconst (v := 0) C dX1_readInjection_73 (by decide) ?_
            exact r_zretc C dX1_readInjection_74 rfl bz0 rfl (xk0 hm) (xn0 hm)
          · exact t_X1_readInjection_145 C hm p1 q29.2
      · refine r_aload_n C 0 dX1_readInjection_75 rfl rfl ?_
        refine r_callVWi (rest := []) C (c_X1_readChangedTask M3) dX1_readInjection_76 u_519 in_13 (contW_13 g _ _ _ _ _) rfl u_520 u_15 mi_X1_readChangedTask (by decide) rfl rfl (Nat.le_of_ble_eq_true rfl) (xk1 hm (by decide)) (xn1 hm (by decide)) (fun q6 h7 => ?_)
        refine r_if_eq (tgt := 143) C dX1_readInjection_79 (by decide) (fun h8 => ?_) (fun h8 => ?_)
        · refine r_iconst (v := 0) C dX1_readInjection_143 (by decide) ?_
          exact r_zretc C dX1_readInjection_144 rfl bz0 rfl (xk0 hm) (xn0 hm)
        · refine r_aload_n C 0 dX1_readInjection_82 rfl rfl ?_
          refine r_ldcS (i := 5) (tx := "job") C (by decide) dX1_readInjection_83 ?_
          refine r_iconst (v := 0) C dX1_readInjection_85 (by decide) ?_
          refine r_bipush (v := 50) C dX1_readInjection_86 (by decide) ?_
          refine r_iconst (v := 1) C dX1_readInjection_88 (by decide) ?_
          refine r_callVWi (rest := []) C (c_X1_readPair (by decide) 0 50 1 q6.2) dX1_readInjection_89 u_473 in_13 (contW_13 g _ _ _ _ _) rfl u_474 u_5 mi_X1_readPair (by decide) rfl rfl (Nat.le_of_ble_eq_true rfl) (xk1 hm (by decide)) (xn1 hm (by decide)) (fun q9 h10 => ?_)
          refine r_if_eq (tgt := 143) C dX1_readInjection_92 (by decide) (fun h11 => ?_) (fun h11 => ?_)
          · refine r_iconst (v := 0) C dX1_readInjection_143 (by decide) ?_
            exact r_zretc C dX1_readInjection_144 rfl bz0 rfl (xk0 hm) (xn0 hm)
          · refine r_iload_n C 1 dX1_readInjection_95 rfl rfl ?_
            refine r_iconst (v := 4) C dX1_readInjection_96 (by decide) ?_
            refine r_icmp_eq (tgt := 130) C dX1_readInjection_97 (by decide) (fun h12 => ?_) (fun h12 => ?_)
            · exact t_X1_readInjection_130 C hm p1 q9.2
            · refine r_aload_n C 0 dX1_readInjection_100 rfl rfl ?_
              refine r_ldcS (i := 9) (tx := "node") C (by decide) dX1_readInjection_101 ?_
              refine r_iconst (v := 0) C dX1_readInjection_103 (by decide) ?_
              refine r_aload_n C 0 dX1_readInjection_104 rfl rfl ?_
              refine gf_13_1 C dX1_readInjection_105 u_241 in_13 ?_
              refine gf_0_10 C dX1_readInjection_108 u_221 (in_0 (by decide)) ?_
              refine r_aload_n C 0 dX1_readInjection_111 rfl rfl ?_
              refine gf_13_4 C dX1_readInjection_112 u_247 in_13 ?_
              refine r_iconst (v := 0) C dX1_readInjection_115 (by decide) ?_
              refine r_ialdc C dX1_readInjection_116 in_14 (contW_14 g _ _ _ _ _) (by decide) (j := 0) (by decide) ?_
              refine r_aald (t0 := 5) (ty := .array .int) C dX1_readInjection_117 (in_3 (by decide)) (contW_3 g _ _ _ _ _) rfl rfl (fun h22 => ?_)
              refine r_bipush (v := 6) C dX1_readInjection_118 (by decide) ?_
              refine r_ialdc C dX1_readInjection_120 (in_4 (by decide) (inb_lt h22)) (contW_4 g _ _ _ _ _) (by decide) (j := 6) (by decide) ?_
              refine r_iconst (v := 1) C dX1_readInjection_121 (by decide) ?_
              refine r_isub C dX1_readInjection_122 ?_
              refine r_iconst (v := 2) C dX1_readInjection_123 (by decide) ?_
              refine r_callVWi (rest := []) C (c_X1_readPair (by decide) 0 ((q9.2.1 4 0 ((q9.2.1 14 0 0 0).toNatClampNeg) 6) - 1) 2 q9.2) dX1_readInjection_124 u_473 in_13 (contW_13 g _ _ _ _ _) rfl u_474 u_5 mi_X1_readPair (by decide) rfl rfl (Nat.le_of_ble_eq_true rfl) (xk1 hm (by decide)) (xn1 hm (by decide)) (fun q23 h24 => ?_)
              refine r_if_eq (tgt := 143) C dX1_readInjection_127 (by decide) (fun h25 => ?_) (fun h25 => ?_)
              · refine r_iconst (v := 0) C dX1_readInjection_143 (by decide) ?_
                exact r_zretc C dX1_readInjection_144 rfl bz0 rfl (xk0 hm) (xn0 hm)
              · exact t_X1_readInjection_130 C hm p1 q23.2
    · refine r_aload_n C 0 dX1_readInjection_23 rfl rfl ?_
      refine r_iconst (v := 3) C dX1_readInjection_24 (by decide) ?_
      refine r_callVWi (rest := []) C (c_X1_fail 3 M) dX1_readInjection_25 u_466 in_13 (contW_13 g _ _ _ _ _) rfl u_467 u_3 mi_X1_fail (by decide) rfl rfl (Nat.le_of_ble_eq_true rfl) (xk1 hm (by decide)) (xn1 hm (by decide)) (fun q32 h33 => ?_)
      exact r_zret C dX1_readInjection_28 rfl rfl (xk0 hm) (xn0 hm)
def B_X1_readLine_26 (l1 : Int32) (s0 : Int32) (s1 : Int32) (M : Mw) : Option (Int32 × Mw) :=
  (if s1 = s0 then (if l1 = 0 then ((F_X6_isWord 22 M).bind (fun v6 => (if v6 = 0 then ((F_X6_isWord 17 M).bind (fun v9 => (if v9 = 0 then ((F_X6_isWord 9 M).bind (fun v12 => (if v12 = 0 then ((F_X1_injectionKind M).bind (fun v15 => ((F_X1_readInjection v15 M).bind (fun q17 => (if bz q17.1 then some (q17.1, q17.2) else none))))) else ((F_X1_readNode M).bind (fun q19 => (if bz q19.1 then some (q19.1, q19.2) else none)))))) else ((F_X1_readTask M).bind (fun q21 => (if bz q21.1 then some (q21.1, q21.2) else none)))))) else ((F_X1_readWatcher M).bind (fun q23 => (if bz q23.1 then some (q23.1, q23.2) else none)))))) else ((F_X1_readBoard M).bind (fun q25 => (if bz q25.1 then some (q25.1, q25.2) else none)))) else ((F_X1_fail 1 M).bind (fun q27 => (if bz q27.1 then some (q27.1, q27.2) else none))))
def F_X1_readLine (M : Mw) : Option (Int32 × Mw) :=
  ((F_X6_isWord 1 M).bind (fun v1 => (if (M.1 0 0 0 3) = 0 then (B_X1_readLine_26 v1 1 v1 M) else (B_X1_readLine_26 v1 0 v1 M))))
set_option maxRecDepth 100000 in
set_option maxHeartbeats 4000000 in
theorem t_X1_readLine_26 {g : Gw} {x : Xw} (C : Cw g x cX1_readLine RX1 2 (some .boolean) 11) (hm : x.2.2.2.2.2.2.2.2.2.2.2 = (0, 0)) (l1 : Int32) (s0 : Int32) (s1 : Int32) (M : Mw) : Sw g x (fun q : Int32 × Mw => (some (.int q.1), q.2)) M 0 0 26 [(0, .ref (gA g 13 0 0)), (1, .int l1)] [.int s0, .int s1] (B_X1_readLine_26 l1 s0 s1 M) := by
  unfold B_X1_readLine_26
  refine r_icmp_eq (tgt := 35) C dX1_readLine_26 (by decide) (fun h4 => ?_) (fun h4 => ?_)
  · refine r_iload_n C 1 dX1_readLine_35 rfl rfl ?_
    refine r_if_eq (tgt := 44) C dX1_readLine_36 (by decide) (fun h5 => ?_) (fun h5 => ?_)
    · refine r_aload_n C 0 dX1_readLine_44 rfl rfl ?_
      refine gf_13_0 C dX1_readLine_45 u_239 in_13 ?_
      refine r_ldcS (i := 22) (tx := "watcher") C (by decide) dX1_readLine_48 ?_
      refine r_callVRi (rest := []) C (c_X6_isWord (by decide) M) dX1_readLine_50 u_419 in_15 (contW_15 g _ _ _ _ _) rfl u_420 u_421 mi_X6_isWord (by decide) rfl rfl (Nat.le_of_ble_eq_true rfl) (xk1 hm (by decide)) (xn1 hm (by decide)) (fun v6 h7 => ?_)
      refine r_if_eq (tgt := 61) C dX1_readLine_53 (by decide) (fun h8 => ?_) (fun h8 => ?_)
      · refine r_aload_n C 0 dX1_readLine_61 rfl rfl ?_
        refine gf_13_0 C dX1_readLine_62 u_239 in_13 ?_
        refine r_ldcS (i := 17) (tx := "task") C (by decide) dX1_readLine_65 ?_
        refine r_callVRi (rest := []) C (c_X6_isWord (by decide) M) dX1_readLine_67 u_419 in_15 (contW_15 g _ _ _ _ _) rfl u_420 u_421 mi_X6_isWord (by decide) rfl rfl (Nat.le_of_ble_eq_true rfl) (xk1 hm (by decide)) (xn1 hm (by decide)) (fun v9 h10 => ?_)
        refine r_if_eq (tgt := 78) C dX1_readLine_70 (by decide) (fun h11 => ?_) (fun h11 => ?_)
        · refine r_aload_n C 0 dX1_readLine_78 rfl rfl ?_
          refine gf_13_0 C dX1_readLine_79 u_239 in_13 ?_
          refine r_ldcS (i := 9) (tx := "node") C (by decide) dX1_readLine_82 ?_
          refine r_callVRi (rest := []) C (c_X6_isWord (by decide) M) dX1_readLine_84 u_419 in_15 (contW_15 g _ _ _ _ _) rfl u_420 u_421 mi_X6_isWord (by decide) rfl rfl (Nat.le_of_ble_eq_true rfl) (xk1 hm (by decide)) (xn1 hm (by decide)) (fun v12 h13 => ?_)
          refine r_if_eq (tgt := 95) C dX1_readLine_87 (by decide) (fun h14 => ?_) (fun h14 => ?_)
          · refine r_aload_n C 0 dX1_readLine_95 rfl rfl ?_
            refine r_aload_n C 0 dX1_readLine_96 rfl rfl ?_
            refine r_callVRi (rest := [.ref (gA g 13 0 0)]) C (c_X1_injectionKind M) dX1_readLine_97 u_513 in_13 (contW_13 g _ _ _ _ _) rfl u_514 u_13 mi_X1_injectionKind (by decide) rfl rfl (Nat.le_of_ble_eq_true rfl) (xk1 hm (by decide)) (xn1 hm (by decide)) (fun v15 h16 => ?_)
            refine r_callVWi (rest := []) C (c_X1_readInjection v15 M) dX1_readLine_100 u_516 in_13 (contW_13 g _ _ _ _ _) rfl u_517 u_14 mi_X1_readInjection (by decide) rfl rfl (Nat.le_of_ble_eq_true rfl) (xk1 hm (by decide)) (xn1 hm (by decide)) (fun q17 h18 => ?_)
            exact r_zret C dX1_readLine_103 rfl rfl (xk0 hm) (xn0 hm)
          · refine r_aload_n C 0 dX1_readLine_90 rfl rfl ?_
            refine r_callVWi (rest := []) C (c_X1_readNode M) dX1_readLine_91 u_495 in_13 (contW_13 g _ _ _ _ _) rfl u_496 u_11 mi_X1_readNode (by decide) rfl rfl (Nat.le_of_ble_eq_true rfl) (xk1 hm (by decide)) (xn1 hm (by decide)) (fun q19 h20 => ?_)
            exact r_zret C dX1_readLine_94 rfl rfl (xk0 hm) (xn0 hm)
        · refine r_aload_n C 0 dX1_readLine_73 rfl rfl ?_
          refine r_callVWi (rest := []) C (c_X1_readTask M) dX1_readLine_74 u_492 in_13 (contW_13 g _ _ _ _ _) rfl u_493 u_10 mi_X1_readTask (by decide) rfl rfl (Nat.le_of_ble_eq_true rfl) (xk1 hm (by decide)) (xn1 hm (by decide)) (fun q21 h22 => ?_)
          exact r_zret C dX1_readLine_77 rfl rfl (xk0 hm) (xn0 hm)
      · refine r_aload_n C 0 dX1_readLine_56 rfl rfl ?_
        refine r_callVWi (rest := []) C (c_X1_readWatcher M) dX1_readLine_57 u_485 in_13 (contW_13 g _ _ _ _ _) rfl u_486 u_9 mi_X1_readWatcher (by decide) rfl rfl (Nat.le_of_ble_eq_true rfl) (xk1 hm (by decide)) (xn1 hm (by decide)) (fun q23 h24 => ?_)
        exact r_zret C dX1_readLine_60 rfl rfl (xk0 hm) (xn0 hm)
    · refine r_aload_n C 0 dX1_readLine_39 rfl rfl ?_
      refine r_callVWi (rest := []) C (c_X1_readBoard M) dX1_readLine_40 u_469 in_13 (contW_13 g _ _ _ _ _) rfl u_470 u_4 mi_X1_readBoard (by decide) rfl rfl (Nat.le_of_ble_eq_true rfl) (xk1 hm (by decide)) (xn1 hm (by decide)) (fun q25 h26 => ?_)
      exact r_zret C dX1_readLine_43 rfl rfl (xk0 hm) (xn0 hm)
  · refine r_aload_n C 0 dX1_readLine_29 rfl rfl ?_
    refine r_iconst (v := 1) C dX1_readLine_30 (by decide) ?_
    refine r_callVWi (rest := []) C (c_X1_fail 1 M) dX1_readLine_31 u_466 in_13 (contW_13 g _ _ _ _ _) rfl u_467 u_3 mi_X1_fail (by decide) rfl rfl (Nat.le_of_ble_eq_true rfl) (xk1 hm (by decide)) (xn1 hm (by decide)) (fun q27 h28 => ?_)
    exact r_zret C dX1_readLine_34 rfl rfl (xk0 hm) (xn0 hm)
set_option maxRecDepth 100000 in
set_option maxHeartbeats 4000000 in
theorem c_X1_readLine {g : Gw} {l : Launch} (M : Mw) : Kw g l yX1_readLine cX1_readLine 2 (some .boolean) 11 0 0 [.ref (gA g 13 0 0)] M (fun q : Int32 × Mw => (some (.int q.1), q.2)) (F_X1_readLine M) := by
  refine Kw.of (own := RX1) (lv0 := [(0, .ref (gA g 13 0 0))]) (by decide +kernel) rfl (Nat.le_of_ble_eq_true rfl) rfl (fun x C hl hm => ?_)
  subst hl
  unfold F_X1_readLine
  refine r_aload_n C 0 dX1_readLine_0 rfl rfl ?_
  refine gf_13_0 C dX1_readLine_1 u_239 in_13 ?_
  refine r_ldcS (i := 1) (tx := "board") C (by decide) dX1_readLine_4 ?_
  refine r_callVRi (rest := []) C (c_X6_isWord (by decide) M) dX1_readLine_6 u_419 in_15 (contW_15 g _ _ _ _ _) rfl u_420 u_421 mi_X6_isWord (by decide) rfl rfl (Nat.le_of_ble_eq_true rfl) (xk1 hm (by decide)) (xn1 hm (by decide)) (fun v1 h2 => ?_)
  refine r_istore_n0 (lv' := [(1, .int v1), (0, .ref (gA g 13 0 0))]) C dX1_readLine_9 rfl (by decide) rfl ?_
  refine r_iload_n C 0 dX1_readLine_10 rfl rfl ?_
  refine r_aload_n C 1 dX1_readLine_11 rfl rfl ?_
  refine gf_13_1 C dX1_readLine_12 u_241 in_13 ?_
  refine gf_0_3 C dX1_readLine_15 u_194 (in_0 (by decide)) ?_
  refine r_if_ne (tgt := 25) C dX1_readLine_18 (by decide) (fun h3 => ?_) (fun h3 => ?_)
  · refine r_iconst (v := 1) C dX1_readLine_21 (by decide) ?_
    refine r_goto (tgt := 26) C dX1_readLine_22 (by decide) ?_
    refine r_lv [1, 0] rfl ?_
    exact t_X1_readLine_26 C hm v1 1 v1 M
  · refine r_iconst (v := 0) C dX1_readLine_25 (by decide) ?_
    refine r_lv [1, 0] rfl ?_
    exact t_X1_readLine_26 C hm v1 0 v1 M
def B_X1_findTaskWithoutNode_2 (k2 : Int32 → Mw → Option (Mw)) (l1 : Int32) (M : Mw) : Option (Mw) :=
  (if (M.1 0 0 0 5) ≤ l1 then some M else (if (M.1 13 0 0 2) = 0 then (if inb l1 5 then (if (M.1 4 0 l1.toNatClampNeg 6) = 0 then (bd (uIw M 13 0 0 2 4) (fun M6 => (bd (uIw M6 13 0 0 3 l1) (fun M7 => (bd (l1 + 1) (fun v8 => (k2 v8 M7))))))) else (bd (l1 + 1) (fun v5 => (k2 v5 M)))) else none) else some M))
def F_X1_findTaskWithoutNode (M : Mw) : Option (Mw) :=
  (it (fun _ _ => none) (B_X1_findTaskWithoutNode_2) FU 0 M)
set_option maxRecDepth 100000 in
set_option maxHeartbeats 4000000 in
theorem t_X1_findTaskWithoutNode_2 {g : Gw} {x : Xw} (C : Cw g x cX1_findTaskWithoutNode RX1 2 none 1) (hm : x.2.2.2.2.2.2.2.2.2.2.2 = (0, 0)) (k2 : Int32 → Mw → Option (Mw)) (hk2 : ∀ (l1 : Int32) (M : Mw), Sw g x (fun M : Mw => (none, M)) M 0 0 2 [(0, .ref (gA g 13 0 0)), (1, .int l1)] [] (k2 l1 M)) (l1 : Int32) (M : Mw) : Sw g x (fun M : Mw => (none, M)) M 0 0 2 [(0, .ref (gA g 13 0 0)), (1, .int l1)] [] (B_X1_findTaskWithoutNode_2 k2 l1 M) := by
  unfold B_X1_findTaskWithoutNode_2
  refine r_iload_n C 1 dX1_findTaskWithoutNode_2 rfl rfl ?_
  refine r_aload_n C 0 dX1_findTaskWithoutNode_3 rfl rfl ?_
  refine gf_13_1 C dX1_findTaskWithoutNode_4 u_241 in_13 ?_
  refine gf_0_5 C dX1_findTaskWithoutNode_7 u_201 (in_0 (by decide)) ?_
  refine r_icmp_ge (tgt := 51) C dX1_findTaskWithoutNode_10 (by decide) (fun h1 => ?_) (fun h1 => ?_)
  · exact r_vret C dX1_findTaskWithoutNode_51 rfl rfl (xk0 hm) (xn0 hm)
  · refine r_aload_n C 0 dX1_findTaskWithoutNode_13 rfl rfl ?_
    refine gf_13_2 C dX1_findTaskWithoutNode_14 u_243 in_13 ?_
    refine r_if_ne (tgt := 51) C dX1_findTaskWithoutNode_17 (by decide) (fun h2 => ?_) (fun h2 => ?_)
    · refine r_aload_n C 0 dX1_findTaskWithoutNode_20 rfl rfl ?_
      refine gf_13_1 C dX1_findTaskWithoutNode_21 u_241 in_13 ?_
      refine gf_0_10 C dX1_findTaskWithoutNode_24 u_221 (in_0 (by decide)) ?_
      refine r_iload_n C 1 dX1_findTaskWithoutNode_27 rfl rfl ?_
      refine r_aald (t0 := 5) (ty := .array .int) C dX1_findTaskWithoutNode_28 (in_3 (by decide)) (contW_3 g _ _ _ _ _) rfl rfl (fun h3 => ?_)
      refine r_bipush (v := 6) C dX1_findTaskWithoutNode_29 (by decide) ?_
      refine r_ialdc C dX1_findTaskWithoutNode_31 (in_4 (by decide) (inb_lt h3)) (contW_4 g _ _ _ _ _) (by decide) (j := 6) (by decide) ?_
      refine r_if_ne (tgt := 45) C dX1_findTaskWithoutNode_32 (by decide) (fun h4 => ?_) (fun h4 => ?_)
      · refine r_aload_n C 0 dX1_findTaskWithoutNode_35 rfl rfl ?_
        refine r_iconst (v := 4) C dX1_findTaskWithoutNode_36 (by decide) ?_
        refine pf_13_2 C dX1_findTaskWithoutNode_37 u_243 in_13 (fun M6 => ?_)
        refine r_aload_n C 0 dX1_findTaskWithoutNode_40 rfl rfl ?_
        refine r_iload_n C 1 dX1_findTaskWithoutNode_41 rfl rfl ?_
        refine pf_13_3 C dX1_findTaskWithoutNode_42 u_245 in_13 (fun M7 => ?_)
        refine r_iinc (c := 1) (lv' := fun v8 => [(1, .int v8), (0, .ref (gA g 13 0 0))]) C 1 dX1_findTaskWithoutNode_45 rfl (by decide) (by decide) (fun _ => rfl) (fun v8 => ?_)
        refine r_goto (tgt := 2) C dX1_findTaskWithoutNode_48 (by decide) ?_
        refine r_lv [1, 0] rfl ?_
        exact hk2 v8 M7
      · refine r_iinc (c := 1) (lv' := fun v5 => [(1, .int v5), (0, .ref (gA g 13 0 0))]) C 1 dX1_findTaskWithoutNode_45 rfl (by decide) (by decide) (fun _ => rfl) (fun v5 => ?_)
        refine r_goto (tgt := 2) C dX1_findTaskWithoutNode_48 (by decide) ?_
        refine r_lv [1, 0] rfl ?_
        exact hk2 v5 M
    · exact r_vret C dX1_findTaskWithoutNode_51 rfl rfl (xk0 hm) (xn0 hm)
set_option maxRecDepth 100000 in
set_option maxHeartbeats 4000000 in
theorem tl_X1_findTaskWithoutNode_2 {g : Gw} {x : Xw} (C : Cw g x cX1_findTaskWithoutNode RX1 2 none 1) (hm : x.2.2.2.2.2.2.2.2.2.2.2 = (0, 0)) (n : Nat) : ∀ (l1 : Int32) (M : Mw), Sw g x (fun M : Mw => (none, M)) M 0 0 2 [(0, .ref (gA g 13 0 0)), (1, .int l1)] [] (it (fun _ _ => none) (B_X1_findTaskWithoutNode_2) n l1 M) := by
  induction n with
  | zero =>
    intro l1 M
    exact r_none
  | succ n ih =>
    intro l1 M
    exact t_X1_findTaskWithoutNode_2 C hm _ ih l1 M
set_option maxRecDepth 100000 in
set_option maxHeartbeats 4000000 in
theorem c_X1_findTaskWithoutNode {g : Gw} {l : Launch} (M : Mw) : Kw g l yX1_findTaskWithoutNode cX1_findTaskWithoutNode 2 none 1 0 0 [.ref (gA g 13 0 0)] M (fun M : Mw => (none, M)) (F_X1_findTaskWithoutNode M) := by
  refine Kw.of (own := RX1) (lv0 := [(0, .ref (gA g 13 0 0))]) (by decide +kernel) rfl (Nat.le_of_ble_eq_true rfl) rfl (fun x C hl hm => ?_)
  subst hl
  unfold F_X1_findTaskWithoutNode
  refine r_iconst (v := 0) C dX1_findTaskWithoutNode_0 (by decide) ?_
  refine r_istore_n0 (lv' := [(1, .int 0), (0, .ref (gA g 13 0 0))]) C dX1_findTaskWithoutNode_1 rfl (by decide) rfl ?_
  refine r_lv [1, 0] rfl ?_
  exact tl_X1_findTaskWithoutNode_2 C hm FU 0 M
def B_X0_measureNode_57 (b : Nat) (k11 : Int32 → Int32 → Int32 → Option (Mw)) (l1 : Int32) (l2 : Int32) (l6 : Int32) (l7 : Int32) (s0 : Int32) (M : Mw) : Option (Mw) :=
  (if inb l7 6 then (bd (if l6 < (M.1 99 0 0 l7.toNatClampNeg) then (M.1 99 0 0 l7.toNatClampNeg) else l6) (fun v19 => (bd (l7 + 1) (fun v20 => (k11 s0 v19 v20))))) else none)
def B_X0_measureNode_11 (b : Nat) (l1 : Int32) (l2 : Int32) (M : Mw) (k11 : Int32 → Int32 → Int32 → Option (Mw)) (l5 : Int32) (l6 : Int32) (l7 : Int32) : Option (Mw) :=
  (if inb l1 5 then (if (M.1 4 b l1.toNatClampNeg 6) ≤ l7 then (if inb l1 5 then (if inb l2 6 then (if inb l2 6 then (bd (uIw M 98 0 0 l2.toNatClampNeg ((M.1 6 b l1.toNatClampNeg l2.toNatClampNeg) + l5)) (fun M6 => (if inb l1 5 then (if inb l2 6 then (if inb l2 6 then (bd (uIw M6 99 0 0 l2.toNatClampNeg ((M6.1 6 b l1.toNatClampNeg l2.toNatClampNeg) + l6)) (fun M10 => some M10)) else none) else none) else none))) else none) else none) else none) else ((F_X0_isFollower b l1 l2 l7 M).bind (fun v12 => (if v12 = 0 then (bd (l7 + 1) (fun v15 => (k11 l5 l6 v15))) else (if l5 = 0 then (if inb l7 6 then (B_X0_measureNode_57 b k11 l1 l2 l6 l7 (M.1 98 0 0 l7.toNatClampNeg) M) else none) else (if inb l7 6 then (B_X0_measureNode_57 b k11 l1 l2 l6 l7 (if (M.1 98 0 0 l7.toNatClampNeg) < l5 then (M.1 98 0 0 l7.toNatClampNeg) else l5) M) else none)))))) else none)
def F_X0_measureNode (b : Nat) (p1 : Int32) (p2 : Int32) (M : Mw) : Option (Mw) :=
  (bd (p2 + 1) (fun v1 => (it (fun _ _ _ => none) (B_X0_measureNode_11 b p1 p2 M) FU 0 0 v1)))
set_option maxRecDepth 100000 in
set_option maxHeartbeats 4000000 in
theorem t_X0_measureNode_57 {g : Gw} {x : Xw} (C : Cw g x cX0_measureNode RX0 8 none 4) (hm : x.2.2.2.2.2.2.2.2.2.2.2 = (0, 0)) {b : Nat} (hb : b < 8) (hT : gT g = 1) (M : Mw) (k11 : Int32 → Int32 → Int32 → Option (Mw)) (l1 : Int32) (l2 : Int32) (l6 : Int32) (l7 : Int32) (s0 : Int32) (hk11 : ∀ (l5 : Int32) (l6 : Int32) (l7 : Int32), Sw g x (fun M : Mw => (none, M)) M 0 0 11 [(0, .ref (gA g 0 b 0)), (1, .int l1), (2, .int l2), (3, .ref (gA g 98 0 0)), (4, .ref (gA g 99 0 0)), (5, .int l5), (6, .int l6), (7, .int l7)] [] (k11 l5 l6 l7)) : Sw g x (fun M : Mw => (none, M)) M 0 0 57 [(0, .ref (gA g 0 b 0)), (1, .int l1), (2, .int l2), (3, .ref (gA g 98 0 0)), (4, .ref (gA g 99 0 0)), (6, .int l6), (7, .int l7)] [.int s0] (B_X0_measureNode_57 b k11 l1 l2 l6 l7 s0 M) := by
  unfold B_X0_measureNode_57
  refine r_istore0 (lv' := [(5, .int s0), (0, .ref (gA g 0 b 0)), (1, .int l1), (2, .int l2), (3, .ref (gA g 98 0 0)), (4, .ref (gA g 99 0 0)), (6, .int l6), (7, .int l7)]) C dX0_measureNode_57 (by decide) rfl ?_
  refine r_iload C 6 dX0_measureNode_59 rfl ?_
  refine r_aload C 5 dX0_measureNode_61 rfl ?_
  refine r_iload C 7 dX0_measureNode_63 rfl ?_
  refine r_iald C dX0_measureNode_65 (in_99 hT) (contW_99 g _ _ _ _ _) (fun h18 => ?_)
  refine r_mmax C u_541 u_542 u_140 u_543 dX0_measureNode_66 (by decide) (Nat.le_of_ble_eq_true rfl) (xk1 hm (by decide)) (xn1 hm (by decide)) ?_
  refine r_istore (lv' := fun v19 => [(6, .int v19), (5, .int s0), (0, .ref (gA g 0 b 0)), (1, .int l1), (2, .int l2), (3, .ref (gA g 98 0 0)), (4, .ref (gA g 99 0 0)), (7, .int l7)]) C dX0_measureNode_69 (by decide) (fun _ => rfl) (fun v19 => ?_)
  refine r_iinc (c := 1) (lv' := fun v20 => [(7, .int v20), (6, .int v19), (5, .int s0), (0, .ref (gA g 0 b 0)), (1, .int l1), (2, .int l2), (3, .ref (gA g 98 0 0)), (4, .ref (gA g 99 0 0))]) C 7 dX0_measureNode_71 rfl (by decide) (by decide) (fun _ => rfl) (fun v20 => ?_)
  refine r_goto (tgt := 11) C dX0_measureNode_74 (by decide) ?_
  refine r_lv [3, 4, 5, 6, 7, 2, 1, 0] rfl ?_
  exact hk11 s0 v19 v20
set_option maxRecDepth 100000 in
set_option maxHeartbeats 4000000 in
theorem t_X0_measureNode_11 {g : Gw} {x : Xw} (C : Cw g x cX0_measureNode RX0 8 none 4) (hm : x.2.2.2.2.2.2.2.2.2.2.2 = (0, 0)) {b : Nat} (hb : b < 8) (hT : gT g = 1) (M : Mw) (l1 : Int32) (l2 : Int32) (k11 : Int32 → Int32 → Int32 → Option (Mw)) (hk11 : ∀ (l5 : Int32) (l6 : Int32) (l7 : Int32), Sw g x (fun M : Mw => (none, M)) M 0 0 11 [(0, .ref (gA g 0 b 0)), (1, .int l1), (2, .int l2), (3, .ref (gA g 98 0 0)), (4, .ref (gA g 99 0 0)), (5, .int l5), (6, .int l6), (7, .int l7)] [] (k11 l5 l6 l7)) (l5 : Int32) (l6 : Int32) (l7 : Int32) : Sw g x (fun M : Mw => (none, M)) M 0 0 11 [(0, .ref (gA g 0 b 0)), (1, .int l1), (2, .int l2), (3, .ref (gA g 98 0 0)), (4, .ref (gA g 99 0 0)), (5, .int l5), (6, .int l6), (7, .int l7)] [] (B_X0_measureNode_11 b l1 l2 M k11 l5 l6 l7) := by
  unfold B_X0_measureNode_11
  refine r_iload C 7 dX0_measureNode_11 rfl ?_
  refine r_aload_n C 0 dX0_measureNode_13 rfl rfl ?_
  refine gf_0_10 C dX0_measureNode_14 u_218 (in_0 hb) ?_
  refine r_iload_n C 1 dX0_measureNode_17 rfl rfl ?_
  refine r_aald (t0 := 5) (ty := .array .int) C dX0_measureNode_18 (in_3 hb) (contW_3 g _ _ _ _ _) rfl rfl (fun h2 => ?_)
  refine r_bipush (v := 6) C dX0_measureNode_19 (by decide) ?_
  refine r_ialdc C dX0_measureNode_21 (in_4 hb (inb_lt h2)) (contW_4 g _ _ _ _ _) (by decide) (j := 6) (by decide) ?_
  refine r_icmp_ge (tgt := 77) C dX0_measureNode_22 (by decide) (fun h3 => ?_) (fun h3 => ?_)
  · refine r_aload_n C 3 dX0_measureNode_77 rfl rfl ?_
    refine r_iload_n C 2 dX0_measureNode_78 rfl rfl ?_
    refine r_aload_n C 0 dX0_measureNode_79 rfl rfl ?_
    refine gf_0_11 C dX0_measureNode_80 u_225 (in_0 hb) ?_
    refine r_iload_n C 1 dX0_measureNode_83 rfl rfl ?_
    refine r_aald (t0 := 5) (ty := .array .int) C dX0_measureNode_84 (in_5 hb) (contW_5 g _ _ _ _ _) rfl rfl (fun h4 => ?_)
    refine r_iload_n C 2 dX0_measureNode_85 rfl rfl ?_
    refine r_iald C dX0_measureNode_86 (in_6 hb (inb_lt h4)) (contW_6 g _ _ _ _ _) (fun h5 => ?_)
    refine r_iload C 5 dX0_measureNode_87 rfl ?_
    refine r_iadd C dX0_measureNode_89 ?_
    refine r_iast C dX0_measureNode_90 (in_98 hT) (contW_98 g _ _) (fun M6 h7 => ?_)
    refine r_aload C 4 dX0_measureNode_91 rfl ?_
    refine r_iload_n C 2 dX0_measureNode_93 rfl rfl ?_
    refine r_aload_n C 0 dX0_measureNode_94 rfl rfl ?_
    refine gf_0_11 C dX0_measureNode_95 u_225 (in_0 hb) ?_
    refine r_iload_n C 1 dX0_measureNode_98 rfl rfl ?_
    refine r_aald (t0 := 5) (ty := .array .int) C dX0_measureNode_99 (in_5 hb) (contW_5 g _ _ _ _ _) rfl rfl (fun h8 => ?_)
    refine r_iload_n C 2 dX0_measureNode_100 rfl rfl ?_
    refine r_iald C dX0_measureNode_101 (in_6 hb (inb_lt h8)) (contW_6 g _ _ _ _ _) (fun h9 => ?_)
    refine r_iload C 6 dX0_measureNode_102 rfl ?_
    refine r_iadd C dX0_measureNode_104 ?_
    refine r_iast C dX0_measureNode_105 (in_99 hT) (contW_99 g _ _) (fun M10 h11 => ?_)
    exact r_vret C dX0_measureNode_106 rfl rfl (xk0 hm) (xn0 hm)
  · refine r_aload_n C 0 dX0_measureNode_25 rfl rfl ?_
    refine r_iload_n C 1 dX0_measureNode_26 rfl rfl ?_
    refine r_iload_n C 2 dX0_measureNode_27 rfl rfl ?_
    refine r_iload C 7 dX0_measureNode_28 rfl ?_
    refine r_callVRi (rest := []) C (c_X0_isFollower hb l1 l2 l7 M) dX0_measureNode_30 u_537 (in_0 hb) (contW_0 g _ _ _ _ _) rfl u_502 u_503 mi_X0_isFollower (by decide) rfl rfl (Nat.le_of_ble_eq_true rfl) (xk1 hm (by decide)) (xn1 hm (by decide)) (fun v12 h13 => ?_)
    refine r_if_eq (tgt := 71) C dX0_measureNode_33 (by decide) (fun h14 => ?_) (fun h14 => ?_)
    · refine r_iinc (c := 1) (lv' := fun v15 => [(7, .int v15), (0, .ref (gA g 0 b 0)), (1, .int l1), (2, .int l2), (3, .ref (gA g 98 0 0)), (4, .ref (gA g 99 0 0)), (5, .int l5), (6, .int l6)]) C 7 dX0_measureNode_71 rfl (by decide) (by decide) (fun _ => rfl) (fun v15 => ?_)
      refine r_goto (tgt := 11) C dX0_measureNode_74 (by decide) ?_
      refine r_lv [1, 2, 3, 4, 5, 6, 7, 0] rfl ?_
      exact hk11 l5 l6 v15
    · refine r_iload C 5 dX0_measureNode_36 rfl ?_
      refine r_if_ne (tgt := 48) C dX0_measureNode_38 (by decide) (fun h16 => ?_) (fun h16 => ?_)
      · refine r_aload_n C 3 dX0_measureNode_41 rfl rfl ?_
        refine r_iload C 7 dX0_measureNode_42 rfl ?_
        refine r_iald C dX0_measureNode_44 (in_98 hT) (contW_98 g _ _ _ _ _) (fun h21 => ?_)
        refine r_goto (tgt := 57) C dX0_measureNode_45 (by decide) ?_
        refine r_lv [0, 1, 2, 3, 4, 6, 7] rfl ?_
        exact t_X0_measureNode_57 C hm hb hT M k11 l1 l2 l6 l7 (M.1 98 0 0 l7.toNatClampNeg) hk11
      · refine r_iload C 5 dX0_measureNode_48 rfl ?_
        refine r_aload_n C 3 dX0_measureNode_50 rfl rfl ?_
        refine r_iload C 7 dX0_measureNode_51 rfl ?_
        refine r_iald C dX0_measureNode_53 (in_98 hT) (contW_98 g _ _ _ _ _) (fun h17 => ?_)
        refine r_mmin C u_538 u_539 u_140 u_540 dX0_measureNode_54 (by decide) (Nat.le_of_ble_eq_true rfl) (xk1 hm (by decide)) (xn1 hm (by decide)) ?_
        refine r_lv [0, 1, 2, 3, 4, 6, 7] rfl ?_
        exact t_X0_measureNode_57 C hm hb hT M k11 l1 l2 l6 l7 (if (M.1 98 0 0 l7.toNatClampNeg) < l5 then (M.1 98 0 0 l7.toNatClampNeg) else l5) hk11
set_option maxRecDepth 100000 in
set_option maxHeartbeats 4000000 in
theorem tl_X0_measureNode_11 {g : Gw} {x : Xw} (C : Cw g x cX0_measureNode RX0 8 none 4) (hm : x.2.2.2.2.2.2.2.2.2.2.2 = (0, 0)) {b : Nat} (hb : b < 8) (hT : gT g = 1) (M : Mw) (l1 : Int32) (l2 : Int32) (n : Nat) : ∀ (l5 : Int32) (l6 : Int32) (l7 : Int32), Sw g x (fun M : Mw => (none, M)) M 0 0 11 [(0, .ref (gA g 0 b 0)), (1, .int l1), (2, .int l2), (3, .ref (gA g 98 0 0)), (4, .ref (gA g 99 0 0)), (5, .int l5), (6, .int l6), (7, .int l7)] [] (it (fun _ _ _ => none) (B_X0_measureNode_11 b l1 l2 M) n l5 l6 l7) := by
  induction n with
  | zero =>
    intro l5 l6 l7
    exact r_none
  | succ n ih =>
    intro l5 l6 l7
    exact t_X0_measureNode_11 C hm hb hT M l1 l2 _ ih l5 l6 l7
set_option maxRecDepth 100000 in
set_option maxHeartbeats 4000000 in
theorem c_X0_measureNode {g : Gw} {l : Launch} {b : Nat} (hb : b < 8) (hT : gT g = 1) (p1 : Int32) (p2 : Int32) (M : Mw) : Kw g l yX0_measureNode cX0_measureNode 8 none 4 0 0 [.ref (gA g 0 b 0), .int p1, .int p2, .ref (gA g 98 0 0), .ref (gA g 99 0 0)] M (fun M : Mw => (none, M)) (F_X0_measureNode b p1 p2 M) := by
  refine Kw.of (own := RX0) (lv0 := [(0, .ref (gA g 0 b 0)), (1, .int p1), (2, .int p2), (3, .ref (gA g 98 0 0)), (4, .ref (gA g 99 0 0))]) (by decide +kernel) rfl (Nat.le_of_ble_eq_true rfl) rfl (fun x C hl hm => ?_)
  subst hl
  unfold F_X0_measureNode
  refine r_iconst (v := 0) C dX0_measureNode_0 (by decide) ?_
  refine r_istore0 (lv' := [(5, .int 0), (0, .ref (gA g 0 b 0)), (1, .int p1), (2, .int p2), (3, .ref (gA g 98 0 0)), (4, .ref (gA g 99 0 0))]) C dX0_measureNode_1 (by decide) rfl ?_
  refine r_iconst (v := 0) C dX0_measureNode_3 (by decide) ?_
  refine r_istore0 (lv' := [(6, .int 0), (5, .int 0), (0, .ref (gA g 0 b 0)), (1, .int p1), (2, .int p2), (3, .ref (gA g 98 0 0)), (4, .ref (gA g 99 0 0))]) C dX0_measureNode_4 (by decide) rfl ?_
  refine r_iload_n C 4 dX0_measureNode_6 rfl rfl ?_
  refine r_iconst (v := 1) C dX0_measureNode_7 (by decide) ?_
  refine r_iadd C dX0_measureNode_8 ?_
  refine r_istore (lv' := fun v1 => [(7, .int v1), (6, .int 0), (5, .int 0), (0, .ref (gA g 0 b 0)), (1, .int p1), (2, .int p2), (3, .ref (gA g 98 0 0)), (4, .ref (gA g 99 0 0))]) C dX0_measureNode_9 (by decide) (fun _ => rfl) (fun v1 => ?_)
  refine r_lv [3, 4, 5, 6, 7, 2, 1, 0] rfl ?_
  exact tl_X0_measureNode_11 C hm hb hT M p1 p2 FU 0 0 v1
