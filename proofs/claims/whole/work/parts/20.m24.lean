def F_X10_canInject (p1 : Int32) (p2 : Int32) (p3 : Int32) (p4 : Int32) (p5 : Int32) (M : Mw) : Option (Int32) :=
  (if p1 = 5 then ((F_X10_isWatcher p2 M).bind (fun v20 => (if v20 = 0 then some 0 else ((F_X10_in ((p3).toInt64) 0 199 M).bind (fun v23 => (if v23 = 0 then some 0 else (if p4 = 0 then (if p5 = 0 then some 1 else some 0) else some 0))))))) else ((F_X10_in ((p1).toInt64) 0 4 M).bind (fun v2 => (if v2 = 0 then some 0 else ((F_X10_isTask p2 M).bind (fun v5 => (if v5 = 0 then some 0 else ((F_X10_in ((p3).toInt64) 0 50 M).bind (fun v8 => (if v8 = 0 then some 0 else ((F_X10_in ((p5).toInt64) 1 9 M).bind (fun v11 => (if v11 = 0 then some 0 else (if p1 = 4 then (if p4 = 0 then some 1 else some 0) else ((F_X10_nodesOf p2 M).bind (fun v15 => ((F_X10_in ((p4).toInt64) 0 (((v15 - 1)).toInt64) M).bind (fun v17 => (if bz v17 then some v17 else none)))))))))))))))))))
set_option maxRecDepth 100000 in
set_option maxHeartbeats 4000000 in
theorem c_X10_canInject {g : Gw} {l : Launch} (p1 : Int32) (p2 : Int32) (p3 : Int32) (p4 : Int32) (p5 : Int32) (M : Mw) : Kw g l yX10_canInject cX10_canInject 6 (some .boolean) 3 0 0 [.ref (gA g 50 0 0), .int p1, .int p2, .int p3, .int p4, .int p5] M (fun v : Int32 => (some (.int v), M)) (F_X10_canInject p1 p2 p3 p4 p5 M) := by
  refine Kw.of (own := RX10) (lv0 := [(0, .ref (gA g 50 0 0)), (1, .int p1), (2, .int p2), (3, .int p3), (4, .int p4), (5, .int p5)]) (by decide +kernel) rfl (Nat.le_of_ble_eq_true rfl) rfl (fun x C hl hm => ?_)
  subst hl
  unfold F_X10_canInject
  refine r_iload_n C 1 dX10_canInject_0 rfl rfl ?_
  refine r_iconst (v := 5) C dX10_canInject_1 (by decide) ?_
  refine r_icmp_ne (tgt := 41) C dX10_canInject_2 (by decide) (fun h1 => ?_) (fun h1 => ?_)
  · refine r_aload_n C 0 dX10_canInject_5 rfl rfl ?_
    refine r_iload_n C 2 dX10_canInject_6 rfl rfl ?_
    refine r_callVRi (rest := []) C (c_X10_isWatcher p2 M) dX10_canInject_7 u_1293 in_50 (contW_50 g _ _ _ _ _) rfl u_1294 u_72 mi_X10_isWatcher (by decide) rfl rfl (Nat.le_of_ble_eq_true rfl) (xk1 hm (by decide)) (xn1 hm (by decide)) (fun v20 h21 => ?_)
    refine r_if_eq (tgt := 39) C dX10_canInject_10 (by decide) (fun h22 => ?_) (fun h22 => ?_)
    · refine r_iconst (v := 0) C dX10_canInject_39 (by decide) ?_
      exact r_zretc C dX10_canInject_40 rfl bz0 rfl (xk0 hm) (xn0 hm)
    · refine r_iload_n C 3 dX10_canInject_13 rfl rfl ?_
      refine r_i2l C dX10_canInject_14 ?_
      refine r_lconst (v := 0) C dX10_canInject_15 (by decide) ?_
      refine r_ldc2 (v := 199) C u_1656 dX10_canInject_16 ?_
      refine r_callSRi (rest := []) C (c_X10_in ((p3).toInt64) 0 199 M) dX10_canInject_19 u_1174 u_1175 mi_X10_in (by decide) rfl rfl (Nat.le_of_ble_eq_true rfl) (xk1 hm (by decide)) (xn1 hm (by decide)) (fun v23 h24 => ?_)
      refine r_if_eq (tgt := 39) C dX10_canInject_22 (by decide) (fun h25 => ?_) (fun h25 => ?_)
      · refine r_iconst (v := 0) C dX10_canInject_39 (by decide) ?_
        exact r_zretc C dX10_canInject_40 rfl bz0 rfl (xk0 hm) (xn0 hm)
      · refine r_iload C 4 dX10_canInject_25 rfl ?_
        refine r_if_ne (tgt := 39) C dX10_canInject_27 (by decide) (fun h26 => ?_) (fun h26 => ?_)
        · refine r_iload C 5 dX10_canInject_30 rfl ?_
          refine r_if_ne (tgt := 39) C dX10_canInject_32 (by decide) (fun h27 => ?_) (fun h27 => ?_)
          · refine r_iconst (v := 1) C dX10_canInject_35 (by decide) ?_
            refine r_goto (tgt := 40) C dX10_canInject_36 (by decide) ?_
            exact r_zretc C dX10_canInject_40 rfl bz1 rfl (xk0 hm) (xn0 hm)
          · refine r_iconst (v := 0) C dX10_canInject_39 (by decide) ?_
            exact r_zretc C dX10_canInject_40 rfl bz0 rfl (xk0 hm) (xn0 hm)
        · refine r_iconst (v := 0) C dX10_canInject_39 (by decide) ?_
          exact r_zretc C dX10_canInject_40 rfl bz0 rfl (xk0 hm) (xn0 hm)
  · refine r_iload_n C 1 dX10_canInject_41 rfl rfl ?_
    refine r_i2l C dX10_canInject_42 ?_
    refine r_lconst (v := 0) C dX10_canInject_43 (by decide) ?_
    refine r_ldc2 (v := 4) C u_1303 dX10_canInject_44 ?_
    refine r_callSRi (rest := []) C (c_X10_in ((p1).toInt64) 0 4 M) dX10_canInject_47 u_1174 u_1175 mi_X10_in (by decide) rfl rfl (Nat.le_of_ble_eq_true rfl) (xk1 hm (by decide)) (xn1 hm (by decide)) (fun v2 h3 => ?_)
    refine r_if_eq (tgt := 86) C dX10_canInject_50 (by decide) (fun h4 => ?_) (fun h4 => ?_)
    · refine r_iconst (v := 0) C dX10_canInject_86 (by decide) ?_
      exact r_zretc C dX10_canInject_87 rfl bz0 rfl (xk0 hm) (xn0 hm)
    · refine r_aload_n C 0 dX10_canInject_53 rfl rfl ?_
      refine r_iload_n C 2 dX10_canInject_54 rfl rfl ?_
      refine r_callVRi (rest := []) C (c_X10_isTask p2 M) dX10_canInject_55 u_1266 in_50 (contW_50 g _ _ _ _ _) rfl u_1267 u_66 mi_X10_isTask (by decide) rfl rfl (Nat.le_of_ble_eq_true rfl) (xk1 hm (by decide)) (xn1 hm (by decide)) (fun v5 h6 => ?_)
      refine r_if_eq (tgt := 86) C dX10_canInject_58 (by decide) (fun h7 => ?_) (fun h7 => ?_)
      · refine r_iconst (v := 0) C dX10_canInject_86 (by decide) ?_
        exact r_zretc C dX10_canInject_87 rfl bz0 rfl (xk0 hm) (xn0 hm)
      · refine r_iload_n C 3 dX10_canInject_61 rfl rfl ?_
        refine r_i2l C dX10_canInject_62 ?_
        refine r_lconst (v := 0) C dX10_canInject_63 (by decide) ?_
        refine r_ldc2 (v := 50) C u_1392 dX10_canInject_64 ?_
        refine r_callSRi (rest := []) C (c_X10_in ((p3).toInt64) 0 50 M) dX10_canInject_67 u_1174 u_1175 mi_X10_in (by decide) rfl rfl (Nat.le_of_ble_eq_true rfl) (xk1 hm (by decide)) (xn1 hm (by decide)) (fun v8 h9 => ?_)
        refine r_if_eq (tgt := 86) C dX10_canInject_70 (by decide) (fun h10 => ?_) (fun h10 => ?_)
        · refine r_iconst (v := 0) C dX10_canInject_86 (by decide) ?_
          exact r_zretc C dX10_canInject_87 rfl bz0 rfl (xk0 hm) (xn0 hm)
        · refine r_iload C 5 dX10_canInject_73 rfl ?_
          refine r_i2l C dX10_canInject_75 ?_
          refine r_lconst (v := 1) C dX10_canInject_76 (by decide) ?_
          refine r_ldc2 (v := 9) C u_1657 dX10_canInject_77 ?_
          refine r_callSRi (rest := []) C (c_X10_in ((p5).toInt64) 1 9 M) dX10_canInject_80 u_1174 u_1175 mi_X10_in (by decide) rfl rfl (Nat.le_of_ble_eq_true rfl) (xk1 hm (by decide)) (xn1 hm (by decide)) (fun v11 h12 => ?_)
          refine r_if_ne (tgt := 88) C dX10_canInject_83 (by decide) (fun h13 => ?_) (fun h13 => ?_)
          · refine r_iconst (v := 0) C dX10_canInject_86 (by decide) ?_
            exact r_zretc C dX10_canInject_87 rfl bz0 rfl (xk0 hm) (xn0 hm)
          · refine r_iload_n C 1 dX10_canInject_88 rfl rfl ?_
            refine r_iconst (v := 4) C dX10_canInject_89 (by decide) ?_
            refine r_icmp_ne (tgt := 106) C dX10_canInject_90 (by decide) (fun h14 => ?_) (fun h14 => ?_)
            · refine r_iload C 4 dX10_canInject_93 rfl ?_
              refine r_if_ne (tgt := 102) C dX10_canInject_95 (by decide) (fun h19 => ?_) (fun h19 => ?_)
              · refine r_iconst (v := 1) C dX10_canInject_98 (by decide) ?_
                refine r_goto (tgt := 121) C dX10_canInject_99 (by decide) ?_
                exact r_zretc C dX10_canInject_121 rfl bz1 rfl (xk0 hm) (xn0 hm)
              · refine r_iconst (v := 0) C dX10_canInject_102 (by decide) ?_
                refine r_goto (tgt := 121) C dX10_canInject_103 (by decide) ?_
                exact r_zretc C dX10_canInject_121 rfl bz0 rfl (xk0 hm) (xn0 hm)
            · refine r_iload C 4 dX10_canInject_106 rfl ?_
              refine r_i2l C dX10_canInject_108 ?_
              refine r_lconst (v := 0) C dX10_canInject_109 (by decide) ?_
              refine r_aload_n C 0 dX10_canInject_110 rfl rfl ?_
              refine r_iload_n C 2 dX10_canInject_111 rfl rfl ?_
              refine r_callVRi (rest := [.long 0, .long ((p4).toInt64)]) C (c_X10_nodesOf p2 M) dX10_canInject_112 u_1277 in_50 (contW_50 g _ _ _ _ _) rfl u_1278 u_68 mi_X10_nodesOf (by decide) rfl rfl (Nat.le_of_ble_eq_true rfl) (xk1 hm (by decide)) (xn1 hm (by decide)) (fun v15 h16 => ?_)
              refine r_iconst (v := 1) C dX10_canInject_115 (by decide) ?_
              refine r_isub C dX10_canInject_116 ?_
              refine r_i2l C dX10_canInject_117 ?_
              refine r_callSRi (rest := []) C (c_X10_in ((p4).toInt64) 0 (((v15 - 1)).toInt64) M) dX10_canInject_118 u_1174 u_1175 mi_X10_in (by decide) rfl rfl (Nat.le_of_ble_eq_true rfl) (xk1 hm (by decide)) (xn1 hm (by decide)) (fun v17 h18 => ?_)
              exact r_zret C dX10_canInject_121 rfl rfl (xk0 hm) (xn0 hm)
def B_X10_inject_117 (s0 : Int32) (s1 : Int32) (M : Mw) : Option (Int32 × Mw) :=
  (if inb s1 201 then (bd (uIw M 51 0 0 s1.toNatClampNeg s0) (fun M21 => (bd (uIw M21 51 0 0 6 ((M21.1 51 0 0 6) + 1)) (fun M23 => ((F_X10_asks M23).bind (fun q24 => some ((q24.2.1 50 0 0 56), q24.2))))))) else none)
def B_X10_inject_97 (l1 : Int32) (l5 : Int32) (l6 : Int32) (s0 : Int32) (s1 : Int32) (M : Mw) : Option (Int32 × Mw) :=
  (if inb s1 201 then (bd (uIw M 51 0 0 s1.toNatClampNeg s0) (fun M18 => (if l1 = 5 then (B_X10_inject_117 (-1) (l6 + 4) M18) else (B_X10_inject_117 l5 (l6 + 4) M18)))) else none)
def F_X10_inject (p1 : Int32) (p2 : Int32) (p3 : Int32) (p4 : Int32) (p5 : Int32) (M : Mw) : Option (Int32 × Mw) :=
  ((F_X10_isBoard M).bind (fun v1 => (if v1 = 0 then some ((-2), M) else ((F_X10_canInject p1 p2 p3 p4 p5 M).bind (fun v4 => (if v4 = 0 then some ((-2), M) else (if (M.1 51 0 0 6) = 10 then some ((-5), M) else ((F_X10_many M).bind (fun v8 => (bd (106 + (5 * v8)) (fun v10 => (if inb v10 201 then (bd (uIw M 51 0 0 v10.toNatClampNeg p1) (fun M11 => (if inb (v10 + 1) 201 then (bd (uIw M11 51 0 0 (v10 + 1).toNatClampNeg p2) (fun M13 => (if inb (v10 + 2) 201 then (bd (uIw M13 51 0 0 (v10 + 2).toNatClampNeg p3) (fun M15 => (if p1 < 4 then (B_X10_inject_97 p1 p5 v10 p4 (v10 + 3) M15) else (B_X10_inject_97 p1 p5 v10 (-1) (v10 + 3) M15)))) else none))) else none))) else none))))))))))))
set_option maxRecDepth 100000 in
set_option maxHeartbeats 4000000 in
theorem t_X10_inject_117 {g : Gw} {x : Xw} (C : Cw g x cX10_inject RX10 7 (some .int) 12) (hm : x.2.2.2.2.2.2.2.2.2.2.2 = (0, 0)) (s0 : Int32) (s1 : Int32) (M : Mw) : Sw g x (fun q : Int32 × Mw => (some (.int q.1), q.2)) M 0 0 117 [(0, .ref (gA g 50 0 0))] [.int s0, .int s1, .ref (gA g 51 0 0)] (B_X10_inject_117 s0 s1 M) := by
  unfold B_X10_inject_117
  refine r_iast C dX10_inject_117 in_51 (contW_51 g _ _) (fun M21 h22 => ?_)
  refine r_aload_n C 0 dX10_inject_118 rfl rfl ?_
  refine gf_50_1 C dX10_inject_119 u_1106 in_50 ?_
  refine r_bipush (v := 6) C dX10_inject_122 (by decide) ?_
  refine r_dup2 C rfl rfl dX10_inject_124 ?_
  refine r_ialdc C dX10_inject_125 in_51 (contW_51 g _ _ _ _ _) (by decide) (j := 6) (by decide) ?_
  refine r_iconst (v := 1) C dX10_inject_126 (by decide) ?_
  refine r_iadd C dX10_inject_127 ?_
  refine r_iastc C dX10_inject_128 in_51 (contW_51 g _ _) (by decide) (j := 6) (by decide) (fun M23 => ?_)
  refine r_aload_n C 0 dX10_inject_129 rfl rfl ?_
  refine r_callVWi (rest := []) C (c_X10_asks M23) dX10_inject_130 u_1415 in_50 (contW_50 g _ _ _ _ _) rfl u_1416 u_88 mi_X10_asks (by decide) rfl rfl (Nat.le_of_ble_eq_true rfl) (xk1 hm (by decide)) (xn1 hm (by decide)) (fun q24 h25 => ?_)
  refine r_pop C rfl dX10_inject_133 ?_
  refine r_aload_n C 0 dX10_inject_134 rfl rfl ?_
  refine gf_50_56 C dX10_inject_135 u_1161 in_50 ?_
  exact r_iret C dX10_inject_138 rfl rfl (xk0 hm) (xn0 hm)
set_option maxRecDepth 100000 in
set_option maxHeartbeats 4000000 in
theorem t_X10_inject_97 {g : Gw} {x : Xw} (C : Cw g x cX10_inject RX10 7 (some .int) 12) (hm : x.2.2.2.2.2.2.2.2.2.2.2 = (0, 0)) (l1 : Int32) (l5 : Int32) (l6 : Int32) (s0 : Int32) (s1 : Int32) (M : Mw) : Sw g x (fun q : Int32 × Mw => (some (.int q.1), q.2)) M 0 0 97 [(0, .ref (gA g 50 0 0)), (1, .int l1), (5, .int l5), (6, .int l6)] [.int s0, .int s1, .ref (gA g 51 0 0)] (B_X10_inject_97 l1 l5 l6 s0 s1 M) := by
  unfold B_X10_inject_97
  refine r_iast C dX10_inject_97 in_51 (contW_51 g _ _) (fun M18 h19 => ?_)
  refine r_aload_n C 0 dX10_inject_98 rfl rfl ?_
  refine gf_50_1 C dX10_inject_99 u_1106 in_50 ?_
  refine r_iload C 3 dX10_inject_102 rfl ?_
  refine r_iconst (v := 4) C dX10_inject_104 (by decide) ?_
  refine r_iadd C dX10_inject_105 ?_
  refine r_iload_n C 1 dX10_inject_106 rfl rfl ?_
  refine r_iconst (v := 5) C dX10_inject_107 (by decide) ?_
  refine r_icmp_ne (tgt := 115) C dX10_inject_108 (by decide) (fun h20 => ?_) (fun h20 => ?_)
  · refine r_iconst (v := (-1)) C dX10_inject_111 (by decide) ?_
    refine r_goto (tgt := 117) C dX10_inject_112 (by decide) ?_
    refine r_lv [0] rfl ?_
    exact t_X10_inject_117 C hm (-1) (l6 + 4) M18
  · refine r_iload C 2 dX10_inject_115 rfl ?_
    refine r_lv [0] rfl ?_
    exact t_X10_inject_117 C hm l5 (l6 + 4) M18
set_option maxRecDepth 100000 in
set_option maxHeartbeats 4000000 in
theorem c_X10_inject {g : Gw} {l : Launch} (p1 : Int32) (p2 : Int32) (p3 : Int32) (p4 : Int32) (p5 : Int32) (M : Mw) : Kw g l yX10_inject cX10_inject 7 (some .int) 12 0 0 [.ref (gA g 50 0 0), .int p1, .int p2, .int p3, .int p4, .int p5] M (fun q : Int32 × Mw => (some (.int q.1), q.2)) (F_X10_inject p1 p2 p3 p4 p5 M) := by
  refine Kw.of (own := RX10) (lv0 := [(0, .ref (gA g 50 0 0)), (1, .int p1), (2, .int p2), (3, .int p3), (4, .int p4), (5, .int p5)]) (by decide +kernel) rfl (Nat.le_of_ble_eq_true rfl) rfl (fun x C hl hm => ?_)
  subst hl
  unfold F_X10_inject
  refine r_aload_n C 0 dX10_inject_0 rfl rfl ?_
  refine r_callVRi (rest := []) C (c_X10_isBoard M) dX10_inject_1 u_1347 in_50 (contW_50 g _ _ _ _ _) rfl u_1348 u_81 mi_X10_isBoard (by decide) rfl rfl (Nat.le_of_ble_eq_true rfl) (xk1 hm (by decide)) (xn1 hm (by decide)) (fun v1 h2 => ?_)
  refine r_if_eq (tgt := 21) C dX10_inject_4 (by decide) (fun h3 => ?_) (fun h3 => ?_)
  · refine r_bipush (v := (-2)) C dX10_inject_21 (by decide) ?_
    exact r_iret C dX10_inject_23 rfl rfl (xk0 hm) (xn0 hm)
  · refine r_aload_n C 0 dX10_inject_7 rfl rfl ?_
    refine r_iload_n C 1 dX10_inject_8 rfl rfl ?_
    refine r_iload_n C 2 dX10_inject_9 rfl rfl ?_
    refine r_iload_n C 3 dX10_inject_10 rfl rfl ?_
    refine r_iload C 4 dX10_inject_11 rfl ?_
    refine r_iload C 5 dX10_inject_13 rfl ?_
    refine r_callVRi (rest := []) C (c_X10_canInject p1 p2 p3 p4 p5 M) dX10_inject_15 u_1653 in_50 (contW_50 g _ _ _ _ _) rfl u_1654 u_123 mi_X10_canInject (by decide) rfl rfl (Nat.le_of_ble_eq_true rfl) (xk1 hm (by decide)) (xn1 hm (by decide)) (fun v4 h5 => ?_)
    refine r_if_ne (tgt := 24) C dX10_inject_18 (by decide) (fun h6 => ?_) (fun h6 => ?_)
    · refine r_bipush (v := (-2)) C dX10_inject_21 (by decide) ?_
      exact r_iret C dX10_inject_23 rfl rfl (xk0 hm) (xn0 hm)
    · refine r_aload_n C 0 dX10_inject_24 rfl rfl ?_
      refine gf_50_1 C dX10_inject_25 u_1106 in_50 ?_
      refine r_bipush (v := 6) C dX10_inject_28 (by decide) ?_
      refine r_ialdc C dX10_inject_30 in_51 (contW_51 g _ _ _ _ _) (by decide) (j := 6) (by decide) ?_
      refine r_bipush (v := 10) C dX10_inject_31 (by decide) ?_
      refine r_icmp_ne (tgt := 39) C dX10_inject_33 (by decide) (fun h7 => ?_) (fun h7 => ?_)
      · refine r_bipush (v := (-5)) C dX10_inject_36 (by decide) ?_
        exact r_iret C dX10_inject_38 rfl rfl (xk0 hm) (xn0 hm)
      · refine r_bipush (v := 106) C dX10_inject_39 (by decide) ?_
        refine r_iconst (v := 5) C dX10_inject_41 (by decide) ?_
        refine r_aload_n C 0 dX10_inject_42 rfl rfl ?_
        refine r_callVRi (rest := [.int 5, .int 106]) C (c_X10_many M) dX10_inject_43 u_1300 in_50 (contW_50 g _ _ _ _ _) rfl u_1301 u_73 mi_X10_many (by decide) rfl rfl (Nat.le_of_ble_eq_true rfl) (xk1 hm (by decide)) (xn1 hm (by decide)) (fun v8 h9 => ?_)
        refine r_imul C dX10_inject_46 ?_
        refine r_iadd C dX10_inject_47 ?_
        refine r_istore (lv' := fun v10 => [(6, .int v10), (0, .ref (gA g 50 0 0)), (1, .int p1), (2, .int p2), (3, .int p3), (4, .int p4), (5, .int p5)]) C dX10_inject_48 (by decide) (fun _ => rfl) (fun v10 => ?_)
        refine r_aload_n C 1 dX10_inject_50 rfl rfl ?_
        refine gf_50_1 C dX10_inject_51 u_1106 in_50 ?_
        refine r_iload C 0 dX10_inject_54 rfl ?_
        refine r_iload_n C 2 dX10_inject_56 rfl rfl ?_
        refine r_iast C dX10_inject_57 in_51 (contW_51 g _ _) (fun M11 h12 => ?_)
        refine r_aload_n C 1 dX10_inject_58 rfl rfl ?_
        refine gf_50_1 C dX10_inject_59 u_1106 in_50 ?_
        refine r_iload C 0 dX10_inject_62 rfl ?_
        refine r_iconst (v := 1) C dX10_inject_64 (by decide) ?_
        refine r_iadd C dX10_inject_65 ?_
        refine r_iload_n C 3 dX10_inject_66 rfl rfl ?_
        refine r_iast C dX10_inject_67 in_51 (contW_51 g _ _) (fun M13 h14 => ?_)
        refine r_aload_n C 1 dX10_inject_68 rfl rfl ?_
        refine gf_50_1 C dX10_inject_69 u_1106 in_50 ?_
        refine r_iload C 0 dX10_inject_72 rfl ?_
        refine r_iconst (v := 2) C dX10_inject_74 (by decide) ?_
        refine r_iadd C dX10_inject_75 ?_
        refine r_iload_n C 4 dX10_inject_76 rfl rfl ?_
        refine r_iast C dX10_inject_77 in_51 (contW_51 g _ _) (fun M15 h16 => ?_)
        refine r_aload_n C 1 dX10_inject_78 rfl rfl ?_
        refine gf_50_1 C dX10_inject_79 u_1106 in_50 ?_
        refine r_iload C 0 dX10_inject_82 rfl ?_
        refine r_iconst (v := 3) C dX10_inject_84 (by decide) ?_
        refine r_iadd C dX10_inject_85 ?_
        refine r_iload_n C 2 dX10_inject_86 rfl rfl ?_
        refine r_iconst (v := 4) C dX10_inject_87 (by decide) ?_
        refine r_icmp_lt (tgt := 95) C dX10_inject_88 (by decide) (fun h17 => ?_) (fun h17 => ?_)
        · refine r_iload C 5 dX10_inject_95 rfl ?_
          refine r_lv [1, 2, 6, 0] rfl ?_
          exact t_X10_inject_97 C hm p1 p5 v10 p4 (v10 + 3) M15
        · refine r_iconst (v := (-1)) C dX10_inject_91 (by decide) ?_
          refine r_goto (tgt := 97) C dX10_inject_92 (by decide) ?_
          refine r_lv [1, 2, 6, 0] rfl ?_
          exact t_X10_inject_97 C hm p1 p5 v10 (-1) (v10 + 3) M15
def F_X10_undo (M : Mw) : Option (Int32 × Mw) :=
  ((F_X10_isBoard M).bind (fun v1 => (if v1 = 0 then some ((-2), M) else (if (M.1 51 0 0 6) = 0 then some ((-5), M) else (bd (uIw M 51 0 0 6 ((M.1 51 0 0 6) - 1)) (fun M5 => some ((M5.1 51 0 0 6), M5)))))))
set_option maxRecDepth 100000 in
set_option maxHeartbeats 4000000 in
theorem c_X10_undo {g : Gw} {l : Launch} (M : Mw) : Kw g l yX10_undo cX10_undo 1 (some .int) 2 0 0 [.ref (gA g 50 0 0)] M (fun q : Int32 × Mw => (some (.int q.1), q.2)) (F_X10_undo M) := by
  refine Kw.of (own := RX10) (lv0 := [(0, .ref (gA g 50 0 0))]) (by decide +kernel) rfl (Nat.le_of_ble_eq_true rfl) rfl (fun x C hl hm => ?_)
  subst hl
  unfold F_X10_undo
  refine r_aload_n C 0 dX10_undo_0 rfl rfl ?_
  refine r_callVRi (rest := []) C (c_X10_isBoard M) dX10_undo_1 u_1347 in_50 (contW_50 g _ _ _ _ _) rfl u_1348 u_81 mi_X10_isBoard (by decide) rfl rfl (Nat.le_of_ble_eq_true rfl) (xk1 hm (by decide)) (xn1 hm (by decide)) (fun v1 h2 => ?_)
  refine r_if_ne (tgt := 10) C dX10_undo_4 (by decide) (fun h3 => ?_) (fun h3 => ?_)
  · refine r_bipush (v := (-2)) C dX10_undo_7 (by decide) ?_
    exact r_iret C dX10_undo_9 rfl rfl (xk0 hm) (xn0 hm)
  · refine r_aload_n C 0 dX10_undo_10 rfl rfl ?_
    refine gf_50_1 C dX10_undo_11 u_1106 in_50 ?_
    refine r_bipush (v := 6) C dX10_undo_14 (by decide) ?_
    refine r_ialdc C dX10_undo_16 in_51 (contW_51 g _ _ _ _ _) (by decide) (j := 6) (by decide) ?_
    refine r_if_ne (tgt := 23) C dX10_undo_17 (by decide) (fun h4 => ?_) (fun h4 => ?_)
    · refine r_bipush (v := (-5)) C dX10_undo_20 (by decide) ?_
      exact r_iret C dX10_undo_22 rfl rfl (xk0 hm) (xn0 hm)
    · refine r_aload_n C 0 dX10_undo_23 rfl rfl ?_
      refine gf_50_1 C dX10_undo_24 u_1106 in_50 ?_
      refine r_bipush (v := 6) C dX10_undo_27 (by decide) ?_
      refine r_dup2 C rfl rfl dX10_undo_29 ?_
      refine r_ialdc C dX10_undo_30 in_51 (contW_51 g _ _ _ _ _) (by decide) (j := 6) (by decide) ?_
      refine r_iconst (v := 1) C dX10_undo_31 (by decide) ?_
      refine r_isub C dX10_undo_32 ?_
      refine r_iastc C dX10_undo_33 in_51 (contW_51 g _ _) (by decide) (j := 6) (by decide) (fun M5 => ?_)
      refine r_aload_n C 0 dX10_undo_34 rfl rfl ?_
      refine gf_50_1 C dX10_undo_35 u_1106 in_50 ?_
      refine r_bipush (v := 6) C dX10_undo_38 (by decide) ?_
      refine r_ialdc C dX10_undo_40 in_51 (contW_51 g _ _ _ _ _) (by decide) (j := 6) (by decide) ?_
      exact r_iret C dX10_undo_41 rfl rfl (xk0 hm) (xn0 hm)
def F_X10_anew (M : Mw) : Option (Int32 × Mw) :=
  ((F_X10_isBoard M).bind (fun v1 => (if v1 = 0 then some ((-2), M) else (bd (M.1 51 0 0 6) (fun v4 => (bd (uIw M 51 0 0 6 0) (fun M5 => some (v4, M5))))))))
set_option maxRecDepth 100000 in
set_option maxHeartbeats 4000000 in
theorem c_X10_anew {g : Gw} {l : Launch} (M : Mw) : Kw g l yX10_anew cX10_anew 2 (some .int) 2 0 0 [.ref (gA g 50 0 0)] M (fun q : Int32 × Mw => (some (.int q.1), q.2)) (F_X10_anew M) := by
  refine Kw.of (own := RX10) (lv0 := [(0, .ref (gA g 50 0 0))]) (by decide +kernel) rfl (Nat.le_of_ble_eq_true rfl) rfl (fun x C hl hm => ?_)
  subst hl
  unfold F_X10_anew
  refine r_aload_n C 0 dX10_anew_0 rfl rfl ?_
  refine r_callVRi (rest := []) C (c_X10_isBoard M) dX10_anew_1 u_1347 in_50 (contW_50 g _ _ _ _ _) rfl u_1348 u_81 mi_X10_isBoard (by decide) rfl rfl (Nat.le_of_ble_eq_true rfl) (xk1 hm (by decide)) (xn1 hm (by decide)) (fun v1 h2 => ?_)
  refine r_if_ne (tgt := 10) C dX10_anew_4 (by decide) (fun h3 => ?_) (fun h3 => ?_)
  · refine r_bipush (v := (-2)) C dX10_anew_7 (by decide) ?_
    exact r_iret C dX10_anew_9 rfl rfl (xk0 hm) (xn0 hm)
  · refine r_aload_n C 0 dX10_anew_10 rfl rfl ?_
    refine gf_50_1 C dX10_anew_11 u_1106 in_50 ?_
    refine r_bipush (v := 6) C dX10_anew_14 (by decide) ?_
    refine r_ialdc C dX10_anew_16 in_51 (contW_51 g _ _ _ _ _) (by decide) (j := 6) (by decide) ?_
    refine r_istore_n (lv' := fun v4 => [(1, .int v4), (0, .ref (gA g 50 0 0))]) C dX10_anew_17 rfl (by decide) (fun _ => rfl) (fun v4 => ?_)
    refine r_aload_n C 1 dX10_anew_18 rfl rfl ?_
    refine gf_50_1 C dX10_anew_19 u_1106 in_50 ?_
    refine r_bipush (v := 6) C dX10_anew_22 (by decide) ?_
    refine r_iconst (v := 0) C dX10_anew_24 (by decide) ?_
    refine r_iastc C dX10_anew_25 in_51 (contW_51 g _ _) (by decide) (j := 6) (by decide) (fun M5 => ?_)
    refine r_iload_n C 0 dX10_anew_26 rfl rfl ?_
    exact r_iret C dX10_anew_27 rfl rfl (xk0 hm) (xn0 hm)
def F_X10_count (p1 : Int32) (M : Mw) : Option (Int32) :=
  ((F_X10_in ((p1).toInt64) 0 7 M).bind (fun v1 => (if v1 = 0 then (if p1 = 8 then some (M.1 50 0 0 5) else some (-1)) else (if inb p1 201 then some (M.1 51 0 0 p1.toNatClampNeg) else none))))
set_option maxRecDepth 100000 in
set_option maxHeartbeats 4000000 in
theorem c_X10_count {g : Gw} {l : Launch} (p1 : Int32) (M : Mw) : Kw g l yX10_count cX10_count 2 (some .int) 2 0 0 [.ref (gA g 50 0 0), .int p1] M (fun v : Int32 => (some (.int v), M)) (F_X10_count p1 M) := by
  refine Kw.of (own := RX10) (lv0 := [(0, .ref (gA g 50 0 0)), (1, .int p1)]) (by decide +kernel) rfl (Nat.le_of_ble_eq_true rfl) rfl (fun x C hl hm => ?_)
  subst hl
  unfold F_X10_count
  refine r_iload_n C 1 dX10_count_0 rfl rfl ?_
  refine r_i2l C dX10_count_1 ?_
  refine r_lconst (v := 0) C dX10_count_2 (by decide) ?_
  refine r_ldc2 (v := 7) C u_1584 dX10_count_3 ?_
  refine r_callSRi (rest := []) C (c_X10_in ((p1).toInt64) 0 7 M) dX10_count_6 u_1174 u_1175 mi_X10_in (by decide) rfl rfl (Nat.le_of_ble_eq_true rfl) (xk1 hm (by decide)) (xn1 hm (by decide)) (fun v1 h2 => ?_)
  refine r_if_eq (tgt := 19) C dX10_count_9 (by decide) (fun h3 => ?_) (fun h3 => ?_)
  · refine r_iload_n C 1 dX10_count_19 rfl rfl ?_
    refine r_bipush (v := 8) C dX10_count_20 (by decide) ?_
    refine r_icmp_ne (tgt := 32) C dX10_count_22 (by decide) (fun h4 => ?_) (fun h4 => ?_)
    · refine r_aload_n C 0 dX10_count_25 rfl rfl ?_
      refine gf_50_5 C dX10_count_26 u_1110 in_50 ?_
      refine r_goto (tgt := 33) C dX10_count_29 (by decide) ?_
      exact r_iret C dX10_count_33 rfl rfl (xk0 hm) (xn0 hm)
    · refine r_iconst (v := (-1)) C dX10_count_32 (by decide) ?_
      exact r_iret C dX10_count_33 rfl rfl (xk0 hm) (xn0 hm)
  · refine r_aload_n C 0 dX10_count_12 rfl rfl ?_
    refine gf_50_1 C dX10_count_13 u_1106 in_50 ?_
    refine r_iload_n C 1 dX10_count_16 rfl rfl ?_
    refine r_iald C dX10_count_17 in_51 (contW_51 g _ _ _ _ _) (fun h5 => ?_)
    exact r_iret C dX10_count_18 rfl rfl (xk0 hm) (xn0 hm)
