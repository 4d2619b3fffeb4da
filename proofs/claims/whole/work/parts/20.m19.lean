def B_X10_isWrong_2 (l1 : Int32) (M : Mw) (k2 : Int32 → Option (Int32)) (l2 : Int32) : Option (Int32) :=
  ((F_X10_injections M).bind (fun v1 => (if v1 ≤ l2 then some 0 else (if l2 = (M.1 50 0 0 23) then (bd (l2 + 1) (fun v5 => (k2 v5))) else ((F_X10_of l2 0 M).bind (fun v6 => (if v6 = 4 then ((F_X10_of l2 1 M).bind (fun v10 => (if v10 = l1 then (if inb l1 5 then ((F_X10_of l2 2 M).bind (fun v15 => ((F_X10_of l2 2 M).bind (fun v17 => ((F_X10_of l2 4 M).bind (fun v19 => ((F_X10_in (((M.1 65 0 0 l1.toNatClampNeg)).toInt64) ((v15).toInt64) ((((v17 + v19) - 1)).toInt64) M).bind (fun v21 => (if v21 = 0 then (bd (l2 + 1) (fun v24 => (k2 v24))) else some 1))))))))) else none) else (bd (l2 + 1) (fun v13 => (k2 v13)))))) else (bd (l2 + 1) (fun v9 => (k2 v9))))))))))
def F_X10_isWrong (p1 : Int32) (M : Mw) : Option (Int32) :=
  (it (fun _ => none) (B_X10_isWrong_2 p1 M) FU 0)
set_option maxRecDepth 100000 in
set_option maxHeartbeats 4000000 in
theorem t_X10_isWrong_2 {g : Gw} {x : Xw} (C : Cw g x cX10_isWrong RX10 3 (some .boolean) 3) (hm : x.2.2.2.2.2.2.2.2.2.2.2 = (0, 0)) (M : Mw) (l1 : Int32) (k2 : Int32 → Option (Int32)) (hk2 : ∀ (l2 : Int32), Sw g x (fun v : Int32 => (some (.int v), M)) M 0 0 2 [(0, .ref (gA g 50 0 0)), (1, .int l1), (2, .int l2)] [] (k2 l2)) (l2 : Int32) : Sw g x (fun v : Int32 => (some (.int v), M)) M 0 0 2 [(0, .ref (gA g 50 0 0)), (1, .int l1), (2, .int l2)] [] (B_X10_isWrong_2 l1 M k2 l2) := by
  unfold B_X10_isWrong_2
  refine r_iload_n C 2 dX10_isWrong_2 rfl rfl ?_
  refine r_aload_n C 0 dX10_isWrong_3 rfl rfl ?_
  refine r_callVRi (rest := [.int l2]) C (c_X10_injections M) dX10_isWrong_4 u_1439 in_50 (contW_50 g _ _ _ _ _) rfl u_1440 u_96 mi_X10_injections (by decide) rfl rfl (Nat.le_of_ble_eq_true rfl) (xk1 hm (by decide)) (xn1 hm (by decide)) (fun v1 h2 => ?_)
  refine r_icmp_ge (tgt := 82) C dX10_isWrong_7 (by decide) (fun h3 => ?_) (fun h3 => ?_)
  · refine r_iconst (v := 0) C dX10_isWrong_82 (by decide) ?_
    exact r_zretc C dX10_isWrong_83 rfl bz0 rfl (xk0 hm) (xn0 hm)
  · refine r_iload_n C 2 dX10_isWrong_10 rfl rfl ?_
    refine r_aload_n C 0 dX10_isWrong_11 rfl rfl ?_
    refine gf_50_23 C dX10_isWrong_12 u_1128 in_50 ?_
    refine r_icmp_eq (tgt := 76) C dX10_isWrong_15 (by decide) (fun h4 => ?_) (fun h4 => ?_)
    · refine r_iinc (c := 1) (lv' := fun v5 => [(2, .int v5), (0, .ref (gA g 50 0 0)), (1, .int l1)]) C 2 dX10_isWrong_76 rfl (by decide) (by decide) (fun _ => rfl) (fun v5 => ?_)
      refine r_goto (tgt := 2) C dX10_isWrong_79 (by decide) ?_
      refine r_lv [1, 2, 0] rfl ?_
      exact hk2 v5
    · refine r_aload_n C 0 dX10_isWrong_18 rfl rfl ?_
      refine r_iload_n C 2 dX10_isWrong_19 rfl rfl ?_
      refine r_iconst (v := 0) C dX10_isWrong_20 (by decide) ?_
      refine r_callVRi (rest := []) C (c_X10_of l2 0 M) dX10_isWrong_21 u_1304 in_50 (contW_50 g _ _ _ _ _) rfl u_1305 u_74 mi_X10_of (by decide) rfl rfl (Nat.le_of_ble_eq_true rfl) (xk1 hm (by decide)) (xn1 hm (by decide)) (fun v6 h7 => ?_)
      refine r_iconst (v := 4) C dX10_isWrong_24 (by decide) ?_
      refine r_icmp_ne (tgt := 76) C dX10_isWrong_25 (by decide) (fun h8 => ?_) (fun h8 => ?_)
      · refine r_aload_n C 0 dX10_isWrong_28 rfl rfl ?_
        refine r_iload_n C 2 dX10_isWrong_29 rfl rfl ?_
        refine r_iconst (v := 1) C dX10_isWrong_30 (by decide) ?_
        refine r_callVRi (rest := []) C (c_X10_of l2 1 M) dX10_isWrong_31 u_1304 in_50 (contW_50 g _ _ _ _ _) rfl u_1305 u_74 mi_X10_of (by decide) rfl rfl (Nat.le_of_ble_eq_true rfl) (xk1 hm (by decide)) (xn1 hm (by decide)) (fun v10 h11 => ?_)
        refine r_iload_n C 1 dX10_isWrong_34 rfl rfl ?_
        refine r_icmp_ne (tgt := 76) C dX10_isWrong_35 (by decide) (fun h12 => ?_) (fun h12 => ?_)
        · refine r_aload_n C 0 dX10_isWrong_38 rfl rfl ?_
          refine gf_50_29 C dX10_isWrong_39 u_1134 in_50 ?_
          refine r_iload_n C 1 dX10_isWrong_42 rfl rfl ?_
          refine r_iald C dX10_isWrong_43 in_65 (contW_65 g _ _ _ _ _) (fun h14 => ?_)
          refine r_i2l C dX10_isWrong_44 ?_
          refine r_aload_n C 0 dX10_isWrong_45 rfl rfl ?_
          refine r_iload_n C 2 dX10_isWrong_46 rfl rfl ?_
          refine r_iconst (v := 2) C dX10_isWrong_47 (by decide) ?_
          refine r_callVRi (rest := [.long (((M.1 65 0 0 l1.toNatClampNeg)).toInt64)]) C (c_X10_of l2 2 M) dX10_isWrong_48 u_1304 in_50 (contW_50 g _ _ _ _ _) rfl u_1305 u_74 mi_X10_of (by decide) rfl rfl (Nat.le_of_ble_eq_true rfl) (xk1 hm (by decide)) (xn1 hm (by decide)) (fun v15 h16 => ?_)
          refine r_i2l C dX10_isWrong_51 ?_
          refine r_aload_n C 0 dX10_isWrong_52 rfl rfl ?_
          refine r_iload_n C 2 dX10_isWrong_53 rfl rfl ?_
          refine r_iconst (v := 2) C dX10_isWrong_54 (by decide) ?_
          refine r_callVRi (rest := [.long ((v15).toInt64), .long (((M.1 65 0 0 l1.toNatClampNeg)).toInt64)]) C (c_X10_of l2 2 M) dX10_isWrong_55 u_1304 in_50 (contW_50 g _ _ _ _ _) rfl u_1305 u_74 mi_X10_of (by decide) rfl rfl (Nat.le_of_ble_eq_true rfl) (xk1 hm (by decide)) (xn1 hm (by decide)) (fun v17 h18 => ?_)
          refine r_aload_n C 0 dX10_isWrong_58 rfl rfl ?_
          refine r_iload_n C 2 dX10_isWrong_59 rfl rfl ?_
          refine r_iconst (v := 4) C dX10_isWrong_60 (by decide) ?_
          refine r_callVRi (rest := [.int v17, .long ((v15).toInt64), .long (((M.1 65 0 0 l1.toNatClampNeg)).toInt64)]) C (c_X10_of l2 4 M) dX10_isWrong_61 u_1304 in_50 (contW_50 g _ _ _ _ _) rfl u_1305 u_74 mi_X10_of (by decide) rfl rfl (Nat.le_of_ble_eq_true rfl) (xk1 hm (by decide)) (xn1 hm (by decide)) (fun v19 h20 => ?_)
          refine r_iadd C dX10_isWrong_64 ?_
          refine r_iconst (v := 1) C dX10_isWrong_65 (by decide) ?_
          refine r_isub C dX10_isWrong_66 ?_
          refine r_i2l C dX10_isWrong_67 ?_
          refine r_callSRi (rest := []) C (c_X10_in (((M.1 65 0 0 l1.toNatClampNeg)).toInt64) ((v15).toInt64) ((((v17 + v19) - 1)).toInt64) M) dX10_isWrong_68 u_1174 u_1175 mi_X10_in (by decide) rfl rfl (Nat.le_of_ble_eq_true rfl) (xk1 hm (by decide)) (xn1 hm (by decide)) (fun v21 h22 => ?_)
          refine r_if_eq (tgt := 76) C dX10_isWrong_71 (by decide) (fun h23 => ?_) (fun h23 => ?_)
          · refine r_iinc (c := 1) (lv' := fun v24 => [(2, .int v24), (0, .ref (gA g 50 0 0)), (1, .int l1)]) C 2 dX10_isWrong_76 rfl (by decide) (by decide) (fun _ => rfl) (fun v24 => ?_)
            refine r_goto (tgt := 2) C dX10_isWrong_79 (by decide) ?_
            refine r_lv [1, 2, 0] rfl ?_
            exact hk2 v24
          · refine r_iconst (v := 1) C dX10_isWrong_74 (by decide) ?_
            exact r_zretc C dX10_isWrong_75 rfl bz1 rfl (xk0 hm) (xn0 hm)
        · refine r_iinc (c := 1) (lv' := fun v13 => [(2, .int v13), (0, .ref (gA g 50 0 0)), (1, .int l1)]) C 2 dX10_isWrong_76 rfl (by decide) (by decide) (fun _ => rfl) (fun v13 => ?_)
          refine r_goto (tgt := 2) C dX10_isWrong_79 (by decide) ?_
          refine r_lv [1, 2, 0] rfl ?_
          exact hk2 v13
      · refine r_iinc (c := 1) (lv' := fun v9 => [(2, .int v9), (0, .ref (gA g 50 0 0)), (1, .int l1)]) C 2 dX10_isWrong_76 rfl (by decide) (by decide) (fun _ => rfl) (fun v9 => ?_)
        refine r_goto (tgt := 2) C dX10_isWrong_79 (by decide) ?_
        refine r_lv [1, 2, 0] rfl ?_
        exact hk2 v9
set_option maxRecDepth 100000 in
set_option maxHeartbeats 4000000 in
theorem tl_X10_isWrong_2 {g : Gw} {x : Xw} (C : Cw g x cX10_isWrong RX10 3 (some .boolean) 3) (hm : x.2.2.2.2.2.2.2.2.2.2.2 = (0, 0)) (M : Mw) (l1 : Int32) (n : Nat) : ∀ (l2 : Int32), Sw g x (fun v : Int32 => (some (.int v), M)) M 0 0 2 [(0, .ref (gA g 50 0 0)), (1, .int l1), (2, .int l2)] [] (it (fun _ => none) (B_X10_isWrong_2 l1 M) n l2) := by
  induction n with
  | zero =>
    intro l2
    exact r_none
  | succ n ih =>
    intro l2
    exact t_X10_isWrong_2 C hm M l1 _ ih l2
set_option maxRecDepth 100000 in
set_option maxHeartbeats 4000000 in
theorem c_X10_isWrong {g : Gw} {l : Launch} (p1 : Int32) (M : Mw) : Kw g l yX10_isWrong cX10_isWrong 3 (some .boolean) 3 0 0 [.ref (gA g 50 0 0), .int p1] M (fun v : Int32 => (some (.int v), M)) (F_X10_isWrong p1 M) := by
  refine Kw.of (own := RX10) (lv0 := [(0, .ref (gA g 50 0 0)), (1, .int p1)]) (by decide +kernel) rfl (Nat.le_of_ble_eq_true rfl) rfl (fun x C hl hm => ?_)
  subst hl
  unfold F_X10_isWrong
  refine r_iconst (v := 0) C dX10_isWrong_0 (by decide) ?_
  refine r_istore_n0 (lv' := [(2, .int 0), (0, .ref (gA g 50 0 0)), (1, .int p1)]) C dX10_isWrong_1 rfl (by decide) rfl ?_
  refine r_lv [1, 2, 0] rfl ?_
  exact tl_X10_isWrong_2 C hm M p1 FU 0
def F_X10_openOf (p1 : Int32) (M : Mw) : Option (Int32) :=
  (if p1 = (M.1 50 0 0 24) then some (M.1 50 0 0 25) else ((F_X10_toldOf p1 2 M).bind (fun v2 => some v2)))
set_option maxRecDepth 100000 in
set_option maxHeartbeats 4000000 in
theorem c_X10_openOf {g : Gw} {l : Launch} (p1 : Int32) (M : Mw) : Kw g l yX10_openOf cX10_openOf 2 (some .int) 2 0 0 [.ref (gA g 50 0 0), .int p1] M (fun v : Int32 => (some (.int v), M)) (F_X10_openOf p1 M) := by
  refine Kw.of (own := RX10) (lv0 := [(0, .ref (gA g 50 0 0)), (1, .int p1)]) (by decide +kernel) rfl (Nat.le_of_ble_eq_true rfl) rfl (fun x C hl hm => ?_)
  subst hl
  unfold F_X10_openOf
  refine r_iload_n C 1 dX10_openOf_0 rfl rfl ?_
  refine r_aload_n C 0 dX10_openOf_1 rfl rfl ?_
  refine gf_50_24 C dX10_openOf_2 u_1129 in_50 ?_
  refine r_icmp_ne (tgt := 15) C dX10_openOf_5 (by decide) (fun h1 => ?_) (fun h1 => ?_)
  · refine r_aload_n C 0 dX10_openOf_8 rfl rfl ?_
    refine gf_50_25 C dX10_openOf_9 u_1130 in_50 ?_
    refine r_goto (tgt := 21) C dX10_openOf_12 (by decide) ?_
    exact r_iret C dX10_openOf_21 rfl rfl (xk0 hm) (xn0 hm)
  · refine r_aload_n C 0 dX10_openOf_15 rfl rfl ?_
    refine r_iload_n C 1 dX10_openOf_16 rfl rfl ?_
    refine r_iconst (v := 2) C dX10_openOf_17 (by decide) ?_
    refine r_callVRi (rest := []) C (c_X10_toldOf p1 2 M) dX10_openOf_18 u_1270 in_50 (contW_50 g _ _ _ _ _) rfl u_1271 u_67 mi_X10_toldOf (by decide) rfl rfl (Nat.le_of_ble_eq_true rfl) (xk1 hm (by decide)) (xn1 hm (by decide)) (fun v2 h3 => ?_)
    exact r_iret C dX10_openOf_21 rfl rfl (xk0 hm) (xn0 hm)
def F_X10_records (p1 : Int32) (p2 : Int32) (p3 : Int32) (p4 : Int32) (M : Mw) : Option (Mw) :=
  (if inb (M.1 50 0 0 56) 4000 then (bd (uIw M 88 0 0 (M.1 50 0 0 56).toNatClampNeg p1) (fun M1 => (if inb (M1.1 50 0 0 56) 4000 then (bd (uIw M1 89 0 0 (M1.1 50 0 0 56).toNatClampNeg p2) (fun M3 => (if inb (M3.1 50 0 0 56) 4000 then (bd (uIw M3 90 0 0 (M3.1 50 0 0 56).toNatClampNeg p3) (fun M5 => (if inb (M5.1 50 0 0 56) 4000 then (bd (uIw M5 91 0 0 (M5.1 50 0 0 56).toNatClampNeg p4) (fun M7 => (bd (uIw M7 50 0 0 56 ((M7.1 50 0 0 56) + 1)) (fun M9 => some M9)))) else none))) else none))) else none))) else none)
set_option maxRecDepth 100000 in
set_option maxHeartbeats 4000000 in
theorem c_X10_records {g : Gw} {l : Launch} (p1 : Int32) (p2 : Int32) (p3 : Int32) (p4 : Int32) (M : Mw) : Kw g l yX10_records cX10_records 5 none 1 0 0 [.ref (gA g 50 0 0), .int p1, .int p2, .int p3, .int p4] M (fun M : Mw => (none, M)) (F_X10_records p1 p2 p3 p4 M) := by
  refine Kw.of (own := RX10) (lv0 := [(0, .ref (gA g 50 0 0)), (1, .int p1), (2, .int p2), (3, .int p3), (4, .int p4)]) (by decide +kernel) rfl (Nat.le_of_ble_eq_true rfl) rfl (fun x C hl hm => ?_)
  subst hl
  unfold F_X10_records
  refine r_aload_n C 0 dX10_records_0 rfl rfl ?_
  refine gf_50_52 C dX10_records_1 u_1157 in_50 ?_
  refine r_aload_n C 0 dX10_records_4 rfl rfl ?_
  refine gf_50_56 C dX10_records_5 u_1161 in_50 ?_
  refine r_iload_n C 1 dX10_records_8 rfl rfl ?_
  refine r_iast C dX10_records_9 in_88 (contW_88 g _ _) (fun M1 h2 => ?_)
  refine r_aload_n C 0 dX10_records_10 rfl rfl ?_
  refine gf_50_53 C dX10_records_11 u_1158 in_50 ?_
  refine r_aload_n C 0 dX10_records_14 rfl rfl ?_
  refine gf_50_56 C dX10_records_15 u_1161 in_50 ?_
  refine r_iload_n C 2 dX10_records_18 rfl rfl ?_
  refine r_iast C dX10_records_19 in_89 (contW_89 g _ _) (fun M3 h4 => ?_)
  refine r_aload_n C 0 dX10_records_20 rfl rfl ?_
  refine gf_50_54 C dX10_records_21 u_1159 in_50 ?_
  refine r_aload_n C 0 dX10_records_24 rfl rfl ?_
  refine gf_50_56 C dX10_records_25 u_1161 in_50 ?_
  refine r_iload_n C 3 dX10_records_28 rfl rfl ?_
  refine r_iast C dX10_records_29 in_90 (contW_90 g _ _) (fun M5 h6 => ?_)
  refine r_aload_n C 0 dX10_records_30 rfl rfl ?_
  refine gf_50_55 C dX10_records_31 u_1160 in_50 ?_
  refine r_aload_n C 0 dX10_records_34 rfl rfl ?_
  refine gf_50_56 C dX10_records_35 u_1161 in_50 ?_
  refine r_iload C 4 dX10_records_38 rfl ?_
  refine r_iast C dX10_records_40 in_91 (contW_91 g _ _) (fun M7 h8 => ?_)
  refine r_aload_n C 0 dX10_records_41 rfl rfl ?_
  refine r_dup C rfl dX10_records_42 ?_
  refine gf_50_56 C dX10_records_43 u_1161 in_50 ?_
  refine r_iconst (v := 1) C dX10_records_46 (by decide) ?_
  refine r_iadd C dX10_records_47 ?_
  refine pf_50_56 C dX10_records_48 u_1161 in_50 (fun M9 => ?_)
  exact r_vret C dX10_records_51 rfl rfl (xk0 hm) (xn0 hm)
def F_X10_restarts (p1 : Int32) (p2 : Int32) (M : Mw) : Option (Mw) :=
  (if inb p1 5 then (bd (uIw M 65 0 0 p1.toNatClampNeg (-1)) (fun M1 => ((F_X10_period p1 M1).bind (fun v3 => (if v3 = 0 then none else ((F_X10_period p1 M1).bind (fun v6 => (if inb p1 5 then (bd (uIw M1 64 0 0 p1.toNatClampNeg (((p2 / v3) + 1) * v6)) (fun M8 => (if inb p1 5 then (bd (uIw M8 69 0 0 p1.toNatClampNeg 1) (fun M10 => (if inb p1 5 then (if inb p1 5 then (bd (uIw M10 70 0 0 p1.toNatClampNeg ((M10.1 64 0 0 p1.toNatClampNeg) - 1)) (fun M13 => (if inb p1 5 then (bd (uIw M13 71 0 0 p1.toNatClampNeg (vp_nar .boolean 0)) (fun M15 => some M15)) else none))) else none) else none))) else none))) else none)))))))) else none)
set_option maxRecDepth 100000 in
set_option maxHeartbeats 4000000 in
theorem c_X10_restarts {g : Gw} {l : Launch} (p1 : Int32) (p2 : Int32) (M : Mw) : Kw g l yX10_restarts cX10_restarts 3 none 3 0 0 [.ref (gA g 50 0 0), .int p1, .int p2] M (fun M : Mw => (none, M)) (F_X10_restarts p1 p2 M) := by
  refine Kw.of (own := RX10) (lv0 := [(0, .ref (gA g 50 0 0)), (1, .int p1), (2, .int p2)]) (by decide +kernel) rfl (Nat.le_of_ble_eq_true rfl) rfl (fun x C hl hm => ?_)
  subst hl
  unfold F_X10_restarts
  refine r_aload_n C 0 dX10_restarts_0 rfl rfl ?_
  refine gf_50_29 C dX10_restarts_1 u_1134 in_50 ?_
  refine r_iload_n C 1 dX10_restarts_4 rfl rfl ?_
  refine r_iconst (v := (-1)) C dX10_restarts_5 (by decide) ?_
  refine r_iast C dX10_restarts_6 in_65 (contW_65 g _ _) (fun M1 h2 => ?_)
  refine r_aload_n C 0 dX10_restarts_7 rfl rfl ?_
  refine gf_50_28 C dX10_restarts_8 u_1133 in_50 ?_
  refine r_iload_n C 1 dX10_restarts_11 rfl rfl ?_
  refine r_iload_n C 2 dX10_restarts_12 rfl rfl ?_
  refine r_aload_n C 0 dX10_restarts_13 rfl rfl ?_
  refine r_iload_n C 1 dX10_restarts_14 rfl rfl ?_
  refine r_callVRi (rest := [.int p2, .int p1, .ref (gA g 64 0 0)]) C (c_X10_period p1 M1) dX10_restarts_15 u_1332 in_50 (contW_50 g _ _ _ _ _) rfl u_1333 u_79 mi_X10_period (by decide) rfl rfl (Nat.le_of_ble_eq_true rfl) (xk1 hm (by decide)) (xn1 hm (by decide)) (fun v3 h4 => ?_)
  refine r_idiv C dX10_restarts_18 (fun h5 => ?_)
  refine r_iconst (v := 1) C dX10_restarts_19 (by decide) ?_
  refine r_iadd C dX10_restarts_20 ?_
  refine r_aload_n C 0 dX10_restarts_21 rfl rfl ?_
  refine r_iload_n C 1 dX10_restarts_22 rfl rfl ?_
  refine r_callVRi (rest := [.int ((p2 / v3) + 1), .int p1, .ref (gA g 64 0 0)]) C (c_X10_period p1 M1) dX10_restarts_23 u_1332 in_50 (contW_50 g _ _ _ _ _) rfl u_1333 u_79 mi_X10_period (by decide) rfl rfl (Nat.le_of_ble_eq_true rfl) (xk1 hm (by decide)) (xn1 hm (by decide)) (fun v6 h7 => ?_)
  refine r_imul C dX10_restarts_26 ?_
  refine r_iast C dX10_restarts_27 in_64 (contW_64 g _ _) (fun M8 h9 => ?_)
  refine r_aload_n C 0 dX10_restarts_28 rfl rfl ?_
  refine gf_50_33 C dX10_restarts_29 u_1138 in_50 ?_
  refine r_iload_n C 1 dX10_restarts_32 rfl rfl ?_
  refine r_iconst (v := 1) C dX10_restarts_33 (by decide) ?_
  refine r_iast C dX10_restarts_34 in_69 (contW_69 g _ _) (fun M10 h11 => ?_)
  refine r_aload_n C 0 dX10_restarts_35 rfl rfl ?_
  refine gf_50_34 C dX10_restarts_36 u_1139 in_50 ?_
  refine r_iload_n C 1 dX10_restarts_39 rfl rfl ?_
  refine r_aload_n C 0 dX10_restarts_40 rfl rfl ?_
  refine gf_50_28 C dX10_restarts_41 u_1133 in_50 ?_
  refine r_iload_n C 1 dX10_restarts_44 rfl rfl ?_
  refine r_iald C dX10_restarts_45 in_64 (contW_64 g _ _ _ _ _) (fun h12 => ?_)
  refine r_iconst (v := 1) C dX10_restarts_46 (by decide) ?_
  refine r_isub C dX10_restarts_47 ?_
  refine r_iast C dX10_restarts_48 in_70 (contW_70 g _ _) (fun M13 h14 => ?_)
  refine r_aload_n C 0 dX10_restarts_49 rfl rfl ?_
  refine gf_50_35 C dX10_restarts_50 u_1140 in_50 ?_
  refine r_iload_n C 1 dX10_restarts_53 rfl rfl ?_
  refine r_iconst (v := 0) C dX10_restarts_54 (by decide) ?_
  refine r_zast C dX10_restarts_55 in_71 (contW_71 g _ _) (fun M15 h16 => ?_)
  exact r_vret C dX10_restarts_56 rfl rfl (xk0 hm) (xn0 hm)
def B_X10_isUnder_24 (l2 : Int32) (l3 : Int32) (M : Mw) : Option (Int32) :=
  (if l3 = l2 then some 1 else some 0)
def B_X10_isUnder_2 (l2 : Int32) (M : Mw) (k2 : Int32 → Option (Int32)) (l3 : Int32) : Option (Int32) :=
  (if l3 = l2 then (B_X10_isUnder_24 l2 l3 M) else (if l3 ≤ 0 then (B_X10_isUnder_24 l2 l3 M) else (if inb (8 + l3) 201 then (bd (M.1 51 0 0 (8 + l3).toNatClampNeg) (fun v5 => (k2 v5))) else none)))
def F_X10_isUnder (p1 : Int32) (p2 : Int32) (M : Mw) : Option (Int32) :=
  (it (fun _ => none) (B_X10_isUnder_2 p2 M) FU p1)
set_option maxRecDepth 100000 in
set_option maxHeartbeats 4000000 in
theorem t_X10_isUnder_24 {g : Gw} {x : Xw} (C : Cw g x cX10_isUnder RX10 4 (some .boolean) 1) (hm : x.2.2.2.2.2.2.2.2.2.2.2 = (0, 0)) (M : Mw) (l2 : Int32) (l3 : Int32) : Sw g x (fun v : Int32 => (some (.int v), M)) M 0 0 24 [(2, .int l2), (3, .int l3)] [] (B_X10_isUnder_24 l2 l3 M) := by
  unfold B_X10_isUnder_24
  refine r_iload_n C 1 dX10_isUnder_24 rfl rfl ?_
  refine r_iload_n C 0 dX10_isUnder_25 rfl rfl ?_
  refine r_icmp_ne (tgt := 33) C dX10_isUnder_26 (by decide) (fun h2 => ?_) (fun h2 => ?_)
  · refine r_iconst (v := 1) C dX10_isUnder_29 (by decide) ?_
    refine r_goto (tgt := 34) C dX10_isUnder_30 (by decide) ?_
    exact r_zretc C dX10_isUnder_34 rfl bz1 rfl (xk0 hm) (xn0 hm)
  · refine r_iconst (v := 0) C dX10_isUnder_33 (by decide) ?_
    exact r_zretc C dX10_isUnder_34 rfl bz0 rfl (xk0 hm) (xn0 hm)
set_option maxRecDepth 100000 in
set_option maxHeartbeats 4000000 in
theorem t_X10_isUnder_2 {g : Gw} {x : Xw} (C : Cw g x cX10_isUnder RX10 4 (some .boolean) 1) (hm : x.2.2.2.2.2.2.2.2.2.2.2 = (0, 0)) (M : Mw) (l2 : Int32) (k2 : Int32 → Option (Int32)) (hk2 : ∀ (l3 : Int32), Sw g x (fun v : Int32 => (some (.int v), M)) M 0 0 2 [(0, .ref (gA g 50 0 0)), (2, .int l2), (3, .int l3)] [] (k2 l3)) (l3 : Int32) : Sw g x (fun v : Int32 => (some (.int v), M)) M 0 0 2 [(0, .ref (gA g 50 0 0)), (2, .int l2), (3, .int l3)] [] (B_X10_isUnder_2 l2 M k2 l3) := by
  unfold B_X10_isUnder_2
  refine r_iload_n C 2 dX10_isUnder_2 rfl rfl ?_
  refine r_iload_n C 1 dX10_isUnder_3 rfl rfl ?_
  refine r_icmp_eq (tgt := 24) C dX10_isUnder_4 (by decide) (fun h1 => ?_) (fun h1 => ?_)
  · refine r_lv [1, 2] rfl ?_
    exact t_X10_isUnder_24 C hm M l2 l3
  · refine r_iload_n C 2 dX10_isUnder_7 rfl rfl ?_
    refine r_if_le (tgt := 24) C dX10_isUnder_8 (by decide) (fun h3 => ?_) (fun h3 => ?_)
    · refine r_lv [1, 2] rfl ?_
      exact t_X10_isUnder_24 C hm M l2 l3
    · refine r_aload_n C 0 dX10_isUnder_11 rfl rfl ?_
      refine gf_50_1 C dX10_isUnder_12 u_1106 in_50 ?_
      refine r_bipush (v := 8) C dX10_isUnder_15 (by decide) ?_
      refine r_iload_n C 2 dX10_isUnder_17 rfl rfl ?_
      refine r_iadd C dX10_isUnder_18 ?_
      refine r_iald C dX10_isUnder_19 in_51 (contW_51 g _ _ _ _ _) (fun h4 => ?_)
      refine r_istore_n (lv' := fun v5 => [(3, .int v5), (0, .ref (gA g 50 0 0)), (2, .int l2)]) C dX10_isUnder_20 rfl (by decide) (fun _ => rfl) (fun v5 => ?_)
      refine r_goto (tgt := 2) C dX10_isUnder_21 (by decide) ?_
      refine r_lv [1, 2, 0] rfl ?_
      exact hk2 v5
set_option maxRecDepth 100000 in
set_option maxHeartbeats 4000000 in
theorem tl_X10_isUnder_2 {g : Gw} {x : Xw} (C : Cw g x cX10_isUnder RX10 4 (some .boolean) 1) (hm : x.2.2.2.2.2.2.2.2.2.2.2 = (0, 0)) (M : Mw) (l2 : Int32) (n : Nat) : ∀ (l3 : Int32), Sw g x (fun v : Int32 => (some (.int v), M)) M 0 0 2 [(0, .ref (gA g 50 0 0)), (2, .int l2), (3, .int l3)] [] (it (fun _ => none) (B_X10_isUnder_2 l2 M) n l3) := by
  induction n with
  | zero =>
    intro l3
    exact r_none
  | succ n ih =>
    intro l3
    exact t_X10_isUnder_2 C hm M l2 _ ih l3
set_option maxRecDepth 100000 in
set_option maxHeartbeats 4000000 in
theorem c_X10_isUnder {g : Gw} {l : Launch} (p1 : Int32) (p2 : Int32) (M : Mw) : Kw g l yX10_isUnder cX10_isUnder 4 (some .boolean) 1 0 0 [.ref (gA g 50 0 0), .int p1, .int p2] M (fun v : Int32 => (some (.int v), M)) (F_X10_isUnder p1 p2 M) := by
  refine Kw.of (own := RX10) (lv0 := [(0, .ref (gA g 50 0 0)), (1, .int p1), (2, .int p2)]) (by decide +kernel) rfl (Nat.le_of_ble_eq_true rfl) rfl (fun x C hl hm => ?_)
  subst hl
  unfold F_X10_isUnder
  refine r_iload_n C 1 dX10_isUnder_0 rfl rfl ?_
  refine r_istore_n0 (lv' := [(3, .int p1), (0, .ref (gA g 50 0 0)), (1, .int p1), (2, .int p2)]) C dX10_isUnder_1 rfl (by decide) rfl ?_
  refine r_lv [1, 3, 0] rfl ?_
  exact tl_X10_isUnder_2 C hm M p2 FU p1
def B_X10_wakes_2 (l1 : Int32) (l2 : Int32) (k2 : Int32 → Mw → Option (Mw)) (l3 : Int32) (M : Mw) : Option (Mw) :=
  ((F_X10_injections M).bind (fun v1 => (if v1 ≤ l3 then some M else ((F_X10_of l3 0 M).bind (fun v4 => (if v4 = 5 then ((F_X10_of l3 1 M).bind (fun v8 => (if v8 = l1 then ((F_X10_of l3 2 M).bind (fun v12 => (if l2 < v12 then (bd (l3 + 1) (fun v15 => (k2 v15 M))) else (if inb l3 19 then (bd (uIw M 84 0 0 l3.toNatClampNeg (vp_nar .boolean 1)) (fun M16 => (bd (l3 + 1) (fun v18 => (k2 v18 M16))))) else none)))) else (bd (l3 + 1) (fun v11 => (k2 v11 M)))))) else (bd (l3 + 1) (fun v7 => (k2 v7 M)))))))))
def F_X10_wakes (p1 : Int32) (p2 : Int32) (M : Mw) : Option (Mw) :=
  (it (fun _ _ => none) (B_X10_wakes_2 p1 p2) FU 0 M)
set_option maxRecDepth 100000 in
set_option maxHeartbeats 4000000 in
theorem t_X10_wakes_2 {g : Gw} {x : Xw} (C : Cw g x cX10_wakes RX10 4 none 3) (hm : x.2.2.2.2.2.2.2.2.2.2.2 = (0, 0)) (l1 : Int32) (l2 : Int32) (k2 : Int32 → Mw → Option (Mw)) (hk2 : ∀ (l3 : Int32) (M : Mw), Sw g x (fun M : Mw => (none, M)) M 0 0 2 [(0, .ref (gA g 50 0 0)), (1, .int l1), (2, .int l2), (3, .int l3)] [] (k2 l3 M)) (l3 : Int32) (M : Mw) : Sw g x (fun M : Mw => (none, M)) M 0 0 2 [(0, .ref (gA g 50 0 0)), (1, .int l1), (2, .int l2), (3, .int l3)] [] (B_X10_wakes_2 l1 l2 k2 l3 M) := by
  unfold B_X10_wakes_2
  refine r_iload_n C 3 dX10_wakes_2 rfl rfl ?_
  refine r_aload_n C 0 dX10_wakes_3 rfl rfl ?_
  refine r_callVRi (rest := [.int l3]) C (c_X10_injections M) dX10_wakes_4 u_1439 in_50 (contW_50 g _ _ _ _ _) rfl u_1440 u_96 mi_X10_injections (by decide) rfl rfl (Nat.le_of_ble_eq_true rfl) (xk1 hm (by decide)) (xn1 hm (by decide)) (fun v1 h2 => ?_)
  refine r_icmp_ge (tgt := 53) C dX10_wakes_7 (by decide) (fun h3 => ?_) (fun h3 => ?_)
  · exact r_vret C dX10_wakes_53 rfl rfl (xk0 hm) (xn0 hm)
  · refine r_aload_n C 0 dX10_wakes_10 rfl rfl ?_
    refine r_iload_n C 3 dX10_wakes_11 rfl rfl ?_
    refine r_iconst (v := 0) C dX10_wakes_12 (by decide) ?_
    refine r_callVRi (rest := []) C (c_X10_of l3 0 M) dX10_wakes_13 u_1304 in_50 (contW_50 g _ _ _ _ _) rfl u_1305 u_74 mi_X10_of (by decide) rfl rfl (Nat.le_of_ble_eq_true rfl) (xk1 hm (by decide)) (xn1 hm (by decide)) (fun v4 h5 => ?_)
    refine r_iconst (v := 5) C dX10_wakes_16 (by decide) ?_
    refine r_icmp_ne (tgt := 47) C dX10_wakes_17 (by decide) (fun h6 => ?_) (fun h6 => ?_)
    · refine r_aload_n C 0 dX10_wakes_20 rfl rfl ?_
      refine r_iload_n C 3 dX10_wakes_21 rfl rfl ?_
      refine r_iconst (v := 1) C dX10_wakes_22 (by decide) ?_
      refine r_callVRi (rest := []) C (c_X10_of l3 1 M) dX10_wakes_23 u_1304 in_50 (contW_50 g _ _ _ _ _) rfl u_1305 u_74 mi_X10_of (by decide) rfl rfl (Nat.le_of_ble_eq_true rfl) (xk1 hm (by decide)) (xn1 hm (by decide)) (fun v8 h9 => ?_)
      refine r_iload_n C 1 dX10_wakes_26 rfl rfl ?_
      refine r_icmp_ne (tgt := 47) C dX10_wakes_27 (by decide) (fun h10 => ?_) (fun h10 => ?_)
      · refine r_aload_n C 0 dX10_wakes_30 rfl rfl ?_
        refine r_iload_n C 3 dX10_wakes_31 rfl rfl ?_
        refine r_iconst (v := 2) C dX10_wakes_32 (by decide) ?_
        refine r_callVRi (rest := []) C (c_X10_of l3 2 M) dX10_wakes_33 u_1304 in_50 (contW_50 g _ _ _ _ _) rfl u_1305 u_74 mi_X10_of (by decide) rfl rfl (Nat.le_of_ble_eq_true rfl) (xk1 hm (by decide)) (xn1 hm (by decide)) (fun v12 h13 => ?_)
        refine r_iload_n C 2 dX10_wakes_36 rfl rfl ?_
        refine r_icmp_gt (tgt := 47) C dX10_wakes_37 (by decide) (fun h14 => ?_) (fun h14 => ?_)
        · refine r_iinc (c := 1) (lv' := fun v15 => [(3, .int v15), (0, .ref (gA g 50 0 0)), (1, .int l1), (2, .int l2)]) C 3 dX10_wakes_47 rfl (by decide) (by decide) (fun _ => rfl) (fun v15 => ?_)
          refine r_goto (tgt := 2) C dX10_wakes_50 (by decide) ?_
          refine r_lv [1, 2, 3, 0] rfl ?_
          exact hk2 v15 M
        · refine r_aload_n C 0 dX10_wakes_40 rfl rfl ?_
          refine gf_50_48 C dX10_wakes_41 u_1153 in_50 ?_
          refine r_iload_n C 3 dX10_wakes_44 rfl rfl ?_
          refine r_iconst (v := 1) C dX10_wakes_45 (by decide) ?_
          refine r_zast C dX10_wakes_46 in_84 (contW_84 g _ _) (fun M16 h17 => ?_)
          refine r_iinc (c := 1) (lv' := fun v18 => [(3, .int v18), (0, .ref (gA g 50 0 0)), (1, .int l1), (2, .int l2)]) C 3 dX10_wakes_47 rfl (by decide) (by decide) (fun _ => rfl) (fun v18 => ?_)
          refine r_goto (tgt := 2) C dX10_wakes_50 (by decide) ?_
          refine r_lv [1, 2, 3, 0] rfl ?_
          exact hk2 v18 M16
      · refine r_iinc (c := 1) (lv' := fun v11 => [(3, .int v11), (0, .ref (gA g 50 0 0)), (1, .int l1), (2, .int l2)]) C 3 dX10_wakes_47 rfl (by decide) (by decide) (fun _ => rfl) (fun v11 => ?_)
        refine r_goto (tgt := 2) C dX10_wakes_50 (by decide) ?_
        refine r_lv [1, 2, 3, 0] rfl ?_
        exact hk2 v11 M
    · refine r_iinc (c := 1) (lv' := fun v7 => [(3, .int v7), (0, .ref (gA g 50 0 0)), (1, .int l1), (2, .int l2)]) C 3 dX10_wakes_47 rfl (by decide) (by decide) (fun _ => rfl) (fun v7 => ?_)
      refine r_goto (tgt := 2) C dX10_wakes_50 (by decide) ?_
      refine r_lv [1, 2, 3, 0] rfl ?_
      exact hk2 v7 M
set_option maxRecDepth 100000 in
set_option maxHeartbeats 4000000 in
theorem tl_X10_wakes_2 {g : Gw} {x : Xw} (C : Cw g x cX10_wakes RX10 4 none 3) (hm : x.2.2.2.2.2.2.2.2.2.2.2 = (0, 0)) (l1 : Int32) (l2 : Int32) (n : Nat) : ∀ (l3 : Int32) (M : Mw), Sw g x (fun M : Mw => (none, M)) M 0 0 2 [(0, .ref (gA g 50 0 0)), (1, .int l1), (2, .int l2), (3, .int l3)] [] (it (fun _ _ => none) (B_X10_wakes_2 l1 l2) n l3 M) := by
  induction n with
  | zero =>
    intro l3 M
    exact r_none
  | succ n ih =>
    intro l3 M
    exact t_X10_wakes_2 C hm l1 l2 _ ih l3 M
set_option maxRecDepth 100000 in
set_option maxHeartbeats 4000000 in
theorem c_X10_wakes {g : Gw} {l : Launch} (p1 : Int32) (p2 : Int32) (M : Mw) : Kw g l yX10_wakes cX10_wakes 4 none 3 0 0 [.ref (gA g 50 0 0), .int p1, .int p2] M (fun M : Mw => (none, M)) (F_X10_wakes p1 p2 M) := by
  refine Kw.of (own := RX10) (lv0 := [(0, .ref (gA g 50 0 0)), (1, .int p1), (2, .int p2)]) (by decide +kernel) rfl (Nat.le_of_ble_eq_true rfl) rfl (fun x C hl hm => ?_)
  subst hl
  unfold F_X10_wakes
  refine r_iconst (v := 0) C dX10_wakes_0 (by decide) ?_
  refine r_istore_n0 (lv' := [(3, .int 0), (0, .ref (gA g 50 0 0)), (1, .int p1), (2, .int p2)]) C dX10_wakes_1 rfl (by decide) rfl ?_
  refine r_lv [1, 2, 3, 0] rfl ?_
  exact tl_X10_wakes_2 C hm p1 p2 FU 0 M
def B_X10_resets_40 (l1 : Int32) (l2 : Int32) (k40 : Int32 → Mw → Option (Mw)) (l3 : Int32) (M : Mw) : Option (Mw) :=
  (if (M.1 51 0 0 3) ≤ l3 then some M else ((F_X10_isUnder l3 l1 M).bind (fun v3 => (if v3 = 0 then (bd (l3 + 1) (fun v6 => (k40 v6 M))) else ((F_X10_wakes l3 l2 M).bind (fun M7 => (bd (l3 + 1) (fun v9 => (k40 v9 M7)))))))))
def B_X10_resets_2 (l1 : Int32) (l2 : Int32) (k2 : Int32 → Mw → Option (Mw)) (l3 : Int32) (M : Mw) : Option (Mw) :=
  (if (M.1 51 0 0 4) ≤ l3 then (it (fun _ _ => none) (B_X10_resets_40 l1 l2) FU 0 M) else ((F_X10_toldOf l3 0 M).bind (fun v10 => ((F_X10_isUnder v10 l1 M).bind (fun v12 => (if v12 = 0 then (bd (l3 + 1) (fun v15 => (k2 v15 M))) else ((F_X10_restarts l3 l2 M).bind (fun M16 => (bd (l3 + 1) (fun v18 => (k2 v18 M16)))))))))))
def F_X10_resets (p1 : Int32) (p2 : Int32) (M : Mw) : Option (Mw) :=
  (it (fun _ _ => none) (B_X10_resets_2 p1 p2) FU 0 M)
set_option maxRecDepth 100000 in
set_option maxHeartbeats 4000000 in
theorem t_X10_resets_40 {g : Gw} {x : Xw} (C : Cw g x cX10_resets RX10 4 none 4) (hm : x.2.2.2.2.2.2.2.2.2.2.2 = (0, 0)) (l1 : Int32) (l2 : Int32) (k40 : Int32 → Mw → Option (Mw)) (hk40 : ∀ (l3 : Int32) (M : Mw), Sw g x (fun M : Mw => (none, M)) M 0 0 40 [(0, .ref (gA g 50 0 0)), (1, .int l1), (2, .int l2), (3, .int l3)] [] (k40 l3 M)) (l3 : Int32) (M : Mw) : Sw g x (fun M : Mw => (none, M)) M 0 0 40 [(0, .ref (gA g 50 0 0)), (1, .int l1), (2, .int l2), (3, .int l3)] [] (B_X10_resets_40 l1 l2 k40 l3 M) := by
  unfold B_X10_resets_40
  refine r_iload_n C 3 dX10_resets_40 rfl rfl ?_
  refine r_aload_n C 0 dX10_resets_41 rfl rfl ?_
  refine gf_50_1 C dX10_resets_42 u_1106 in_50 ?_
  refine r_iconst (v := 3) C dX10_resets_45 (by decide) ?_
  refine r_ialdc C dX10_resets_46 in_51 (contW_51 g _ _ _ _ _) (by decide) (j := 3) (by decide) ?_
  refine r_icmp_ge (tgt := 71) C dX10_resets_47 (by decide) (fun h2 => ?_) (fun h2 => ?_)
  · exact r_vret C dX10_resets_71 rfl rfl (xk0 hm) (xn0 hm)
  · refine r_aload_n C 0 dX10_resets_50 rfl rfl ?_
    refine r_iload_n C 3 dX10_resets_51 rfl rfl ?_
    refine r_iload_n C 1 dX10_resets_52 rfl rfl ?_
    refine r_callVRi (rest := []) C (c_X10_isUnder l3 l1 M) dX10_resets_53 u_1470 in_50 (contW_50 g _ _ _ _ _) rfl u_1471 u_106 mi_X10_isUnder (by decide) rfl rfl (Nat.le_of_ble_eq_true rfl) (xk1 hm (by decide)) (xn1 hm (by decide)) (fun v3 h4 => ?_)
    refine r_if_eq (tgt := 65) C dX10_resets_56 (by decide) (fun h5 => ?_) (fun h5 => ?_)
    · refine r_iinc (c := 1) (lv' := fun v6 => [(3, .int v6), (0, .ref (gA g 50 0 0)), (1, .int l1), (2, .int l2)]) C 3 dX10_resets_65 rfl (by decide) (by decide) (fun _ => rfl) (fun v6 => ?_)
      refine r_goto (tgt := 40) C dX10_resets_68 (by decide) ?_
      refine r_lv [1, 2, 3, 0] rfl ?_
      exact hk40 v6 M
    · refine r_aload_n C 0 dX10_resets_59 rfl rfl ?_
      refine r_iload_n C 3 dX10_resets_60 rfl rfl ?_
      refine r_iload_n C 2 dX10_resets_61 rfl rfl ?_
      refine r_callVU (rest := []) C (c_X10_wakes l3 l2 M) dX10_resets_62 u_1473 in_50 (contW_50 g _ _ _ _ _) rfl u_1474 u_107 mi_X10_wakes (by decide) rfl rfl (Nat.le_of_ble_eq_true rfl) (xk1 hm (by decide)) (xn1 hm (by decide)) (fun M7 h8 => ?_)
      refine r_iinc (c := 1) (lv' := fun v9 => [(3, .int v9), (0, .ref (gA g 50 0 0)), (1, .int l1), (2, .int l2)]) C 3 dX10_resets_65 rfl (by decide) (by decide) (fun _ => rfl) (fun v9 => ?_)
      refine r_goto (tgt := 40) C dX10_resets_68 (by decide) ?_
      refine r_lv [1, 2, 3, 0] rfl ?_
      exact hk40 v9 M7
set_option maxRecDepth 100000 in
set_option maxHeartbeats 4000000 in
theorem tl_X10_resets_40 {g : Gw} {x : Xw} (C : Cw g x cX10_resets RX10 4 none 4) (hm : x.2.2.2.2.2.2.2.2.2.2.2 = (0, 0)) (l1 : Int32) (l2 : Int32) (n : Nat) : ∀ (l3 : Int32) (M : Mw), Sw g x (fun M : Mw => (none, M)) M 0 0 40 [(0, .ref (gA g 50 0 0)), (1, .int l1), (2, .int l2), (3, .int l3)] [] (it (fun _ _ => none) (B_X10_resets_40 l1 l2) n l3 M) := by
  induction n with
  | zero =>
    intro l3 M
    exact r_none
  | succ n ih =>
    intro l3 M
    exact t_X10_resets_40 C hm l1 l2 _ ih l3 M
set_option maxRecDepth 100000 in
set_option maxHeartbeats 4000000 in
theorem t_X10_resets_2 {g : Gw} {x : Xw} (C : Cw g x cX10_resets RX10 4 none 4) (hm : x.2.2.2.2.2.2.2.2.2.2.2 = (0, 0)) (l1 : Int32) (l2 : Int32) (k2 : Int32 → Mw → Option (Mw)) (hk2 : ∀ (l3 : Int32) (M : Mw), Sw g x (fun M : Mw => (none, M)) M 0 0 2 [(0, .ref (gA g 50 0 0)), (1, .int l1), (2, .int l2), (3, .int l3)] [] (k2 l3 M)) (l3 : Int32) (M : Mw) : Sw g x (fun M : Mw => (none, M)) M 0 0 2 [(0, .ref (gA g 50 0 0)), (1, .int l1), (2, .int l2), (3, .int l3)] [] (B_X10_resets_2 l1 l2 k2 l3 M) := by
  unfold B_X10_resets_2
  refine r_iload_n C 3 dX10_resets_2 rfl rfl ?_
  refine r_aload_n C 0 dX10_resets_3 rfl rfl ?_
  refine gf_50_1 C dX10_resets_4 u_1106 in_50 ?_
  refine r_iconst (v := 4) C dX10_resets_7 (by decide) ?_
  refine r_ialdc C dX10_resets_8 in_51 (contW_51 g _ _ _ _ _) (by decide) (j := 4) (by decide) ?_
  refine r_icmp_ge (tgt := 38) C dX10_resets_9 (by decide) (fun h1 => ?_) (fun h1 => ?_)
  · refine r_iconst (v := 0) C dX10_resets_38 (by decide) ?_
    refine r_istore_n0 (lv' := [(3, .int 0), (0, .ref (gA g 50 0 0)), (1, .int l1), (2, .int l2)]) C dX10_resets_39 rfl (by decide) rfl ?_
    refine r_lv [1, 2, 3, 0] rfl ?_
    exact tl_X10_resets_40 C hm l1 l2 FU 0 M
  · refine r_aload_n C 0 dX10_resets_12 rfl rfl ?_
    refine r_aload_n C 0 dX10_resets_13 rfl rfl ?_
    refine r_iload_n C 3 dX10_resets_14 rfl rfl ?_
    refine r_iconst (v := 0) C dX10_resets_15 (by decide) ?_
    refine r_callVRi (rest := [.ref (gA g 50 0 0)]) C (c_X10_toldOf l3 0 M) dX10_resets_16 u_1270 in_50 (contW_50 g _ _ _ _ _) rfl u_1271 u_67 mi_X10_toldOf (by decide) rfl rfl (Nat.le_of_ble_eq_true rfl) (xk1 hm (by decide)) (xn1 hm (by decide)) (fun v10 h11 => ?_)
    refine r_iload_n C 1 dX10_resets_19 rfl rfl ?_
    refine r_callVRi (rest := []) C (c_X10_isUnder v10 l1 M) dX10_resets_20 u_1470 in_50 (contW_50 g _ _ _ _ _) rfl u_1471 u_106 mi_X10_isUnder (by decide) rfl rfl (Nat.le_of_ble_eq_true rfl) (xk1 hm (by decide)) (xn1 hm (by decide)) (fun v12 h13 => ?_)
    refine r_if_eq (tgt := 32) C dX10_resets_23 (by decide) (fun h14 => ?_) (fun h14 => ?_)
    · refine r_iinc (c := 1) (lv' := fun v15 => [(3, .int v15), (0, .ref (gA g 50 0 0)), (1, .int l1), (2, .int l2)]) C 3 dX10_resets_32 rfl (by decide) (by decide) (fun _ => rfl) (fun v15 => ?_)
      refine r_goto (tgt := 2) C dX10_resets_35 (by decide) ?_
      refine r_lv [1, 2, 3, 0] rfl ?_
      exact hk2 v15 M
    · refine r_aload_n C 0 dX10_resets_26 rfl rfl ?_
      refine r_iload_n C 3 dX10_resets_27 rfl rfl ?_
      refine r_iload_n C 2 dX10_resets_28 rfl rfl ?_
      refine r_callVU (rest := []) C (c_X10_restarts l3 l2 M) dX10_resets_29 u_1464 in_50 (contW_50 g _ _ _ _ _) rfl u_1465 u_104 mi_X10_restarts (by decide) rfl rfl (Nat.le_of_ble_eq_true rfl) (xk1 hm (by decide)) (xn1 hm (by decide)) (fun M16 h17 => ?_)
      refine r_iinc (c := 1) (lv' := fun v18 => [(3, .int v18), (0, .ref (gA g 50 0 0)), (1, .int l1), (2, .int l2)]) C 3 dX10_resets_32 rfl (by decide) (by decide) (fun _ => rfl) (fun v18 => ?_)
      refine r_goto (tgt := 2) C dX10_resets_35 (by decide) ?_
      refine r_lv [1, 2, 3, 0] rfl ?_
      exact hk2 v18 M16
set_option maxRecDepth 100000 in
set_option maxHeartbeats 4000000 in
theorem tl_X10_resets_2 {g : Gw} {x : Xw} (C : Cw g x cX10_resets RX10 4 none 4) (hm : x.2.2.2.2.2.2.2.2.2.2.2 = (0, 0)) (l1 : Int32) (l2 : Int32) (n : Nat) : ∀ (l3 : Int32) (M : Mw), Sw g x (fun M : Mw => (none, M)) M 0 0 2 [(0, .ref (gA g 50 0 0)), (1, .int l1), (2, .int l2), (3, .int l3)] [] (it (fun _ _ => none) (B_X10_resets_2 l1 l2) n l3 M) := by
  induction n with
  | zero =>
    intro l3 M
    exact r_none
  | succ n ih =>
    intro l3 M
    exact t_X10_resets_2 C hm l1 l2 _ ih l3 M
set_option maxRecDepth 100000 in
set_option maxHeartbeats 4000000 in
theorem c_X10_resets {g : Gw} {l : Launch} (p1 : Int32) (p2 : Int32) (M : Mw) : Kw g l yX10_resets cX10_resets 4 none 4 0 0 [.ref (gA g 50 0 0), .int p1, .int p2] M (fun M : Mw => (none, M)) (F_X10_resets p1 p2 M) := by
  refine Kw.of (own := RX10) (lv0 := [(0, .ref (gA g 50 0 0)), (1, .int p1), (2, .int p2)]) (by decide +kernel) rfl (Nat.le_of_ble_eq_true rfl) rfl (fun x C hl hm => ?_)
  subst hl
  unfold F_X10_resets
  refine r_iconst (v := 0) C dX10_resets_0 (by decide) ?_
  refine r_istore_n0 (lv' := [(3, .int 0), (0, .ref (gA g 50 0 0)), (1, .int p1), (2, .int p2)]) C dX10_resets_1 rfl (by decide) rfl ?_
  refine r_lv [1, 2, 3, 0] rfl ?_
  exact tl_X10_resets_2 C hm p1 p2 FU 0 M
def B_X10_climbs_104 (l4 : Int32) (k104 : Int32 → Mw → Option (Mw)) (l5 : Int32) (M : Mw) : Option (Mw) :=
  (if (M.1 51 0 0 3) ≤ l5 then (bd (uIw M 50 0 0 58 1) (fun M7 => (bd (uIw M7 50 0 0 57 ((M7.1 50 0 0 57) + 1)) (fun M8 => (if (M8.1 50 0 0 57) = 3 then (bd (uIw M8 50 0 0 59 l4) (fun M10 => some M10)) else some M8))))) else ((F_X10_wakes l5 l4 M).bind (fun M11 => (bd (l5 + 1) (fun v13 => (k104 v13 M11))))))
def B_X10_climbs_76 (l4 : Int32) (k76 : Int32 → Mw → Option (Mw)) (l5 : Int32) (M : Mw) : Option (Mw) :=
  (if (M.1 51 0 0 4) ≤ l5 then (it (fun _ _ => none) (B_X10_climbs_104 l4) FU 0 M) else ((F_X10_restarts l5 l4 M).bind (fun M14 => (bd (l5 + 1) (fun v16 => (k76 v16 M14))))))
def B_X10_climbs_67 (l1 : Int32) (l4 : Int32) (M : Mw) : Option (Mw) :=
  (if 3 ≤ l1 then (it (fun _ _ => none) (B_X10_climbs_76 l4) FU 0 M) else some M)
def B_X10_climbs_55 (l1 : Int32) (l3 : Int32) (l4 : Int32) (M : Mw) : Option (Mw) :=
  (if l1 = 2 then ((F_X10_resets l3 l4 M).bind (fun M17 => (B_X10_climbs_67 l1 l4 M17))) else (B_X10_climbs_67 l1 l4 M))
def B_X10_climbs_19 (l1 : Int32) (l3 : Int32) (l4 : Int32) (k19 : Int32 → Mw → Option (Mw)) (l5 : Int32) (M : Mw) : Option (Mw) :=
  (if (M.1 51 0 0 4) ≤ l5 then (B_X10_climbs_55 l1 l3 l4 M) else ((F_X10_toldOf l5 0 M).bind (fun v20 => (if v20 = l3 then ((F_X10_restarts l5 l4 M).bind (fun M24 => (bd (l5 + 1) (fun v26 => (k19 v26 M24))))) else (bd (l5 + 1) (fun v23 => (k19 v23 M)))))))
def B_X10_climbs_11 (l1 : Int32) (l3 : Int32) (l4 : Int32) (M : Mw) : Option (Mw) :=
  (if l1 = 1 then (it (fun _ _ => none) (B_X10_climbs_19 l1 l3 l4) FU 0 M) else (B_X10_climbs_55 l1 l3 l4 M))
def F_X10_climbs (p1 : Int32) (p2 : Int32) (p3 : Int32) (p4 : Int32) (M : Mw) : Option (Mw) :=
  (if p1 = 0 then ((F_X10_restarts p2 p4 M).bind (fun M27 => (B_X10_climbs_11 p1 p3 p4 M27))) else (B_X10_climbs_11 p1 p3 p4 M))
set_option maxRecDepth 100000 in
set_option maxHeartbeats 4000000 in
theorem t_X10_climbs_104 {g : Gw} {x : Xw} (C : Cw g x cX10_climbs RX10 6 none 5) (hm : x.2.2.2.2.2.2.2.2.2.2.2 = (0, 0)) (l4 : Int32) (k104 : Int32 → Mw → Option (Mw)) (hk104 : ∀ (l5 : Int32) (M : Mw), Sw g x (fun M : Mw => (none, M)) M 0 0 104 [(0, .ref (gA g 50 0 0)), (4, .int l4), (5, .int l5)] [] (k104 l5 M)) (l5 : Int32) (M : Mw) : Sw g x (fun M : Mw => (none, M)) M 0 0 104 [(0, .ref (gA g 50 0 0)), (4, .int l4), (5, .int l5)] [] (B_X10_climbs_104 l4 k104 l5 M) := by
  unfold B_X10_climbs_104
  refine r_iload C 2 dX10_climbs_104 rfl ?_
  refine r_aload_n C 0 dX10_climbs_106 rfl rfl ?_
  refine gf_50_1 C dX10_climbs_107 u_1106 in_50 ?_
  refine r_iconst (v := 3) C dX10_climbs_110 (by decide) ?_
  refine r_ialdc C dX10_climbs_111 in_51 (contW_51 g _ _ _ _ _) (by decide) (j := 3) (by decide) ?_
  refine r_icmp_ge (tgt := 129) C dX10_climbs_112 (by decide) (fun h6 => ?_) (fun h6 => ?_)
  · refine r_aload_n C 0 dX10_climbs_129 rfl rfl ?_
    refine r_iconst (v := 1) C dX10_climbs_130 (by decide) ?_
    refine pc_50_58 C dX10_climbs_131 u_1163 in_50 (by decide) (fun M7 => ?_)
    refine r_aload_n C 0 dX10_climbs_134 rfl rfl ?_
    refine r_dup C rfl dX10_climbs_135 ?_
    refine gf_50_57 C dX10_climbs_136 u_1162 in_50 ?_
    refine r_iconst (v := 1) C dX10_climbs_139 (by decide) ?_
    refine r_iadd C dX10_climbs_140 ?_
    refine pf_50_57 C dX10_climbs_141 u_1162 in_50 (fun M8 => ?_)
    refine r_aload_n C 0 dX10_climbs_144 rfl rfl ?_
    refine gf_50_57 C dX10_climbs_145 u_1162 in_50 ?_
    refine r_iconst (v := 3) C dX10_climbs_148 (by decide) ?_
    refine r_icmp_ne (tgt := 158) C dX10_climbs_149 (by decide) (fun h9 => ?_) (fun h9 => ?_)
    · refine r_aload_n C 0 dX10_climbs_152 rfl rfl ?_
      refine r_iload C 1 dX10_climbs_153 rfl ?_
      refine pf_50_59 C dX10_climbs_155 u_1164 in_50 (fun M10 => ?_)
      exact r_vret C dX10_climbs_158 rfl rfl (xk0 hm) (xn0 hm)
    · exact r_vret C dX10_climbs_158 rfl rfl (xk0 hm) (xn0 hm)
  · refine r_aload_n C 0 dX10_climbs_115 rfl rfl ?_
    refine r_iload C 2 dX10_climbs_116 rfl ?_
    refine r_iload C 1 dX10_climbs_118 rfl ?_
    refine r_callVU (rest := []) C (c_X10_wakes l5 l4 M) dX10_climbs_120 u_1473 in_50 (contW_50 g _ _ _ _ _) rfl u_1474 u_107 mi_X10_wakes (by decide) rfl rfl (Nat.le_of_ble_eq_true rfl) (xk1 hm (by decide)) (xn1 hm (by decide)) (fun M11 h12 => ?_)
    refine r_iinc (c := 1) (lv' := fun v13 => [(5, .int v13), (0, .ref (gA g 50 0 0)), (4, .int l4)]) C 2 dX10_climbs_123 rfl (by decide) (by decide) (fun _ => rfl) (fun v13 => ?_)
    refine r_goto (tgt := 104) C dX10_climbs_126 (by decide) ?_
    refine r_lv [1, 2, 0] rfl ?_
    exact hk104 v13 M11
set_option maxRecDepth 100000 in
set_option maxHeartbeats 4000000 in
theorem tl_X10_climbs_104 {g : Gw} {x : Xw} (C : Cw g x cX10_climbs RX10 6 none 5) (hm : x.2.2.2.2.2.2.2.2.2.2.2 = (0, 0)) (l4 : Int32) (n : Nat) : ∀ (l5 : Int32) (M : Mw), Sw g x (fun M : Mw => (none, M)) M 0 0 104 [(0, .ref (gA g 50 0 0)), (4, .int l4), (5, .int l5)] [] (it (fun _ _ => none) (B_X10_climbs_104 l4) n l5 M) := by
  induction n with
  | zero =>
    intro l5 M
    exact r_none
  | succ n ih =>
    intro l5 M
    exact t_X10_climbs_104 C hm l4 _ ih l5 M
set_option maxRecDepth 100000 in
set_option maxHeartbeats 4000000 in
theorem t_X10_climbs_76 {g : Gw} {x : Xw} (C : Cw g x cX10_climbs RX10 6 none 5) (hm : x.2.2.2.2.2.2.2.2.2.2.2 = (0, 0)) (l4 : Int32) (k76 : Int32 → Mw → Option (Mw)) (hk76 : ∀ (l5 : Int32) (M : Mw), Sw g x (fun M : Mw => (none, M)) M 0 0 76 [(0, .ref (gA g 50 0 0)), (4, .int l4), (5, .int l5)] [] (k76 l5 M)) (l5 : Int32) (M : Mw) : Sw g x (fun M : Mw => (none, M)) M 0 0 76 [(0, .ref (gA g 50 0 0)), (4, .int l4), (5, .int l5)] [] (B_X10_climbs_76 l4 k76 l5 M) := by
  unfold B_X10_climbs_76
  refine r_iload C 2 dX10_climbs_76 rfl ?_
  refine r_aload_n C 0 dX10_climbs_78 rfl rfl ?_
  refine gf_50_1 C dX10_climbs_79 u_1106 in_50 ?_
  refine r_iconst (v := 4) C dX10_climbs_82 (by decide) ?_
  refine r_ialdc C dX10_climbs_83 in_51 (contW_51 g _ _ _ _ _) (by decide) (j := 4) (by decide) ?_
  refine r_icmp_ge (tgt := 101) C dX10_climbs_84 (by decide) (fun h5 => ?_) (fun h5 => ?_)
  · refine r_iconst (v := 0) C dX10_climbs_101 (by decide) ?_
    refine r_istore0 (lv' := [(5, .int 0), (0, .ref (gA g 50 0 0)), (4, .int l4)]) C dX10_climbs_102 (by decide) rfl ?_
    refine r_lv [1, 2, 0] rfl ?_
    exact tl_X10_climbs_104 C hm l4 FU 0 M
  · refine r_aload_n C 0 dX10_climbs_87 rfl rfl ?_
    refine r_iload C 2 dX10_climbs_88 rfl ?_
    refine r_iload C 1 dX10_climbs_90 rfl ?_
    refine r_callVU (rest := []) C (c_X10_restarts l5 l4 M) dX10_climbs_92 u_1464 in_50 (contW_50 g _ _ _ _ _) rfl u_1465 u_104 mi_X10_restarts (by decide) rfl rfl (Nat.le_of_ble_eq_true rfl) (xk1 hm (by decide)) (xn1 hm (by decide)) (fun M14 h15 => ?_)
    refine r_iinc (c := 1) (lv' := fun v16 => [(5, .int v16), (0, .ref (gA g 50 0 0)), (4, .int l4)]) C 2 dX10_climbs_95 rfl (by decide) (by decide) (fun _ => rfl) (fun v16 => ?_)
    refine r_goto (tgt := 76) C dX10_climbs_98 (by decide) ?_
    refine r_lv [1, 2, 0] rfl ?_
    exact hk76 v16 M14
set_option maxRecDepth 100000 in
set_option maxHeartbeats 4000000 in
theorem tl_X10_climbs_76 {g : Gw} {x : Xw} (C : Cw g x cX10_climbs RX10 6 none 5) (hm : x.2.2.2.2.2.2.2.2.2.2.2 = (0, 0)) (l4 : Int32) (n : Nat) : ∀ (l5 : Int32) (M : Mw), Sw g x (fun M : Mw => (none, M)) M 0 0 76 [(0, .ref (gA g 50 0 0)), (4, .int l4), (5, .int l5)] [] (it (fun _ _ => none) (B_X10_climbs_76 l4) n l5 M) := by
  induction n with
  | zero =>
    intro l5 M
    exact r_none
  | succ n ih =>
    intro l5 M
    exact t_X10_climbs_76 C hm l4 _ ih l5 M
set_option maxRecDepth 100000 in
set_option maxHeartbeats 4000000 in
theorem t_X10_climbs_67 {g : Gw} {x : Xw} (C : Cw g x cX10_climbs RX10 6 none 5) (hm : x.2.2.2.2.2.2.2.2.2.2.2 = (0, 0)) (l1 : Int32) (l4 : Int32) (M : Mw) : Sw g x (fun M : Mw => (none, M)) M 0 0 67 [(0, .ref (gA g 50 0 0)), (1, .int l1), (4, .int l4)] [] (B_X10_climbs_67 l1 l4 M) := by
  unfold B_X10_climbs_67
  refine r_iload_n C 1 dX10_climbs_67 rfl rfl ?_
  refine r_iconst (v := 3) C dX10_climbs_68 (by decide) ?_
  refine r_icmp_ge (tgt := 73) C dX10_climbs_69 (by decide) (fun h4 => ?_) (fun h4 => ?_)
  · refine r_iconst (v := 0) C dX10_climbs_73 (by decide) ?_
    refine r_istore0 (lv' := [(5, .int 0), (0, .ref (gA g 50 0 0)), (1, .int l1), (4, .int l4)]) C dX10_climbs_74 (by decide) rfl ?_
    refine r_lv [1, 3, 0] rfl ?_
    exact tl_X10_climbs_76 C hm l4 FU 0 M
  · exact r_vret C dX10_climbs_72 rfl rfl (xk0 hm) (xn0 hm)
set_option maxRecDepth 100000 in
set_option maxHeartbeats 4000000 in
theorem t_X10_climbs_55 {g : Gw} {x : Xw} (C : Cw g x cX10_climbs RX10 6 none 5) (hm : x.2.2.2.2.2.2.2.2.2.2.2 = (0, 0)) (l1 : Int32) (l3 : Int32) (l4 : Int32) (M : Mw) : Sw g x (fun M : Mw => (none, M)) M 0 0 55 [(0, .ref (gA g 50 0 0)), (1, .int l1), (3, .int l3), (4, .int l4)] [] (B_X10_climbs_55 l1 l3 l4 M) := by
  unfold B_X10_climbs_55
  refine r_iload_n C 1 dX10_climbs_55 rfl rfl ?_
  refine r_iconst (v := 2) C dX10_climbs_56 (by decide) ?_
  refine r_icmp_ne (tgt := 67) C dX10_climbs_57 (by decide) (fun h3 => ?_) (fun h3 => ?_)
  · refine r_aload_n C 0 dX10_climbs_60 rfl rfl ?_
    refine r_iload_n C 2 dX10_climbs_61 rfl rfl ?_
    refine r_iload C 3 dX10_climbs_62 rfl ?_
    refine r_callVU (rest := []) C (c_X10_resets l3 l4 M) dX10_climbs_64 u_1467 in_50 (contW_50 g _ _ _ _ _) rfl u_1468 u_105 mi_X10_resets (by decide) rfl rfl (Nat.le_of_ble_eq_true rfl) (xk1 hm (by decide)) (xn1 hm (by decide)) (fun M17 h18 => ?_)
    refine r_lv [0, 1, 3] rfl ?_
    exact t_X10_climbs_67 C hm l1 l4 M17
  · refine r_lv [0, 1, 3] rfl ?_
    exact t_X10_climbs_67 C hm l1 l4 M
set_option maxRecDepth 100000 in
set_option maxHeartbeats 4000000 in
theorem t_X10_climbs_19 {g : Gw} {x : Xw} (C : Cw g x cX10_climbs RX10 6 none 5) (hm : x.2.2.2.2.2.2.2.2.2.2.2 = (0, 0)) (l1 : Int32) (l3 : Int32) (l4 : Int32) (k19 : Int32 → Mw → Option (Mw)) (hk19 : ∀ (l5 : Int32) (M : Mw), Sw g x (fun M : Mw => (none, M)) M 0 0 19 [(0, .ref (gA g 50 0 0)), (1, .int l1), (3, .int l3), (4, .int l4), (5, .int l5)] [] (k19 l5 M)) (l5 : Int32) (M : Mw) : Sw g x (fun M : Mw => (none, M)) M 0 0 19 [(0, .ref (gA g 50 0 0)), (1, .int l1), (3, .int l3), (4, .int l4), (5, .int l5)] [] (B_X10_climbs_19 l1 l3 l4 k19 l5 M) := by
  unfold B_X10_climbs_19
  refine r_iload C 4 dX10_climbs_19 rfl ?_
  refine r_aload_n C 0 dX10_climbs_21 rfl rfl ?_
  refine gf_50_1 C dX10_climbs_22 u_1106 in_50 ?_
  refine r_iconst (v := 4) C dX10_climbs_25 (by decide) ?_
  refine r_ialdc C dX10_climbs_26 in_51 (contW_51 g _ _ _ _ _) (by decide) (j := 4) (by decide) ?_
  refine r_icmp_ge (tgt := 55) C dX10_climbs_27 (by decide) (fun h19 => ?_) (fun h19 => ?_)
  · refine r_lv [0, 1, 2, 3] rfl ?_
    exact t_X10_climbs_55 C hm l1 l3 l4 M
  · refine r_aload_n C 0 dX10_climbs_30 rfl rfl ?_
    refine r_iload C 4 dX10_climbs_31 rfl ?_
    refine r_iconst (v := 0) C dX10_climbs_33 (by decide) ?_
    refine r_callVRi (rest := []) C (c_X10_toldOf l5 0 M) dX10_climbs_34 u_1270 in_50 (contW_50 g _ _ _ _ _) rfl u_1271 u_67 mi_X10_toldOf (by decide) rfl rfl (Nat.le_of_ble_eq_true rfl) (xk1 hm (by decide)) (xn1 hm (by decide)) (fun v20 h21 => ?_)
    refine r_iload_n C 2 dX10_climbs_37 rfl rfl ?_
    refine r_icmp_ne (tgt := 49) C dX10_climbs_38 (by decide) (fun h22 => ?_) (fun h22 => ?_)
    · refine r_aload_n C 0 dX10_climbs_41 rfl rfl ?_
      refine r_iload C 4 dX10_climbs_42 rfl ?_
      refine r_iload C 3 dX10_climbs_44 rfl ?_
      refine r_callVU (rest := []) C (c_X10_restarts l5 l4 M) dX10_climbs_46 u_1464 in_50 (contW_50 g _ _ _ _ _) rfl u_1465 u_104 mi_X10_restarts (by decide) rfl rfl (Nat.le_of_ble_eq_true rfl) (xk1 hm (by decide)) (xn1 hm (by decide)) (fun M24 h25 => ?_)
      refine r_iinc (c := 1) (lv' := fun v26 => [(5, .int v26), (0, .ref (gA g 50 0 0)), (1, .int l1), (3, .int l3), (4, .int l4)]) C 4 dX10_climbs_49 rfl (by decide) (by decide) (fun _ => rfl) (fun v26 => ?_)
      refine r_goto (tgt := 19) C dX10_climbs_52 (by decide) ?_
      refine r_lv [1, 2, 3, 4, 0] rfl ?_
      exact hk19 v26 M24
    · refine r_iinc (c := 1) (lv' := fun v23 => [(5, .int v23), (0, .ref (gA g 50 0 0)), (1, .int l1), (3, .int l3), (4, .int l4)]) C 4 dX10_climbs_49 rfl (by decide) (by decide) (fun _ => rfl) (fun v23 => ?_)
      refine r_goto (tgt := 19) C dX10_climbs_52 (by decide) ?_
      refine r_lv [1, 2, 3, 4, 0] rfl ?_
      exact hk19 v23 M
set_option maxRecDepth 100000 in
set_option maxHeartbeats 4000000 in
theorem tl_X10_climbs_19 {g : Gw} {x : Xw} (C : Cw g x cX10_climbs RX10 6 none 5) (hm : x.2.2.2.2.2.2.2.2.2.2.2 = (0, 0)) (l1 : Int32) (l3 : Int32) (l4 : Int32) (n : Nat) : ∀ (l5 : Int32) (M : Mw), Sw g x (fun M : Mw => (none, M)) M 0 0 19 [(0, .ref (gA g 50 0 0)), (1, .int l1), (3, .int l3), (4, .int l4), (5, .int l5)] [] (it (fun _ _ => none) (B_X10_climbs_19 l1 l3 l4) n l5 M) := by
  induction n with
  | zero =>
    intro l5 M
    exact r_none
  | succ n ih =>
    intro l5 M
    exact t_X10_climbs_19 C hm l1 l3 l4 _ ih l5 M
set_option maxRecDepth 100000 in
set_option maxHeartbeats 4000000 in
theorem t_X10_climbs_11 {g : Gw} {x : Xw} (C : Cw g x cX10_climbs RX10 6 none 5) (hm : x.2.2.2.2.2.2.2.2.2.2.2 = (0, 0)) (l1 : Int32) (l3 : Int32) (l4 : Int32) (M : Mw) : Sw g x (fun M : Mw => (none, M)) M 0 0 11 [(0, .ref (gA g 50 0 0)), (1, .int l1), (3, .int l3), (4, .int l4)] [] (B_X10_climbs_11 l1 l3 l4 M) := by
  unfold B_X10_climbs_11
  refine r_iload_n C 1 dX10_climbs_11 rfl rfl ?_
  refine r_iconst (v := 1) C dX10_climbs_12 (by decide) ?_
  refine r_icmp_ne (tgt := 55) C dX10_climbs_13 (by decide) (fun h2 => ?_) (fun h2 => ?_)
  · refine r_iconst (v := 0) C dX10_climbs_16 (by decide) ?_
    refine r_istore0 (lv' := [(5, .int 0), (0, .ref (gA g 50 0 0)), (1, .int l1), (3, .int l3), (4, .int l4)]) C dX10_climbs_17 (by decide) rfl ?_
    refine r_lv [1, 2, 3, 4, 0] rfl ?_
    exact tl_X10_climbs_19 C hm l1 l3 l4 FU 0 M
  · exact t_X10_climbs_55 C hm l1 l3 l4 M
set_option maxRecDepth 100000 in
set_option maxHeartbeats 4000000 in
theorem c_X10_climbs {g : Gw} {l : Launch} (p1 : Int32) (p2 : Int32) (p3 : Int32) (p4 : Int32) (M : Mw) : Kw g l yX10_climbs cX10_climbs 6 none 5 0 0 [.ref (gA g 50 0 0), .int p1, .int p2, .int p3, .int p4] M (fun M : Mw => (none, M)) (F_X10_climbs p1 p2 p3 p4 M) := by
  refine Kw.of (own := RX10) (lv0 := [(0, .ref (gA g 50 0 0)), (1, .int p1), (2, .int p2), (3, .int p3), (4, .int p4)]) (by decide +kernel) rfl (Nat.le_of_ble_eq_true rfl) rfl (fun x C hl hm => ?_)
  subst hl
  unfold F_X10_climbs
  refine r_iload_n C 1 dX10_climbs_0 rfl rfl ?_
  refine r_if_ne (tgt := 11) C dX10_climbs_1 (by decide) (fun h1 => ?_) (fun h1 => ?_)
  · refine r_aload_n C 0 dX10_climbs_4 rfl rfl ?_
    refine r_iload_n C 2 dX10_climbs_5 rfl rfl ?_
    refine r_iload C 4 dX10_climbs_6 rfl ?_
    refine r_callVU (rest := []) C (c_X10_restarts p2 p4 M) dX10_climbs_8 u_1464 in_50 (contW_50 g _ _ _ _ _) rfl u_1465 u_104 mi_X10_restarts (by decide) rfl rfl (Nat.le_of_ble_eq_true rfl) (xk1 hm (by decide)) (xn1 hm (by decide)) (fun M27 h28 => ?_)
    refine r_lv [0, 1, 3, 4] rfl ?_
    exact t_X10_climbs_11 C hm p1 p3 p4 M27
  · refine r_lv [0, 1, 3, 4] rfl ?_
    exact t_X10_climbs_11 C hm p1 p3 p4 M
def B_X10_faultOf_73 (l1 : Int32) (l2 : Int32) (l3 : Int32) (s0 : Int32) (s1 : Int32) (s2 : Int32) (M : Mw) : Option (Mw) :=
  (bd (if (s1 + s0) < s2 then (s1 + s0) else s2) (fun v14 => ((F_X10_records l3 l2 l1 v14 M).bind (fun M15 => ((F_X10_toldOf l1 0 M15).bind (fun v17 => ((F_X10_climbs v14 l1 v17 l3 M15).bind (fun M19 => some M19))))))))
def F_X10_faultOf (p1 : Int32) (p2 : Int32) (p3 : Int32) (M : Mw) : Option (Mw) :=
  (if inb p1 5 then (if inb p1 5 then (bd (uIw M 73 0 0 p1.toNatClampNeg ((M.1 73 0 0 p1.toNatClampNeg) + 1)) (fun M2 => (if inb p1 5 then (if nf (FP.fdiv (M2.2.1 74 0 0 p1.toNatClampNeg) FP.fconst2) then (if inb p1 5 then (bd (uFw M2 74 0 0 p1.toNatClampNeg (FP.fdiv (M2.2.1 74 0 0 p1.toNatClampNeg) FP.fconst2)) (fun M5 => (if inb p1 5 then (bd (uIw M5 75 0 0 p1.toNatClampNeg 0) (fun M7 => (if inb p1 5 then (bd (uIw M7 76 0 0 p1.toNatClampNeg (vp_nar .boolean 1)) (fun M9 => (if inb p1 5 then (if inb p1 5 then (if nf (FP.fdiv (FP.i2f (M9.1 51 0 0 2)) 1092616192) then (if 0 ≤ (Op.cmpValue (FP.fcmp (M9.2.1 74 0 0 p1.toNatClampNeg) (FP.fdiv (FP.i2f (M9.1 51 0 0 2)) 1092616192)) .g) then (B_X10_faultOf_73 p1 p2 p3 0 ((M9.1 73 0 0 p1.toNatClampNeg) - 1) 3 M9) else (B_X10_faultOf_73 p1 p2 p3 1 ((M9.1 73 0 0 p1.toNatClampNeg) - 1) 3 M9)) else none) else none) else none))) else none))) else none))) else none) else none) else none))) else none) else none)
set_option maxRecDepth 100000 in
set_option maxHeartbeats 4000000 in
theorem t_X10_faultOf_73 {g : Gw} {x : Xw} (C : Cw g x cX10_faultOf RX10 5 none 6) (hm : x.2.2.2.2.2.2.2.2.2.2.2 = (0, 0)) (l1 : Int32) (l2 : Int32) (l3 : Int32) (s0 : Int32) (s1 : Int32) (s2 : Int32) (M : Mw) : Sw g x (fun M : Mw => (none, M)) M 0 0 73 [(0, .ref (gA g 50 0 0)), (1, .int l1), (2, .int l2), (3, .int l3)] [.int s0, .int s1, .int s2] (B_X10_faultOf_73 l1 l2 l3 s0 s1 s2 M) := by
  unfold B_X10_faultOf_73
  refine r_iadd C dX10_faultOf_73 ?_
  refine r_mmin C u_1208 u_539 u_140 u_540 dX10_faultOf_74 (by decide) (Nat.le_of_ble_eq_true rfl) (xk1 hm (by decide)) (xn1 hm (by decide)) ?_
  refine r_istore (lv' := fun v14 => [(4, .int v14), (0, .ref (gA g 50 0 0)), (1, .int l1), (2, .int l2), (3, .int l3)]) C dX10_faultOf_77 (by decide) (fun _ => rfl) (fun v14 => ?_)
  refine r_aload_n C 1 dX10_faultOf_79 rfl rfl ?_
  refine r_iload_n C 4 dX10_faultOf_80 rfl rfl ?_
  refine r_iload_n C 3 dX10_faultOf_81 rfl rfl ?_
  refine r_iload_n C 2 dX10_faultOf_82 rfl rfl ?_
  refine r_iload C 0 dX10_faultOf_83 rfl ?_
  refine r_callVU (rest := []) C (c_X10_records l3 l2 l1 v14 M) dX10_faultOf_85 u_1458 in_50 (contW_50 g _ _ _ _ _) rfl u_1459 u_102 mi_X10_records (by decide) rfl rfl (Nat.le_of_ble_eq_true rfl) (xk1 hm (by decide)) (xn1 hm (by decide)) (fun M15 h16 => ?_)
  refine r_aload_n C 1 dX10_faultOf_88 rfl rfl ?_
  refine r_iload C 0 dX10_faultOf_89 rfl ?_
  refine r_iload_n C 2 dX10_faultOf_91 rfl rfl ?_
  refine r_aload_n C 1 dX10_faultOf_92 rfl rfl ?_
  refine r_iload_n C 2 dX10_faultOf_93 rfl rfl ?_
  refine r_iconst (v := 0) C dX10_faultOf_94 (by decide) ?_
  refine r_callVRi (rest := [.int l1, .int v14, .ref (gA g 50 0 0)]) C (c_X10_toldOf l1 0 M15) dX10_faultOf_95 u_1270 in_50 (contW_50 g _ _ _ _ _) rfl u_1271 u_67 mi_X10_toldOf (by decide) rfl rfl (Nat.le_of_ble_eq_true rfl) (xk1 hm (by decide)) (xn1 hm (by decide)) (fun v17 h18 => ?_)
  refine r_iload_n C 4 dX10_faultOf_98 rfl rfl ?_
  refine r_callVU (rest := []) C (c_X10_climbs v14 l1 v17 l3 M15) dX10_faultOf_99 u_1461 in_50 (contW_50 g _ _ _ _ _) rfl u_1462 u_103 mi_X10_climbs (by decide) rfl rfl (Nat.le_of_ble_eq_true rfl) (xk1 hm (by decide)) (xn1 hm (by decide)) (fun M19 h20 => ?_)
  exact r_vret C dX10_faultOf_102 rfl rfl (xk0 hm) (xn0 hm)
set_option maxRecDepth 100000 in
set_option maxHeartbeats 4000000 in
theorem c_X10_faultOf {g : Gw} {l : Launch} (p1 : Int32) (p2 : Int32) (p3 : Int32) (M : Mw) : Kw g l yX10_faultOf cX10_faultOf 5 none 6 0 0 [.ref (gA g 50 0 0), .int p1, .int p2, .int p3] M (fun M : Mw => (none, M)) (F_X10_faultOf p1 p2 p3 M) := by
  refine Kw.of (own := RX10) (lv0 := [(0, .ref (gA g 50 0 0)), (1, .int p1), (2, .int p2), (3, .int p3)]) (by decide +kernel) rfl (Nat.le_of_ble_eq_true rfl) rfl (fun x C hl hm => ?_)
  subst hl
  unfold F_X10_faultOf
  refine r_aload_n C 0 dX10_faultOf_0 rfl rfl ?_
  refine gf_50_37 C dX10_faultOf_1 u_1142 in_50 ?_
  refine r_iload_n C 1 dX10_faultOf_4 rfl rfl ?_
  refine r_dup2 C rfl rfl dX10_faultOf_5 ?_
  refine r_iald C dX10_faultOf_6 in_73 (contW_73 g _ _ _ _ _) (fun h1 => ?_)
  refine r_iconst (v := 1) C dX10_faultOf_7 (by decide) ?_
  refine r_iadd C dX10_faultOf_8 ?_
  refine r_iast C dX10_faultOf_9 in_73 (contW_73 g _ _) (fun M2 h3 => ?_)
  refine r_aload_n C 0 dX10_faultOf_10 rfl rfl ?_
  refine gf_50_38 C dX10_faultOf_11 u_1143 in_50 ?_
  refine r_iload_n C 1 dX10_faultOf_14 rfl rfl ?_
  refine r_aload_n C 0 dX10_faultOf_15 rfl rfl ?_
  refine gf_50_38 C dX10_faultOf_16 u_1143 in_50 ?_
  refine r_iload_n C 1 dX10_faultOf_19 rfl rfl ?_
  refine r_fald C dX10_faultOf_20 in_74 (contW_74 g _ _ _ _ _) (fun h4 => ?_)
  refine r_fconst2 C dX10_faultOf_21 ?_
  refine r_fdiv C dX10_faultOf_22 ?_
  refine r_fast C dX10_faultOf_23 in_74 (contW_74 g _ _) (fun M5 h6 => ?_)
  refine r_aload_n C 0 dX10_faultOf_24 rfl rfl ?_
  refine gf_50_39 C dX10_faultOf_25 u_1144 in_50 ?_
  refine r_iload_n C 1 dX10_faultOf_28 rfl rfl ?_
  refine r_iconst (v := 0) C dX10_faultOf_29 (by decide) ?_
  refine r_iast C dX10_faultOf_30 in_75 (contW_75 g _ _) (fun M7 h8 => ?_)
  refine r_aload_n C 0 dX10_faultOf_31 rfl rfl ?_
  refine gf_50_40 C dX10_faultOf_32 u_1145 in_50 ?_
  refine r_iload_n C 1 dX10_faultOf_35 rfl rfl ?_
  refine r_iconst (v := 1) C dX10_faultOf_36 (by decide) ?_
  refine r_zast C dX10_faultOf_37 in_76 (contW_76 g _ _) (fun M9 h10 => ?_)
  refine r_iconst (v := 3) C dX10_faultOf_38 (by decide) ?_
  refine r_aload_n C 0 dX10_faultOf_39 rfl rfl ?_
  refine gf_50_37 C dX10_faultOf_40 u_1142 in_50 ?_
  refine r_iload_n C 1 dX10_faultOf_43 rfl rfl ?_
  refine r_iald C dX10_faultOf_44 in_73 (contW_73 g _ _ _ _ _) (fun h11 => ?_)
  refine r_iconst (v := 1) C dX10_faultOf_45 (by decide) ?_
  refine r_isub C dX10_faultOf_46 ?_
  refine r_aload_n C 0 dX10_faultOf_47 rfl rfl ?_
  refine gf_50_38 C dX10_faultOf_48 u_1143 in_50 ?_
  refine r_iload_n C 1 dX10_faultOf_51 rfl rfl ?_
  refine r_fald C dX10_faultOf_52 in_74 (contW_74 g _ _ _ _ _) (fun h12 => ?_)
  refine r_aload_n C 0 dX10_faultOf_53 rfl rfl ?_
  refine gf_50_1 C dX10_faultOf_54 u_1106 in_50 ?_
  refine r_iconst (v := 2) C dX10_faultOf_57 (by decide) ?_
  refine r_ialdc C dX10_faultOf_58 in_51 (contW_51 g _ _ _ _ _) (by decide) (j := 2) (by decide) ?_
  refine r_i2f C dX10_faultOf_59 ?_
  refine r_ldcfw (v := 1092616192) C u_1457 dX10_faultOf_60 ?_
  refine r_fdiv C dX10_faultOf_63 ?_
  refine r_fcmp C dX10_faultOf_64 ?_
  refine r_if_ge (tgt := 72) C dX10_faultOf_65 (by decide) (fun h13 => ?_) (fun h13 => ?_)
  · refine r_iconst (v := 0) C dX10_faultOf_72 (by decide) ?_
    exact t_X10_faultOf_73 C hm p1 p2 p3 0 ((M9.1 73 0 0 p1.toNatClampNeg) - 1) 3 M9
  · refine r_iconst (v := 1) C dX10_faultOf_68 (by decide) ?_
    refine r_goto (tgt := 73) C dX10_faultOf_69 (by decide) ?_
    exact t_X10_faultOf_73 C hm p1 p2 p3 1 ((M9.1 73 0 0 p1.toNatClampNeg) - 1) 3 M9
def F_X10_closeOf (p1 : Int32) (M : Mw) : Option (Int32) :=
  (if p1 = (M.1 50 0 0 24) then some (M.1 50 0 0 26) else ((F_X10_toldOf p1 3 M).bind (fun v2 => some v2)))
set_option maxRecDepth 100000 in
set_option maxHeartbeats 4000000 in
theorem c_X10_closeOf {g : Gw} {l : Launch} (p1 : Int32) (M : Mw) : Kw g l yX10_closeOf cX10_closeOf 2 (some .int) 2 0 0 [.ref (gA g 50 0 0), .int p1] M (fun v : Int32 => (some (.int v), M)) (F_X10_closeOf p1 M) := by
  refine Kw.of (own := RX10) (lv0 := [(0, .ref (gA g 50 0 0)), (1, .int p1)]) (by decide +kernel) rfl (Nat.le_of_ble_eq_true rfl) rfl (fun x C hl hm => ?_)
  subst hl
  unfold F_X10_closeOf
  refine r_iload_n C 1 dX10_closeOf_0 rfl rfl ?_
  refine r_aload_n C 0 dX10_closeOf_1 rfl rfl ?_
  refine gf_50_24 C dX10_closeOf_2 u_1129 in_50 ?_
  refine r_icmp_ne (tgt := 15) C dX10_closeOf_5 (by decide) (fun h1 => ?_) (fun h1 => ?_)
  · refine r_aload_n C 0 dX10_closeOf_8 rfl rfl ?_
    refine gf_50_26 C dX10_closeOf_9 u_1131 in_50 ?_
    refine r_goto (tgt := 21) C dX10_closeOf_12 (by decide) ?_
    exact r_iret C dX10_closeOf_21 rfl rfl (xk0 hm) (xn0 hm)
  · refine r_aload_n C 0 dX10_closeOf_15 rfl rfl ?_
    refine r_iload_n C 1 dX10_closeOf_16 rfl rfl ?_
    refine r_iconst (v := 3) C dX10_closeOf_17 (by decide) ?_
    refine r_callVRi (rest := []) C (c_X10_toldOf p1 3 M) dX10_closeOf_18 u_1270 in_50 (contW_50 g _ _ _ _ _) rfl u_1271 u_67 mi_X10_toldOf (by decide) rfl rfl (Nat.le_of_ble_eq_true rfl) (xk1 hm (by decide)) (xn1 hm (by decide)) (fun v2 h3 => ?_)
    exact r_iret C dX10_closeOf_21 rfl rfl (xk0 hm) (xn0 hm)
