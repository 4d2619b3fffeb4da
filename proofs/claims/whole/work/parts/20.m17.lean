def F_X10_isLawful (p1 : Int32) (M : Mw) : Option (Int32) :=
  ((F_X10_responseOf p1 M).bind (fun v1 => (if v1 = (-1) then some 0 else ((F_X10_toldOf p1 2 M).bind (fun v4 => ((F_X10_boundOf p1 0 M).bind (fun v6 => (if v6 < v4 then some 0 else ((F_X10_toldOf p1 3 M).bind (fun v9 => ((F_X10_boundOf p1 1 M).bind (fun v11 => (if v9 < v11 then some 0 else ((F_X10_toldOf p1 4 M).bind (fun v14 => ((F_X10_boundOf p1 2 M).bind (fun v16 => (if v16 < v14 then some 0 else ((F_X10_toldOf p1 5 M).bind (fun v19 => ((F_X10_boundOf p1 3 M).bind (fun v21 => (if v19 < v21 then some 0 else some 1)))))))))))))))))))))))
set_option maxRecDepth 100000 in
set_option maxHeartbeats 4000000 in
theorem c_X10_isLawful {g : Gw} {l : Launch} (p1 : Int32) (M : Mw) : Kw g l yX10_isLawful cX10_isLawful 2 (some .boolean) 5 0 0 [.ref (gA g 50 0 0), .int p1] M (fun v : Int32 => (some (.int v), M)) (F_X10_isLawful p1 M) := by
  refine Kw.of (own := RX10) (lv0 := [(0, .ref (gA g 50 0 0)), (1, .int p1)]) (by decide +kernel) rfl (Nat.le_of_ble_eq_true rfl) rfl (fun x C hl hm => ?_)
  subst hl
  unfold F_X10_isLawful
  refine r_aload_n C 0 dX10_isLawful_0 rfl rfl ?_
  refine r_iload_n C 1 dX10_isLawful_1 rfl rfl ?_
  refine r_callVRi (rest := []) C (c_X10_responseOf p1 M) dX10_isLawful_2 u_1329 in_50 (contW_50 g _ _ _ _ _) rfl u_1330 u_78 mi_X10_responseOf (by decide) rfl rfl (Nat.le_of_ble_eq_true rfl) (xk1 hm (by decide)) (xn1 hm (by decide)) (fun v1 h2 => ?_)
  refine r_iconst (v := (-1)) C dX10_isLawful_5 (by decide) ?_
  refine r_icmp_ne (tgt := 11) C dX10_isLawful_6 (by decide) (fun h3 => ?_) (fun h3 => ?_)
  · refine r_iconst (v := 0) C dX10_isLawful_9 (by decide) ?_
    exact r_zretc C dX10_isLawful_10 rfl bz0 rfl (xk0 hm) (xn0 hm)
  · refine r_aload_n C 0 dX10_isLawful_11 rfl rfl ?_
    refine r_iload_n C 1 dX10_isLawful_12 rfl rfl ?_
    refine r_iconst (v := 2) C dX10_isLawful_13 (by decide) ?_
    refine r_callVRi (rest := []) C (c_X10_toldOf p1 2 M) dX10_isLawful_14 u_1270 in_50 (contW_50 g _ _ _ _ _) rfl u_1271 u_67 mi_X10_toldOf (by decide) rfl rfl (Nat.le_of_ble_eq_true rfl) (xk1 hm (by decide)) (xn1 hm (by decide)) (fun v4 h5 => ?_)
    refine r_aload_n C 0 dX10_isLawful_17 rfl rfl ?_
    refine r_iload_n C 1 dX10_isLawful_18 rfl rfl ?_
    refine r_iconst (v := 0) C dX10_isLawful_19 (by decide) ?_
    refine r_callVRi (rest := [.int v4]) C (c_X10_boundOf p1 0 M) dX10_isLawful_20 u_1340 in_50 (contW_50 g _ _ _ _ _) rfl u_1341 u_80 mi_X10_boundOf (by decide) rfl rfl (Nat.le_of_ble_eq_true rfl) (xk1 hm (by decide)) (xn1 hm (by decide)) (fun v6 h7 => ?_)
    refine r_icmp_gt (tgt := 75) C dX10_isLawful_23 (by decide) (fun h8 => ?_) (fun h8 => ?_)
    · refine r_iconst (v := 0) C dX10_isLawful_75 (by decide) ?_
      exact r_zretc C dX10_isLawful_76 rfl bz0 rfl (xk0 hm) (xn0 hm)
    · refine r_aload_n C 0 dX10_isLawful_26 rfl rfl ?_
      refine r_iload_n C 1 dX10_isLawful_27 rfl rfl ?_
      refine r_iconst (v := 3) C dX10_isLawful_28 (by decide) ?_
      refine r_callVRi (rest := []) C (c_X10_toldOf p1 3 M) dX10_isLawful_29 u_1270 in_50 (contW_50 g _ _ _ _ _) rfl u_1271 u_67 mi_X10_toldOf (by decide) rfl rfl (Nat.le_of_ble_eq_true rfl) (xk1 hm (by decide)) (xn1 hm (by decide)) (fun v9 h10 => ?_)
      refine r_aload_n C 0 dX10_isLawful_32 rfl rfl ?_
      refine r_iload_n C 1 dX10_isLawful_33 rfl rfl ?_
      refine r_iconst (v := 1) C dX10_isLawful_34 (by decide) ?_
      refine r_callVRi (rest := [.int v9]) C (c_X10_boundOf p1 1 M) dX10_isLawful_35 u_1340 in_50 (contW_50 g _ _ _ _ _) rfl u_1341 u_80 mi_X10_boundOf (by decide) rfl rfl (Nat.le_of_ble_eq_true rfl) (xk1 hm (by decide)) (xn1 hm (by decide)) (fun v11 h12 => ?_)
      refine r_icmp_lt (tgt := 75) C dX10_isLawful_38 (by decide) (fun h13 => ?_) (fun h13 => ?_)
      · refine r_iconst (v := 0) C dX10_isLawful_75 (by decide) ?_
        exact r_zretc C dX10_isLawful_76 rfl bz0 rfl (xk0 hm) (xn0 hm)
      · refine r_aload_n C 0 dX10_isLawful_41 rfl rfl ?_
        refine r_iload_n C 1 dX10_isLawful_42 rfl rfl ?_
        refine r_iconst (v := 4) C dX10_isLawful_43 (by decide) ?_
        refine r_callVRi (rest := []) C (c_X10_toldOf p1 4 M) dX10_isLawful_44 u_1270 in_50 (contW_50 g _ _ _ _ _) rfl u_1271 u_67 mi_X10_toldOf (by decide) rfl rfl (Nat.le_of_ble_eq_true rfl) (xk1 hm (by decide)) (xn1 hm (by decide)) (fun v14 h15 => ?_)
        refine r_aload_n C 0 dX10_isLawful_47 rfl rfl ?_
        refine r_iload_n C 1 dX10_isLawful_48 rfl rfl ?_
        refine r_iconst (v := 2) C dX10_isLawful_49 (by decide) ?_
        refine r_callVRi (rest := [.int v14]) C (c_X10_boundOf p1 2 M) dX10_isLawful_50 u_1340 in_50 (contW_50 g _ _ _ _ _) rfl u_1341 u_80 mi_X10_boundOf (by decide) rfl rfl (Nat.le_of_ble_eq_true rfl) (xk1 hm (by decide)) (xn1 hm (by decide)) (fun v16 h17 => ?_)
        refine r_icmp_gt (tgt := 75) C dX10_isLawful_53 (by decide) (fun h18 => ?_) (fun h18 => ?_)
        · refine r_iconst (v := 0) C dX10_isLawful_75 (by decide) ?_
          exact r_zretc C dX10_isLawful_76 rfl bz0 rfl (xk0 hm) (xn0 hm)
        · refine r_aload_n C 0 dX10_isLawful_56 rfl rfl ?_
          refine r_iload_n C 1 dX10_isLawful_57 rfl rfl ?_
          refine r_iconst (v := 5) C dX10_isLawful_58 (by decide) ?_
          refine r_callVRi (rest := []) C (c_X10_toldOf p1 5 M) dX10_isLawful_59 u_1270 in_50 (contW_50 g _ _ _ _ _) rfl u_1271 u_67 mi_X10_toldOf (by decide) rfl rfl (Nat.le_of_ble_eq_true rfl) (xk1 hm (by decide)) (xn1 hm (by decide)) (fun v19 h20 => ?_)
          refine r_aload_n C 0 dX10_isLawful_62 rfl rfl ?_
          refine r_iload_n C 1 dX10_isLawful_63 rfl rfl ?_
          refine r_iconst (v := 3) C dX10_isLawful_64 (by decide) ?_
          refine r_callVRi (rest := [.int v19]) C (c_X10_boundOf p1 3 M) dX10_isLawful_65 u_1340 in_50 (contW_50 g _ _ _ _ _) rfl u_1341 u_80 mi_X10_boundOf (by decide) rfl rfl (Nat.le_of_ble_eq_true rfl) (xk1 hm (by decide)) (xn1 hm (by decide)) (fun v21 h22 => ?_)
          refine r_icmp_lt (tgt := 75) C dX10_isLawful_68 (by decide) (fun h23 => ?_) (fun h23 => ?_)
          · refine r_iconst (v := 0) C dX10_isLawful_75 (by decide) ?_
            exact r_zretc C dX10_isLawful_76 rfl bz0 rfl (xk0 hm) (xn0 hm)
          · refine r_iconst (v := 1) C dX10_isLawful_71 (by decide) ?_
            refine r_goto (tgt := 76) C dX10_isLawful_72 (by decide) ?_
            exact r_zretc C dX10_isLawful_76 rfl bz1 rfl (xk0 hm) (xn0 hm)
def B_X10_lawfulNow_4 (M : Mw) (k4 : Int32 → Int32 → Option (Int32)) (l1 : Int32) (l2 : Int32) : Option (Int32) :=
  (if (M.1 51 0 0 4) ≤ l2 then some l1 else ((F_X10_isLawful l2 M).bind (fun v2 => (if v2 = 0 then (bd (l1 ||| 0) (fun v5 => (bd (l2 + 1) (fun v6 => (k4 v5 v6))))) else (bd (l1 ||| (1 <<< (l2 &&& 31))) (fun v7 => (bd (l2 + 1) (fun v8 => (k4 v7 v8)))))))))
def F_X10_lawfulNow (M : Mw) : Option (Int32) :=
  (it (fun _ _ => none) (B_X10_lawfulNow_4 M) FU 0 0)
set_option maxRecDepth 100000 in
set_option maxHeartbeats 4000000 in
theorem t_X10_lawfulNow_4 {g : Gw} {x : Xw} (C : Cw g x cX10_lawfulNow RX10 3 (some .int) 6) (hm : x.2.2.2.2.2.2.2.2.2.2.2 = (0, 0)) (M : Mw) (k4 : Int32 → Int32 → Option (Int32)) (hk4 : ∀ (l1 : Int32) (l2 : Int32), Sw g x (fun v : Int32 => (some (.int v), M)) M 0 0 4 [(0, .ref (gA g 50 0 0)), (1, .int l1), (2, .int l2)] [] (k4 l1 l2)) (l1 : Int32) (l2 : Int32) : Sw g x (fun v : Int32 => (some (.int v), M)) M 0 0 4 [(0, .ref (gA g 50 0 0)), (1, .int l1), (2, .int l2)] [] (B_X10_lawfulNow_4 M k4 l1 l2) := by
  unfold B_X10_lawfulNow_4
  refine r_iload_n C 2 dX10_lawfulNow_4 rfl rfl ?_
  refine r_aload_n C 0 dX10_lawfulNow_5 rfl rfl ?_
  refine gf_50_1 C dX10_lawfulNow_6 u_1106 in_50 ?_
  refine r_iconst (v := 4) C dX10_lawfulNow_9 (by decide) ?_
  refine r_ialdc C dX10_lawfulNow_10 in_51 (contW_51 g _ _ _ _ _) (by decide) (j := 4) (by decide) ?_
  refine r_icmp_ge (tgt := 38) C dX10_lawfulNow_11 (by decide) (fun h1 => ?_) (fun h1 => ?_)
  · refine r_iload_n C 1 dX10_lawfulNow_38 rfl rfl ?_
    exact r_iret C dX10_lawfulNow_39 rfl rfl (xk0 hm) (xn0 hm)
  · refine r_iload_n C 1 dX10_lawfulNow_14 rfl rfl ?_
    refine r_aload_n C 0 dX10_lawfulNow_15 rfl rfl ?_
    refine r_iload_n C 2 dX10_lawfulNow_16 rfl rfl ?_
    refine r_callVRi (rest := [.int l1]) C (c_X10_isLawful l2 M) dX10_lawfulNow_17 u_1353 in_50 (contW_50 g _ _ _ _ _) rfl u_1354 u_83 mi_X10_isLawful (by decide) rfl rfl (Nat.le_of_ble_eq_true rfl) (xk1 hm (by decide)) (xn1 hm (by decide)) (fun v2 h3 => ?_)
    refine r_if_eq (tgt := 29) C dX10_lawfulNow_20 (by decide) (fun h4 => ?_) (fun h4 => ?_)
    · refine r_iconst (v := 0) C dX10_lawfulNow_29 (by decide) ?_
      refine r_ior C dX10_lawfulNow_30 ?_
      refine r_istore_n (lv' := fun v5 => [(1, .int v5), (0, .ref (gA g 50 0 0)), (2, .int l2)]) C dX10_lawfulNow_31 rfl (by decide) (fun _ => rfl) (fun v5 => ?_)
      refine r_iinc (c := 1) (lv' := fun v6 => [(2, .int v6), (1, .int v5), (0, .ref (gA g 50 0 0))]) C 2 dX10_lawfulNow_32 rfl (by decide) (by decide) (fun _ => rfl) (fun v6 => ?_)
      refine r_goto (tgt := 4) C dX10_lawfulNow_35 (by decide) ?_
      refine r_lv [2, 1, 0] rfl ?_
      exact hk4 v5 v6
    · refine r_iconst (v := 1) C dX10_lawfulNow_23 (by decide) ?_
      refine r_iload_n C 2 dX10_lawfulNow_24 rfl rfl ?_
      refine r_ishl C dX10_lawfulNow_25 ?_
      refine r_goto (tgt := 30) C dX10_lawfulNow_26 (by decide) ?_
      refine r_ior C dX10_lawfulNow_30 ?_
      refine r_istore_n (lv' := fun v7 => [(1, .int v7), (0, .ref (gA g 50 0 0)), (2, .int l2)]) C dX10_lawfulNow_31 rfl (by decide) (fun _ => rfl) (fun v7 => ?_)
      refine r_iinc (c := 1) (lv' := fun v8 => [(2, .int v8), (1, .int v7), (0, .ref (gA g 50 0 0))]) C 2 dX10_lawfulNow_32 rfl (by decide) (by decide) (fun _ => rfl) (fun v8 => ?_)
      refine r_goto (tgt := 4) C dX10_lawfulNow_35 (by decide) ?_
      refine r_lv [2, 1, 0] rfl ?_
      exact hk4 v7 v8
set_option maxRecDepth 100000 in
set_option maxHeartbeats 4000000 in
theorem tl_X10_lawfulNow_4 {g : Gw} {x : Xw} (C : Cw g x cX10_lawfulNow RX10 3 (some .int) 6) (hm : x.2.2.2.2.2.2.2.2.2.2.2 = (0, 0)) (M : Mw) (n : Nat) : ∀ (l1 : Int32) (l2 : Int32), Sw g x (fun v : Int32 => (some (.int v), M)) M 0 0 4 [(0, .ref (gA g 50 0 0)), (1, .int l1), (2, .int l2)] [] (it (fun _ _ => none) (B_X10_lawfulNow_4 M) n l1 l2) := by
  induction n with
  | zero =>
    intro l1 l2
    exact r_none
  | succ n ih =>
    intro l1 l2
    exact t_X10_lawfulNow_4 C hm M _ ih l1 l2
set_option maxRecDepth 100000 in
set_option maxHeartbeats 4000000 in
theorem c_X10_lawfulNow {g : Gw} {l : Launch} (M : Mw) : Kw g l yX10_lawfulNow cX10_lawfulNow 3 (some .int) 6 0 0 [.ref (gA g 50 0 0)] M (fun v : Int32 => (some (.int v), M)) (F_X10_lawfulNow M) := by
  refine Kw.of (own := RX10) (lv0 := [(0, .ref (gA g 50 0 0))]) (by decide +kernel) rfl (Nat.le_of_ble_eq_true rfl) rfl (fun x C hl hm => ?_)
  subst hl
  unfold F_X10_lawfulNow
  refine r_iconst (v := 0) C dX10_lawfulNow_0 (by decide) ?_
  refine r_istore_n0 (lv' := [(1, .int 0), (0, .ref (gA g 50 0 0))]) C dX10_lawfulNow_1 rfl (by decide) rfl ?_
  refine r_iconst (v := 0) C dX10_lawfulNow_2 (by decide) ?_
  refine r_istore_n0 (lv' := [(2, .int 0), (1, .int 0), (0, .ref (gA g 50 0 0))]) C dX10_lawfulNow_3 rfl (by decide) rfl ?_
  refine r_lv [2, 1, 0] rfl ?_
  exact tl_X10_lawfulNow_4 C hm M FU 0 0
def F_X10_lawful (M : Mw) : Option (Int32 × Mw) :=
  ((F_X10_isBoard M).bind (fun v1 => (if v1 = 0 then some ((-2), M) else ((F_X10_laysCosts M).bind (fun M4 => ((F_X10_lawfulNow M4).bind (fun v6 => some (v6, M4))))))))
set_option maxRecDepth 100000 in
set_option maxHeartbeats 4000000 in
theorem c_X10_lawful {g : Gw} {l : Launch} (M : Mw) : Kw g l yX10_lawful cX10_lawful 1 (some .int) 7 0 0 [.ref (gA g 50 0 0)] M (fun q : Int32 × Mw => (some (.int q.1), q.2)) (F_X10_lawful M) := by
  refine Kw.of (own := RX10) (lv0 := [(0, .ref (gA g 50 0 0))]) (by decide +kernel) rfl (Nat.le_of_ble_eq_true rfl) rfl (fun x C hl hm => ?_)
  subst hl
  unfold F_X10_lawful
  refine r_aload_n C 0 dX10_lawful_0 rfl rfl ?_
  refine r_callVRi (rest := []) C (c_X10_isBoard M) dX10_lawful_1 u_1347 in_50 (contW_50 g _ _ _ _ _) rfl u_1348 u_81 mi_X10_isBoard (by decide) rfl rfl (Nat.le_of_ble_eq_true rfl) (xk1 hm (by decide)) (xn1 hm (by decide)) (fun v1 h2 => ?_)
  refine r_if_ne (tgt := 10) C dX10_lawful_4 (by decide) (fun h3 => ?_) (fun h3 => ?_)
  · refine r_bipush (v := (-2)) C dX10_lawful_7 (by decide) ?_
    exact r_iret C dX10_lawful_9 rfl rfl (xk0 hm) (xn0 hm)
  · refine r_aload_n C 0 dX10_lawful_10 rfl rfl ?_
    refine r_callVU (rest := []) C (c_X10_laysCosts M) dX10_lawful_11 u_1326 in_50 (contW_50 g _ _ _ _ _) rfl u_1327 u_77 mi_X10_laysCosts (by decide) rfl rfl (Nat.le_of_ble_eq_true rfl) (xk1 hm (by decide)) (xn1 hm (by decide)) (fun M4 h5 => ?_)
    refine r_aload_n C 0 dX10_lawful_14 rfl rfl ?_
    refine r_callVRi (rest := []) C (c_X10_lawfulNow M4) dX10_lawful_15 u_1350 in_50 (contW_50 g _ _ _ _ _) rfl u_1351 u_82 mi_X10_lawfulNow (by decide) rfl rfl (Nat.le_of_ble_eq_true rfl) (xk1 hm (by decide)) (xn1 hm (by decide)) (fun v6 h7 => ?_)
    exact r_iret C dX10_lawful_18 rfl rfl (xk0 hm) (xn0 hm)
def B_X10_room_25 (l1 : Int32) (l2 : Int32) (k25 : Int32 → Int32 → Mw → Option (Int32 × Mw)) (l3 : Int32) (l4 : Int32) (M : Mw) : Option (Int32 × Mw) :=
  (if 50 < l4 then some (l3, M) else ((F_X10_laysCosts M).bind (fun M9 => (if inb l1 5 then (if inb l1 5 then (bd (uIw M9 58 0 0 l1.toNatClampNeg ((M9.1 58 0 0 l1.toNatClampNeg) + l4)) (fun M12 => (if inb l1 5 then (if inb l1 5 then (bd (uIw M12 59 0 0 l1.toNatClampNeg ((M12.1 59 0 0 l1.toNatClampNeg) + l4)) (fun M15 => ((F_X10_lawfulNow M15).bind (fun v17 => (if (l2 &&& (v17 ^^^ (-1))) = 0 then (bd (l4 + 1) (fun v21 => (k25 l4 v21 M15))) else (bd (l4 + 1) (fun v20 => (k25 l3 v20 M15)))))))) else none) else none))) else none) else none))))
def F_X10_room (p1 : Int32) (M : Mw) : Option (Int32 × Mw) :=
  ((F_X10_isTask p1 M).bind (fun v1 => (if v1 = 0 then some ((-2), M) else ((F_X10_laysCosts M).bind (fun M4 => ((F_X10_lawfulNow M4).bind (fun v6 => (it (fun _ _ _ => none) (B_X10_room_25 p1 v6) FU 0 1 M4))))))))
set_option maxRecDepth 100000 in
set_option maxHeartbeats 4000000 in
theorem t_X10_room_25 {g : Gw} {x : Xw} (C : Cw g x cX10_room RX10 5 (some .int) 7) (hm : x.2.2.2.2.2.2.2.2.2.2.2 = (0, 0)) (l1 : Int32) (l2 : Int32) (k25 : Int32 → Int32 → Mw → Option (Int32 × Mw)) (hk25 : ∀ (l3 : Int32) (l4 : Int32) (M : Mw), Sw g x (fun q : Int32 × Mw => (some (.int q.1), q.2)) M 0 0 25 [(0, .ref (gA g 50 0 0)), (1, .int l1), (2, .int l2), (3, .int l3), (4, .int l4)] [] (k25 l3 l4 M)) (l3 : Int32) (l4 : Int32) (M : Mw) : Sw g x (fun q : Int32 × Mw => (some (.int q.1), q.2)) M 0 0 25 [(0, .ref (gA g 50 0 0)), (1, .int l1), (2, .int l2), (3, .int l3), (4, .int l4)] [] (B_X10_room_25 l1 l2 k25 l3 l4 M) := by
  unfold B_X10_room_25
  refine r_iload C 4 dX10_room_25 rfl ?_
  refine r_bipush (v := 50) C dX10_room_27 (by decide) ?_
  refine r_icmp_gt (tgt := 78) C dX10_room_29 (by decide) (fun h8 => ?_) (fun h8 => ?_)
  · refine r_iload_n C 3 dX10_room_78 rfl rfl ?_
    exact r_iret C dX10_room_79 rfl rfl (xk0 hm) (xn0 hm)
  · refine r_aload_n C 0 dX10_room_32 rfl rfl ?_
    refine r_callVU (rest := []) C (c_X10_laysCosts M) dX10_room_33 u_1326 in_50 (contW_50 g _ _ _ _ _) rfl u_1327 u_77 mi_X10_laysCosts (by decide) rfl rfl (Nat.le_of_ble_eq_true rfl) (xk1 hm (by decide)) (xn1 hm (by decide)) (fun M9 h10 => ?_)
    refine r_aload_n C 0 dX10_room_36 rfl rfl ?_
    refine gf_50_16 C dX10_room_37 u_1121 in_50 ?_
    refine r_iload_n C 1 dX10_room_40 rfl rfl ?_
    refine r_dup2 C rfl rfl dX10_room_41 ?_
    refine r_iald C dX10_room_42 in_58 (contW_58 g _ _ _ _ _) (fun h11 => ?_)
    refine r_iload C 4 dX10_room_43 rfl ?_
    refine r_iadd C dX10_room_45 ?_
    refine r_iast C dX10_room_46 in_58 (contW_58 g _ _) (fun M12 h13 => ?_)
    refine r_aload_n C 0 dX10_room_47 rfl rfl ?_
    refine gf_50_17 C dX10_room_48 u_1122 in_50 ?_
    refine r_iload_n C 1 dX10_room_51 rfl rfl ?_
    refine r_dup2 C rfl rfl dX10_room_52 ?_
    refine r_iald C dX10_room_53 in_59 (contW_59 g _ _ _ _ _) (fun h14 => ?_)
    refine r_iload C 4 dX10_room_54 rfl ?_
    refine r_iadd C dX10_room_56 ?_
    refine r_iast C dX10_room_57 in_59 (contW_59 g _ _) (fun M15 h16 => ?_)
    refine r_iload_n C 2 dX10_room_58 rfl rfl ?_
    refine r_aload_n C 0 dX10_room_59 rfl rfl ?_
    refine r_callVRi (rest := [.int l2]) C (c_X10_lawfulNow M15) dX10_room_60 u_1350 in_50 (contW_50 g _ _ _ _ _) rfl u_1351 u_82 mi_X10_lawfulNow (by decide) rfl rfl (Nat.le_of_ble_eq_true rfl) (xk1 hm (by decide)) (xn1 hm (by decide)) (fun v17 h18 => ?_)
    refine r_iconst (v := (-1)) C dX10_room_63 (by decide) ?_
    refine r_ixor C dX10_room_64 ?_
    refine r_iand C dX10_room_65 ?_
    refine r_if_ne (tgt := 72) C dX10_room_66 (by decide) (fun h19 => ?_) (fun h19 => ?_)
    · refine r_iload C 4 dX10_room_69 rfl ?_
      refine r_istore_n0 (lv' := [(3, .int l4), (0, .ref (gA g 50 0 0)), (1, .int l1), (2, .int l2), (4, .int l4)]) C dX10_room_71 rfl (by decide) rfl ?_
      refine r_iinc (c := 1) (lv' := fun v21 => [(4, .int v21), (3, .int l4), (0, .ref (gA g 50 0 0)), (1, .int l1), (2, .int l2)]) C 4 dX10_room_72 rfl (by decide) (by decide) (fun _ => rfl) (fun v21 => ?_)
      refine r_goto (tgt := 25) C dX10_room_75 (by decide) ?_
      refine r_lv [2, 3, 4, 1, 0] rfl ?_
      exact hk25 l4 v21 M15
    · refine r_iinc (c := 1) (lv' := fun v20 => [(4, .int v20), (0, .ref (gA g 50 0 0)), (1, .int l1), (2, .int l2), (3, .int l3)]) C 4 dX10_room_72 rfl (by decide) (by decide) (fun _ => rfl) (fun v20 => ?_)
      refine r_goto (tgt := 25) C dX10_room_75 (by decide) ?_
      refine r_lv [1, 2, 3, 4, 0] rfl ?_
      exact hk25 l3 v20 M15
set_option maxRecDepth 100000 in
set_option maxHeartbeats 4000000 in
theorem tl_X10_room_25 {g : Gw} {x : Xw} (C : Cw g x cX10_room RX10 5 (some .int) 7) (hm : x.2.2.2.2.2.2.2.2.2.2.2 = (0, 0)) (l1 : Int32) (l2 : Int32) (n : Nat) : ∀ (l3 : Int32) (l4 : Int32) (M : Mw), Sw g x (fun q : Int32 × Mw => (some (.int q.1), q.2)) M 0 0 25 [(0, .ref (gA g 50 0 0)), (1, .int l1), (2, .int l2), (3, .int l3), (4, .int l4)] [] (it (fun _ _ _ => none) (B_X10_room_25 l1 l2) n l3 l4 M) := by
  induction n with
  | zero =>
    intro l3 l4 M
    exact r_none
  | succ n ih =>
    intro l3 l4 M
    exact t_X10_room_25 C hm l1 l2 _ ih l3 l4 M
set_option maxRecDepth 100000 in
set_option maxHeartbeats 4000000 in
theorem c_X10_room {g : Gw} {l : Launch} (p1 : Int32) (M : Mw) : Kw g l yX10_room cX10_room 5 (some .int) 7 0 0 [.ref (gA g 50 0 0), .int p1] M (fun q : Int32 × Mw => (some (.int q.1), q.2)) (F_X10_room p1 M) := by
  refine Kw.of (own := RX10) (lv0 := [(0, .ref (gA g 50 0 0)), (1, .int p1)]) (by decide +kernel) rfl (Nat.le_of_ble_eq_true rfl) rfl (fun x C hl hm => ?_)
  subst hl
  unfold F_X10_room
  refine r_aload_n C 0 dX10_room_0 rfl rfl ?_
  refine r_iload_n C 1 dX10_room_1 rfl rfl ?_
  refine r_callVRi (rest := []) C (c_X10_isTask p1 M) dX10_room_2 u_1266 in_50 (contW_50 g _ _ _ _ _) rfl u_1267 u_66 mi_X10_isTask (by decide) rfl rfl (Nat.le_of_ble_eq_true rfl) (xk1 hm (by decide)) (xn1 hm (by decide)) (fun v1 h2 => ?_)
  refine r_if_ne (tgt := 11) C dX10_room_5 (by decide) (fun h3 => ?_) (fun h3 => ?_)
  · refine r_bipush (v := (-2)) C dX10_room_8 (by decide) ?_
    exact r_iret C dX10_room_10 rfl rfl (xk0 hm) (xn0 hm)
  · refine r_aload_n C 0 dX10_room_11 rfl rfl ?_
    refine r_callVU (rest := []) C (c_X10_laysCosts M) dX10_room_12 u_1326 in_50 (contW_50 g _ _ _ _ _) rfl u_1327 u_77 mi_X10_laysCosts (by decide) rfl rfl (Nat.le_of_ble_eq_true rfl) (xk1 hm (by decide)) (xn1 hm (by decide)) (fun M4 h5 => ?_)
    refine r_aload_n C 0 dX10_room_15 rfl rfl ?_
    refine r_callVRi (rest := []) C (c_X10_lawfulNow M4) dX10_room_16 u_1350 in_50 (contW_50 g _ _ _ _ _) rfl u_1351 u_82 mi_X10_lawfulNow (by decide) rfl rfl (Nat.le_of_ble_eq_true rfl) (xk1 hm (by decide)) (xn1 hm (by decide)) (fun v6 h7 => ?_)
    refine r_istore_n0 (lv' := [(2, .int v6), (0, .ref (gA g 50 0 0)), (1, .int p1)]) C dX10_room_19 rfl (by decide) rfl ?_
    refine r_iconst (v := 0) C dX10_room_20 (by decide) ?_
    refine r_istore_n0 (lv' := [(3, .int 0), (2, .int v6), (0, .ref (gA g 50 0 0)), (1, .int p1)]) C dX10_room_21 rfl (by decide) rfl ?_
    refine r_iconst (v := 1) C dX10_room_22 (by decide) ?_
    refine r_istore0 (lv' := [(4, .int 1), (3, .int 0), (2, .int v6), (0, .ref (gA g 50 0 0)), (1, .int p1)]) C dX10_room_23 (by decide) rfl ?_
    refine r_lv [3, 4, 2, 1, 0] rfl ?_
    exact tl_X10_room_25 C hm p1 v6 FU 0 1 M4
def B_X10_goesOrders_73 (rec : Int32 → Int32 → Mw → Option (Mw)) (l1 : Int32) (l2 : Int32) (k73 : Int32 → Mw → Option (Mw)) (l3 : Int32) (M : Mw) : Option (Mw) :=
  (if (M.1 51 0 0 4) ≤ l3 then some M else (if ((l2 >>> (l3 &&& 31)) &&& 1) = 1 then (bd (l3 + 1) (fun v11 => (k73 v11 M))) else (if inb l1 5 then (bd (uIw M 61 0 0 l1.toNatClampNeg l3) (fun M4 => (if inb l3 5 then (bd (uIw M4 60 0 0 l3.toNatClampNeg l2) (fun M6 => ((rec (l1 + 1) (l2 ||| (1 <<< (l3 &&& 31))) M6).bind (fun M8 => (bd (l3 + 1) (fun v10 => (k73 v10 M8))))))) else none))) else none)))
def B_X10_goesOrders_37 (rec : Int32 → Int32 → Mw → Option (Mw)) (l1 : Int32) (k37 : Int32 → Mw → Option (Mw)) (l3 : Int32) (M : Mw) : Option (Mw) :=
  (if l1 ≤ l3 then (bd (uIw M 50 0 0 21 ((M.1 50 0 0 21) + 1)) (fun M18 => some M18)) else (if inb l3 5 then (if inb l3 5 then (bd (uIw M 62 0 0 l3.toNatClampNeg (M.1 61 0 0 l3.toNatClampNeg)) (fun M20 => (bd (l3 + 1) (fun v22 => (k37 v22 M20))))) else none) else none))
def F_X10_goesOrders (rec : Int32 → Int32 → Mw → Option (Mw)) (p1 : Int32) (p2 : Int32) (M : Mw) : Option (Mw) :=
  (if p1 = (M.1 51 0 0 4) then ((F_X10_lawfulNow M).bind (fun v12 => (if v12 = ((1 <<< ((M.1 51 0 0 4) &&& 31)) - 1) then (if (M.1 50 0 0 21) = 0 then (it (fun _ _ => none) (B_X10_goesOrders_37 rec p1) FU 0 M) else (bd (uIw M 50 0 0 21 ((M.1 50 0 0 21) + 1)) (fun M16 => some M16))) else some M))) else (it (fun _ _ => none) (B_X10_goesOrders_73 rec p1 p2) FU 0 M))
set_option maxRecDepth 100000 in
set_option maxHeartbeats 4000000 in
theorem t_X10_goesOrders_73 {g : Gw} {x : Xw} {d0 : Nat} (C : Cw g x cX10_goesOrders RX10 4 none (d0 + 1)) (hm : x.2.2.2.2.2.2.2.2.2.2.2 = (0, 0)) (rec : Int32 → Int32 → Mw → Option (Mw)) (hrec : ∀ (p1 : Int32) (p2 : Int32) (M : Mw), Kw g x.2.1 yX10_goesOrders cX10_goesOrders 4 none d0 0 0 [.ref (gA g 50 0 0), .int p1, .int p2] M (fun M : Mw => (none, M)) (rec p1 p2 M)) (hd1 : 7 ≤ d0 + 1) (l1 : Int32) (l2 : Int32) (k73 : Int32 → Mw → Option (Mw)) (hk73 : ∀ (l3 : Int32) (M : Mw), Sw g x (fun M : Mw => (none, M)) M 0 0 73 [(0, .ref (gA g 50 0 0)), (1, .int l1), (2, .int l2), (3, .int l3)] [] (k73 l3 M)) (l3 : Int32) (M : Mw) : Sw g x (fun M : Mw => (none, M)) M 0 0 73 [(0, .ref (gA g 50 0 0)), (1, .int l1), (2, .int l2), (3, .int l3)] [] (B_X10_goesOrders_73 rec l1 l2 k73 l3 M) := by
  unfold B_X10_goesOrders_73
  refine r_iload_n C 3 dX10_goesOrders_73 rfl rfl ?_
  refine r_aload_n C 0 dX10_goesOrders_74 rfl rfl ?_
  refine gf_50_1 C dX10_goesOrders_75 u_1106 in_50 ?_
  refine r_iconst (v := 4) C dX10_goesOrders_78 (by decide) ?_
  refine r_ialdc C dX10_goesOrders_79 in_51 (contW_51 g _ _ _ _ _) (by decide) (j := 4) (by decide) ?_
  refine r_icmp_ge (tgt := 127) C dX10_goesOrders_80 (by decide) (fun h2 => ?_) (fun h2 => ?_)
  · exact r_vret C dX10_goesOrders_127 rfl rfl (xk0 hm) (xn0 hm)
  · refine r_iload_n C 2 dX10_goesOrders_83 rfl rfl ?_
    refine r_iload_n C 3 dX10_goesOrders_84 rfl rfl ?_
    refine r_ishr C dX10_goesOrders_85 ?_
    refine r_iconst (v := 1) C dX10_goesOrders_86 (by decide) ?_
    refine r_iand C dX10_goesOrders_87 ?_
    refine r_iconst (v := 1) C dX10_goesOrders_88 (by decide) ?_
    refine r_icmp_ne (tgt := 95) C dX10_goesOrders_89 (by decide) (fun h3 => ?_) (fun h3 => ?_)
    · refine r_goto (tgt := 121) C dX10_goesOrders_92 (by decide) ?_
      refine r_iinc (c := 1) (lv' := fun v11 => [(3, .int v11), (0, .ref (gA g 50 0 0)), (1, .int l1), (2, .int l2)]) C 3 dX10_goesOrders_121 rfl (by decide) (by decide) (fun _ => rfl) (fun v11 => ?_)
      refine r_goto (tgt := 73) C dX10_goesOrders_124 (by decide) ?_
      refine r_lv [1, 2, 3, 0] rfl ?_
      exact hk73 v11 M
    · refine r_aload_n C 0 dX10_goesOrders_95 rfl rfl ?_
      refine gf_50_19 C dX10_goesOrders_96 u_1124 in_50 ?_
      refine r_iload_n C 1 dX10_goesOrders_99 rfl rfl ?_
      refine r_iload_n C 3 dX10_goesOrders_100 rfl rfl ?_
      refine r_iast C dX10_goesOrders_101 in_61 (contW_61 g _ _) (fun M4 h5 => ?_)
      refine r_aload_n C 0 dX10_goesOrders_102 rfl rfl ?_
      refine gf_50_18 C dX10_goesOrders_103 u_1123 in_50 ?_
      refine r_iload_n C 3 dX10_goesOrders_106 rfl rfl ?_
      refine r_iload_n C 2 dX10_goesOrders_107 rfl rfl ?_
      refine r_iast C dX10_goesOrders_108 in_60 (contW_60 g _ _) (fun M6 h7 => ?_)
      refine r_aload_n C 0 dX10_goesOrders_109 rfl rfl ?_
      refine r_iload_n C 1 dX10_goesOrders_110 rfl rfl ?_
      refine r_iconst (v := 1) C dX10_goesOrders_111 (by decide) ?_
      refine r_iadd C dX10_goesOrders_112 ?_
      refine r_iload_n C 2 dX10_goesOrders_113 rfl rfl ?_
      refine r_iconst (v := 1) C dX10_goesOrders_114 (by decide) ?_
      refine r_iload_n C 3 dX10_goesOrders_115 rfl rfl ?_
      refine r_ishl C dX10_goesOrders_116 ?_
      refine r_ior C dX10_goesOrders_117 ?_
      refine r_callVU (rest := []) C (hrec (l1 + 1) (l2 ||| (1 <<< (l3 &&& 31))) M6) dX10_goesOrders_118 u_1367 in_50 (contW_50 g _ _ _ _ _) rfl u_1368 u_85 mi_X10_goesOrders (by omega) rfl rfl (Nat.le_of_ble_eq_true rfl) (xk1 hm (by decide)) (xn1 hm (by decide)) (fun M8 h9 => ?_)
      refine r_iinc (c := 1) (lv' := fun v10 => [(3, .int v10), (0, .ref (gA g 50 0 0)), (1, .int l1), (2, .int l2)]) C 3 dX10_goesOrders_121 rfl (by decide) (by decide) (fun _ => rfl) (fun v10 => ?_)
      refine r_goto (tgt := 73) C dX10_goesOrders_124 (by decide) ?_
      refine r_lv [1, 2, 3, 0] rfl ?_
      exact hk73 v10 M8
set_option maxRecDepth 100000 in
set_option maxHeartbeats 4000000 in
theorem tl_X10_goesOrders_73 {g : Gw} {x : Xw} {d0 : Nat} (C : Cw g x cX10_goesOrders RX10 4 none (d0 + 1)) (hm : x.2.2.2.2.2.2.2.2.2.2.2 = (0, 0)) (rec : Int32 → Int32 → Mw → Option (Mw)) (hrec : ∀ (p1 : Int32) (p2 : Int32) (M : Mw), Kw g x.2.1 yX10_goesOrders cX10_goesOrders 4 none d0 0 0 [.ref (gA g 50 0 0), .int p1, .int p2] M (fun M : Mw => (none, M)) (rec p1 p2 M)) (hd1 : 7 ≤ d0 + 1) (l1 : Int32) (l2 : Int32) (n : Nat) : ∀ (l3 : Int32) (M : Mw), Sw g x (fun M : Mw => (none, M)) M 0 0 73 [(0, .ref (gA g 50 0 0)), (1, .int l1), (2, .int l2), (3, .int l3)] [] (it (fun _ _ => none) (B_X10_goesOrders_73 rec l1 l2) n l3 M) := by
  induction n with
  | zero =>
    intro l3 M
    exact r_none
  | succ n ih =>
    intro l3 M
    exact t_X10_goesOrders_73 C hm rec hrec hd1 l1 l2 _ ih l3 M
set_option maxRecDepth 100000 in
set_option maxHeartbeats 4000000 in
theorem t_X10_goesOrders_37 {g : Gw} {x : Xw} {d0 : Nat} (C : Cw g x cX10_goesOrders RX10 4 none (d0 + 1)) (hm : x.2.2.2.2.2.2.2.2.2.2.2 = (0, 0)) (rec : Int32 → Int32 → Mw → Option (Mw)) (hrec : ∀ (p1 : Int32) (p2 : Int32) (M : Mw), Kw g x.2.1 yX10_goesOrders cX10_goesOrders 4 none d0 0 0 [.ref (gA g 50 0 0), .int p1, .int p2] M (fun M : Mw => (none, M)) (rec p1 p2 M)) (hd1 : 7 ≤ d0 + 1) (l1 : Int32) (k37 : Int32 → Mw → Option (Mw)) (hk37 : ∀ (l3 : Int32) (M : Mw), Sw g x (fun M : Mw => (none, M)) M 0 0 37 [(0, .ref (gA g 50 0 0)), (1, .int l1), (3, .int l3)] [] (k37 l3 M)) (l3 : Int32) (M : Mw) : Sw g x (fun M : Mw => (none, M)) M 0 0 37 [(0, .ref (gA g 50 0 0)), (1, .int l1), (3, .int l3)] [] (B_X10_goesOrders_37 rec l1 k37 l3 M) := by
  unfold B_X10_goesOrders_37
  refine r_iload_n C 2 dX10_goesOrders_37 rfl rfl ?_
  refine r_iload_n C 1 dX10_goesOrders_38 rfl rfl ?_
  refine r_icmp_ge (tgt := 60) C dX10_goesOrders_39 (by decide) (fun h17 => ?_) (fun h17 => ?_)
  · refine r_aload_n C 0 dX10_goesOrders_60 rfl rfl ?_
    refine r_dup C rfl dX10_goesOrders_61 ?_
    refine gf_50_21 C dX10_goesOrders_62 u_1126 in_50 ?_
    refine r_iconst (v := 1) C dX10_goesOrders_65 (by decide) ?_
    refine r_iadd C dX10_goesOrders_66 ?_
    refine pf_50_21 C dX10_goesOrders_67 u_1126 in_50 (fun M18 => ?_)
    exact r_vret C dX10_goesOrders_70 rfl rfl (xk0 hm) (xn0 hm)
  · refine r_aload_n C 0 dX10_goesOrders_42 rfl rfl ?_
    refine gf_50_20 C dX10_goesOrders_43 u_1125 in_50 ?_
    refine r_iload_n C 2 dX10_goesOrders_46 rfl rfl ?_
    refine r_aload_n C 0 dX10_goesOrders_47 rfl rfl ?_
    refine gf_50_19 C dX10_goesOrders_48 u_1124 in_50 ?_
    refine r_iload_n C 2 dX10_goesOrders_51 rfl rfl ?_
    refine r_iald C dX10_goesOrders_52 in_61 (contW_61 g _ _ _ _ _) (fun h19 => ?_)
    refine r_iast C dX10_goesOrders_53 in_62 (contW_62 g _ _) (fun M20 h21 => ?_)
    refine r_iinc (c := 1) (lv' := fun v22 => [(3, .int v22), (0, .ref (gA g 50 0 0)), (1, .int l1)]) C 2 dX10_goesOrders_54 rfl (by decide) (by decide) (fun _ => rfl) (fun v22 => ?_)
    refine r_goto (tgt := 37) C dX10_goesOrders_57 (by decide) ?_
    refine r_lv [1, 2, 0] rfl ?_
    exact hk37 v22 M20
set_option maxRecDepth 100000 in
set_option maxHeartbeats 4000000 in
theorem tl_X10_goesOrders_37 {g : Gw} {x : Xw} {d0 : Nat} (C : Cw g x cX10_goesOrders RX10 4 none (d0 + 1)) (hm : x.2.2.2.2.2.2.2.2.2.2.2 = (0, 0)) (rec : Int32 → Int32 → Mw → Option (Mw)) (hrec : ∀ (p1 : Int32) (p2 : Int32) (M : Mw), Kw g x.2.1 yX10_goesOrders cX10_goesOrders 4 none d0 0 0 [.ref (gA g 50 0 0), .int p1, .int p2] M (fun M : Mw => (none, M)) (rec p1 p2 M)) (hd1 : 7 ≤ d0 + 1) (l1 : Int32) (n : Nat) : ∀ (l3 : Int32) (M : Mw), Sw g x (fun M : Mw => (none, M)) M 0 0 37 [(0, .ref (gA g 50 0 0)), (1, .int l1), (3, .int l3)] [] (it (fun _ _ => none) (B_X10_goesOrders_37 rec l1) n l3 M) := by
  induction n with
  | zero =>
    intro l3 M
    exact r_none
  | succ n ih =>
    intro l3 M
    exact t_X10_goesOrders_37 C hm rec hrec hd1 l1 _ ih l3 M
def F_X10_goesOrdersR : Nat → Int32 → Int32 → Mw → Option (Mw)
  | 0 => fun _ _ _ => none
  | n + 1 => F_X10_goesOrders (F_X10_goesOrdersR n)
set_option maxRecDepth 100000 in
set_option maxHeartbeats 4000000 in
theorem c_X10_goesOrdersR {g : Gw} {l : Launch} (n : Nat) : ∀ (p1 : Int32) (p2 : Int32) (M : Mw), Kw g l yX10_goesOrders cX10_goesOrders 4 none (7 + n) 0 0 [.ref (gA g 50 0 0), .int p1, .int p2] M (fun M : Mw => (none, M)) (F_X10_goesOrdersR n p1 p2 M) := by
  induction n with
  | zero =>
    intro p1 p2 M sz r hr
    cases hr
  | succ n ih =>
    intro p1 p2 M
    show Kw g l _ _ _ _ _ _ _ _ M _ (F_X10_goesOrders (F_X10_goesOrdersR n) p1 p2 M)
    refine Kw.of (own := RX10) (lv0 := [(0, .ref (gA g 50 0 0)), (1, .int p1), (2, .int p2)]) (by decide +kernel) rfl (Nat.le_of_ble_eq_true rfl) rfl (fun x C hl hm => ?_)
    subst hl
    have hrec := ih
    have hd1 : 7 ≤ (7 + n) + 1 := by omega
    generalize F_X10_goesOrdersR n = rec at hrec ⊢
    unfold F_X10_goesOrders
    refine r_iload_n C 1 dX10_goesOrders_0 rfl rfl ?_
    refine r_aload_n C 0 dX10_goesOrders_1 rfl rfl ?_
    refine gf_50_1 C dX10_goesOrders_2 u_1106 in_50 ?_
    refine r_iconst (v := 4) C dX10_goesOrders_5 (by decide) ?_
    refine r_ialdc C dX10_goesOrders_6 in_51 (contW_51 g _ _ _ _ _) (by decide) (j := 4) (by decide) ?_
    refine r_icmp_ne (tgt := 71) C dX10_goesOrders_7 (by decide) (fun h1 => ?_) (fun h1 => ?_)
    · refine r_aload_n C 0 dX10_goesOrders_10 rfl rfl ?_
      refine r_callVRi (rest := []) C (c_X10_lawfulNow M) dX10_goesOrders_11 u_1350 in_50 (contW_50 g _ _ _ _ _) rfl u_1351 u_82 mi_X10_lawfulNow (by omega) rfl rfl (Nat.le_of_ble_eq_true rfl) (xk1 hm (by decide)) (xn1 hm (by decide)) (fun v12 h13 => ?_)
      refine r_iconst (v := 1) C dX10_goesOrders_14 (by decide) ?_
      refine r_aload_n C 0 dX10_goesOrders_15 rfl rfl ?_
      refine gf_50_1 C dX10_goesOrders_16 u_1106 in_50 ?_
      refine r_iconst (v := 4) C dX10_goesOrders_19 (by decide) ?_
      refine r_ialdc C dX10_goesOrders_20 in_51 (contW_51 g _ _ _ _ _) (by decide) (j := 4) (by decide) ?_
      refine r_ishl C dX10_goesOrders_21 ?_
      refine r_iconst (v := 1) C dX10_goesOrders_22 (by decide) ?_
      refine r_isub C dX10_goesOrders_23 ?_
      refine r_icmp_eq (tgt := 28) C dX10_goesOrders_24 (by decide) (fun h14 => ?_) (fun h14 => ?_)
      · refine r_aload_n C 0 dX10_goesOrders_28 rfl rfl ?_
        refine gf_50_21 C dX10_goesOrders_29 u_1126 in_50 ?_
        refine r_if_ne (tgt := 60) C dX10_goesOrders_32 (by decide) (fun h15 => ?_) (fun h15 => ?_)
        · refine r_iconst (v := 0) C dX10_goesOrders_35 (by decide) ?_
          refine r_istore_n0 (lv' := [(3, .int 0), (0, .ref (gA g 50 0 0)), (1, .int p1), (2, .int p2)]) C dX10_goesOrders_36 rfl (by decide) rfl ?_
          refine r_lv [1, 2, 0] rfl ?_
          exact tl_X10_goesOrders_37 C hm rec hrec hd1 p1 FU 0 M
        · refine r_aload_n C 0 dX10_goesOrders_60 rfl rfl ?_
          refine r_dup C rfl dX10_goesOrders_61 ?_
          refine gf_50_21 C dX10_goesOrders_62 u_1126 in_50 ?_
          refine r_iconst (v := 1) C dX10_goesOrders_65 (by decide) ?_
          refine r_iadd C dX10_goesOrders_66 ?_
          refine pf_50_21 C dX10_goesOrders_67 u_1126 in_50 (fun M16 => ?_)
          exact r_vret C dX10_goesOrders_70 rfl rfl (xk0 hm) (xn0 hm)
      · exact r_vret C dX10_goesOrders_27 rfl rfl (xk0 hm) (xn0 hm)
    · refine r_iconst (v := 0) C dX10_goesOrders_71 (by decide) ?_
      refine r_istore_n0 (lv' := [(3, .int 0), (0, .ref (gA g 50 0 0)), (1, .int p1), (2, .int p2)]) C dX10_goesOrders_72 rfl (by decide) rfl ?_
      refine r_lv [1, 2, 3, 0] rfl ?_
      exact tl_X10_goesOrders_73 C hm rec hrec hd1 p1 p2 FU 0 M
def F_X10_laysOrders (M : Mw) : Option (Mw) :=
  ((F_X10_laysCosts M).bind (fun M1 => (bd (uIw M1 50 0 0 21 0) (fun M3 => ((F_X10_goesOrdersR 6 0 0 M3).bind (fun M4 => some M4))))))
set_option maxRecDepth 100000 in
set_option maxHeartbeats 4000000 in
theorem c_X10_laysOrders {g : Gw} {l : Launch} (M : Mw) : Kw g l yX10_laysOrders cX10_laysOrders 1 none 14 0 0 [.ref (gA g 50 0 0)] M (fun M : Mw => (none, M)) (F_X10_laysOrders M) := by
  refine Kw.of (own := RX10) (lv0 := [(0, .ref (gA g 50 0 0))]) (by decide +kernel) rfl (Nat.le_of_ble_eq_true rfl) rfl (fun x C hl hm => ?_)
  subst hl
  unfold F_X10_laysOrders
  refine r_aload_n C 0 dX10_laysOrders_0 rfl rfl ?_
  refine r_callVU (rest := []) C (c_X10_laysCosts M) dX10_laysOrders_1 u_1326 in_50 (contW_50 g _ _ _ _ _) rfl u_1327 u_77 mi_X10_laysCosts (by decide) rfl rfl (Nat.le_of_ble_eq_true rfl) (xk1 hm (by decide)) (xn1 hm (by decide)) (fun M1 h2 => ?_)
  refine r_aload_n C 0 dX10_laysOrders_4 rfl rfl ?_
  refine r_iconst (v := 0) C dX10_laysOrders_5 (by decide) ?_
  refine pf_50_21 C dX10_laysOrders_6 u_1126 in_50 (fun M3 => ?_)
  refine r_aload_n C 0 dX10_laysOrders_9 rfl rfl ?_
  refine r_iconst (v := 0) C dX10_laysOrders_10 (by decide) ?_
  refine r_iconst (v := 0) C dX10_laysOrders_11 (by decide) ?_
  refine r_callVU (rest := []) C (c_X10_goesOrdersR 6 0 0 M3) dX10_laysOrders_12 u_1367 in_50 (contW_50 g _ _ _ _ _) rfl u_1368 u_85 mi_X10_goesOrders (by decide) rfl rfl (Nat.le_of_ble_eq_true rfl) (xk1 hm (by decide)) (xn1 hm (by decide)) (fun M4 h5 => ?_)
  exact r_vret C dX10_laysOrders_15 rfl rfl (xk0 hm) (xn0 hm)
def F_X10_orders (M : Mw) : Option (Int32 × Mw) :=
  ((F_X10_isBoard M).bind (fun v1 => (if v1 = 0 then some ((-2), M) else ((F_X10_laysOrders M).bind (fun M4 => some ((M4.1 50 0 0 21), M4))))))
set_option maxRecDepth 100000 in
set_option maxHeartbeats 4000000 in
theorem c_X10_orders {g : Gw} {l : Launch} (M : Mw) : Kw g l yX10_orders cX10_orders 1 (some .int) 15 0 0 [.ref (gA g 50 0 0)] M (fun q : Int32 × Mw => (some (.int q.1), q.2)) (F_X10_orders M) := by
  refine Kw.of (own := RX10) (lv0 := [(0, .ref (gA g 50 0 0))]) (by decide +kernel) rfl (Nat.le_of_ble_eq_true rfl) rfl (fun x C hl hm => ?_)
  subst hl
  unfold F_X10_orders
  refine r_aload_n C 0 dX10_orders_0 rfl rfl ?_
  refine r_callVRi (rest := []) C (c_X10_isBoard M) dX10_orders_1 u_1347 in_50 (contW_50 g _ _ _ _ _) rfl u_1348 u_81 mi_X10_isBoard (by decide) rfl rfl (Nat.le_of_ble_eq_true rfl) (xk1 hm (by decide)) (xn1 hm (by decide)) (fun v1 h2 => ?_)
  refine r_if_ne (tgt := 10) C dX10_orders_4 (by decide) (fun h3 => ?_) (fun h3 => ?_)
  · refine r_bipush (v := (-2)) C dX10_orders_7 (by decide) ?_
    exact r_iret C dX10_orders_9 rfl rfl (xk0 hm) (xn0 hm)
  · refine r_aload_n C 0 dX10_orders_10 rfl rfl ?_
    refine r_callVU (rest := []) C (c_X10_laysOrders M) dX10_orders_11 u_1364 in_50 (contW_50 g _ _ _ _ _) rfl u_1365 u_84 mi_X10_laysOrders (by decide) rfl rfl (Nat.le_of_ble_eq_true rfl) (xk1 hm (by decide)) (xn1 hm (by decide)) (fun M4 h5 => ?_)
    refine r_aload_n C 0 dX10_orders_14 rfl rfl ?_
    refine gf_50_21 C dX10_orders_15 u_1126 in_50 ?_
    exact r_iret C dX10_orders_18 rfl rfl (xk0 hm) (xn0 hm)
def F_X10_order (p1 : Int32) (M : Mw) : Option (Int32 × Mw) :=
  ((F_X10_isBoard M).bind (fun v1 => (if v1 = 0 then some ((-2), M) else ((F_X10_laysOrders M).bind (fun M4 => (if (M4.1 50 0 0 21) ≤ 0 then some ((-1), M4) else ((F_X10_in ((p1).toInt64) 0 ((((M4.1 51 0 0 4) - 1)).toInt64) M4).bind (fun v7 => (if v7 = 0 then some ((-1), M4) else (if inb p1 5 then some ((M4.1 62 0 0 p1.toNatClampNeg), M4) else none))))))))))
set_option maxRecDepth 100000 in
set_option maxHeartbeats 4000000 in
theorem c_X10_order {g : Gw} {l : Launch} (p1 : Int32) (M : Mw) : Kw g l yX10_order cX10_order 2 (some .int) 15 0 0 [.ref (gA g 50 0 0), .int p1] M (fun q : Int32 × Mw => (some (.int q.1), q.2)) (F_X10_order p1 M) := by
  refine Kw.of (own := RX10) (lv0 := [(0, .ref (gA g 50 0 0)), (1, .int p1)]) (by decide +kernel) rfl (Nat.le_of_ble_eq_true rfl) rfl (fun x C hl hm => ?_)
  subst hl
  unfold F_X10_order
  refine r_aload_n C 0 dX10_order_0 rfl rfl ?_
  refine r_callVRi (rest := []) C (c_X10_isBoard M) dX10_order_1 u_1347 in_50 (contW_50 g _ _ _ _ _) rfl u_1348 u_81 mi_X10_isBoard (by decide) rfl rfl (Nat.le_of_ble_eq_true rfl) (xk1 hm (by decide)) (xn1 hm (by decide)) (fun v1 h2 => ?_)
  refine r_if_ne (tgt := 10) C dX10_order_4 (by decide) (fun h3 => ?_) (fun h3 => ?_)
  · refine r_bipush (v := (-2)) C dX10_order_7 (by decide) ?_
    exact r_iret C dX10_order_9 rfl rfl (xk0 hm) (xn0 hm)
  · refine r_aload_n C 0 dX10_order_10 rfl rfl ?_
    refine r_callVU (rest := []) C (c_X10_laysOrders M) dX10_order_11 u_1364 in_50 (contW_50 g _ _ _ _ _) rfl u_1365 u_84 mi_X10_laysOrders (by decide) rfl rfl (Nat.le_of_ble_eq_true rfl) (xk1 hm (by decide)) (xn1 hm (by decide)) (fun M4 h5 => ?_)
    refine r_aload_n C 0 dX10_order_14 rfl rfl ?_
    refine gf_50_21 C dX10_order_15 u_1126 in_50 ?_
    refine r_if_le (tgt := 48) C dX10_order_18 (by decide) (fun h6 => ?_) (fun h6 => ?_)
    · refine r_iconst (v := (-1)) C dX10_order_48 (by decide) ?_
      exact r_iret C dX10_order_49 rfl rfl (xk0 hm) (xn0 hm)
    · refine r_iload_n C 1 dX10_order_21 rfl rfl ?_
      refine r_i2l C dX10_order_22 ?_
      refine r_lconst (v := 0) C dX10_order_23 (by decide) ?_
      refine r_aload_n C 0 dX10_order_24 rfl rfl ?_
      refine gf_50_1 C dX10_order_25 u_1106 in_50 ?_
      refine r_iconst (v := 4) C dX10_order_28 (by decide) ?_
      refine r_ialdc C dX10_order_29 in_51 (contW_51 g _ _ _ _ _) (by decide) (j := 4) (by decide) ?_
      refine r_iconst (v := 1) C dX10_order_30 (by decide) ?_
      refine r_isub C dX10_order_31 ?_
      refine r_i2l C dX10_order_32 ?_
      refine r_callSRi (rest := []) C (c_X10_in ((p1).toInt64) 0 ((((M4.1 51 0 0 4) - 1)).toInt64) M4) dX10_order_33 u_1174 u_1175 mi_X10_in (by decide) rfl rfl (Nat.le_of_ble_eq_true rfl) (xk1 hm (by decide)) (xn1 hm (by decide)) (fun v7 h8 => ?_)
      refine r_if_eq (tgt := 48) C dX10_order_36 (by decide) (fun h9 => ?_) (fun h9 => ?_)
      · refine r_iconst (v := (-1)) C dX10_order_48 (by decide) ?_
        exact r_iret C dX10_order_49 rfl rfl (xk0 hm) (xn0 hm)
      · refine r_aload_n C 0 dX10_order_39 rfl rfl ?_
        refine gf_50_20 C dX10_order_40 u_1125 in_50 ?_
        refine r_iload_n C 1 dX10_order_43 rfl rfl ?_
        refine r_iald C dX10_order_44 in_62 (contW_62 g _ _ _ _ _) (fun h10 => ?_)
        refine r_goto (tgt := 49) C dX10_order_45 (by decide) ?_
        exact r_iret C dX10_order_49 rfl rfl (xk0 hm) (xn0 hm)
def F_Jxf58ca_isNaN_12338 (p1 : UInt32) (M : Mw) : Option (Int32) :=
  (if (Op.cmpValue (FP.fcmp p1 p1) .l) = 0 then some 0 else some 1)
set_option maxRecDepth 100000 in
set_option maxHeartbeats 4000000 in
theorem c_Jxf58ca_isNaN_12338 {g : Gw} {l : Launch} (p1 : UInt32) (M : Mw) : Kw g l yJxf58ca_isNaN_12338 cJxf58ca_isNaN_12338 1 (some .boolean) 1 0 0 [.float p1] M (fun v : Int32 => (some (.int v), M)) (F_Jxf58ca_isNaN_12338 p1 M) := by
  refine Kw.ofF (own := RJxf58ca) (lv0 := [(0, .float p1)]) (by decide +kernel) rfl (Nat.le_of_ble_eq_true rfl) rfl (fun x C hl hm => ?_)
  subst hl
  unfold F_Jxf58ca_isNaN_12338
  refine r_fload_n C 0 dJxf58ca_isNaN_12338_0 rfl rfl ?_
  refine r_fload_n C 0 dJxf58ca_isNaN_12338_1 rfl rfl ?_
  refine r_fcmp C dJxf58ca_isNaN_12338_2 ?_
  refine r_if_eq (tgt := 10) C dJxf58ca_isNaN_12338_3 (by decide) (fun h1 => ?_) (fun h1 => ?_)
  · refine r_iconst (v := 0) C dJxf58ca_isNaN_12338_10 (by decide) ?_
    exact r_zretc C dJxf58ca_isNaN_12338_11 rfl bz0 rfl (xk0 hm) (xn0 hm)
  · refine r_iconst (v := 1) C dJxf58ca_isNaN_12338_6 (by decide) ?_
    refine r_goto (tgt := 11) C dJxf58ca_isNaN_12338_7 (by decide) ?_
    exact r_zretc C dJxf58ca_isNaN_12338_11 rfl bz1 rfl (xk0 hm) (xn0 hm)
def F_Jxf58ca_floatToIntBits_5c35a (p1 : UInt32) (M : Mw) : Option (Int32) :=
  ((F_Jxf58ca_isNaN_12338 p1 M).bind (fun v1 => (if v1 = 0 then some p1.toInt32 else some 2143289344)))
set_option maxRecDepth 100000 in
set_option maxHeartbeats 4000000 in
theorem c_Jxf58ca_floatToIntBits_5c35a {g : Gw} {l : Launch} (p1 : UInt32) (M : Mw) : Kw g l yJxf58ca_floatToIntBits_5c35a cJxf58ca_floatToIntBits_5c35a 1 (some .int) 2 0 0 [.float p1] M (fun v : Int32 => (some (.int v), M)) (F_Jxf58ca_floatToIntBits_5c35a p1 M) := by
  refine Kw.ofF (own := RJxf58ca) (lv0 := [(0, .float p1)]) (by decide +kernel) rfl (Nat.le_of_ble_eq_true rfl) rfl (fun x C hl hm => ?_)
  subst hl
  unfold F_Jxf58ca_floatToIntBits_5c35a
  refine r_fload_n C 0 dJxf58ca_floatToIntBits_5c35a_0 rfl rfl ?_
  refine r_callSRi (rest := []) C (c_Jxf58ca_isNaN_12338 p1 M) dJxf58ca_floatToIntBits_5c35a_1 u_1381 u_1382 mi_Jxf58ca_isNaN_12338 (by decide) rfl rfl (Nat.le_of_ble_eq_true rfl) (xk1 hm (by decide)) (xn1 hm (by decide)) (fun v1 h2 => ?_)
  refine r_if_ne (tgt := 12) C dJxf58ca_floatToIntBits_5c35a_4 (by decide) (fun h3 => ?_) (fun h3 => ?_)
  · refine r_fload_n C 0 dJxf58ca_floatToIntBits_5c35a_7 rfl rfl ?_
    refine r_f2bits C u_1384 u_1386 u_1385 u_143 dJxf58ca_floatToIntBits_5c35a_8 (by decide) (Nat.le_of_ble_eq_true rfl) ?_
    exact r_iret C dJxf58ca_floatToIntBits_5c35a_11 rfl rfl (xk0 hm) (xn0 hm)
  · refine r_ldc (v := 2143289344) C u_1387 dJxf58ca_floatToIntBits_5c35a_12 ?_
    exact r_iret C dJxf58ca_floatToIntBits_5c35a_14 rfl rfl (xk0 hm) (xn0 hm)
def B_X10_load_18 (M : Mw) (k18 : UInt32 → Int32 → Option (Int32 × Mw)) (l1 : UInt32) (l2 : Int32) : Option (Int32 × Mw) :=
  (if (M.1 51 0 0 4) ≤ l2 then ((F_Jxf58ca_floatToIntBits_5c35a l1 M).bind (fun v8 => some (v8, M))) else (if inb l2 5 then ((F_X10_period l2 M).bind (fun v11 => (if nf (FP.fdiv (FP.i2f (M.1 58 0 0 l2.toNatClampNeg)) (FP.i2f v11)) then (if nf (FP.fadd l1 (FP.fdiv (FP.i2f (M.1 58 0 0 l2.toNatClampNeg)) (FP.i2f v11))) then (bd (FP.fadd l1 (FP.fdiv (FP.i2f (M.1 58 0 0 l2.toNatClampNeg)) (FP.i2f v11))) (fun v13 => (bd (l2 + 1) (fun v14 => (k18 v13 v14))))) else none) else none))) else none))
def F_X10_load (M : Mw) : Option (Int32 × Mw) :=
  ((F_X10_isBoard M).bind (fun v1 => (if v1 = 0 then some ((-2), M) else ((F_X10_laysCosts M).bind (fun M4 => (bd FP.fconst0 (fun v6 => (it (fun _ _ => none) (B_X10_load_18 M4) FU v6 0))))))))
set_option maxRecDepth 100000 in
set_option maxHeartbeats 4000000 in
theorem t_X10_load_18 {g : Gw} {x : Xw} (C : Cw g x cX10_load RX10 3 (some .int) 6) (hm : x.2.2.2.2.2.2.2.2.2.2.2 = (0, 0)) (M : Mw) (k18 : UInt32 → Int32 → Option (Int32 × Mw)) (hk18 : ∀ (l1 : UInt32) (l2 : Int32), Sw g x (fun q : Int32 × Mw => (some (.int q.1), q.2)) M 0 0 18 [(0, .ref (gA g 50 0 0)), (1, .float l1), (2, .int l2)] [] (k18 l1 l2)) (l1 : UInt32) (l2 : Int32) : Sw g x (fun q : Int32 × Mw => (some (.int q.1), q.2)) M 0 0 18 [(0, .ref (gA g 50 0 0)), (1, .float l1), (2, .int l2)] [] (B_X10_load_18 M k18 l1 l2) := by
  unfold B_X10_load_18
  refine r_iload_n C 2 dX10_load_18 rfl rfl ?_
  refine r_aload_n C 0 dX10_load_19 rfl rfl ?_
  refine gf_50_1 C dX10_load_20 u_1106 in_50 ?_
  refine r_iconst (v := 4) C dX10_load_23 (by decide) ?_
  refine r_ialdc C dX10_load_24 in_51 (contW_51 g _ _ _ _ _) (by decide) (j := 4) (by decide) ?_
  refine r_icmp_ge (tgt := 51) C dX10_load_25 (by decide) (fun h7 => ?_) (fun h7 => ?_)
  · refine r_fload_n C 1 dX10_load_51 rfl rfl ?_
    refine r_callSRi (rest := []) C (c_Jxf58ca_floatToIntBits_5c35a l1 M) dX10_load_52 u_1378 u_1379 mi_Jxf58ca_floatToIntBits_5c35a (by decide) rfl rfl (Nat.le_of_ble_eq_true rfl) (xk1 hm (by decide)) (xn1 hm (by decide)) (fun v8 h9 => ?_)
    exact r_iret C dX10_load_55 rfl rfl (xk0 hm) (xn0 hm)
  · refine r_fload_n C 1 dX10_load_28 rfl rfl ?_
    refine r_aload_n C 0 dX10_load_29 rfl rfl ?_
    refine gf_50_16 C dX10_load_30 u_1121 in_50 ?_
    refine r_iload_n C 2 dX10_load_33 rfl rfl ?_
    refine r_iald C dX10_load_34 in_58 (contW_58 g _ _ _ _ _) (fun h10 => ?_)
    refine r_i2f C dX10_load_35 ?_
    refine r_aload_n C 0 dX10_load_36 rfl rfl ?_
    refine r_iload_n C 2 dX10_load_37 rfl rfl ?_
    refine r_callVRi (rest := [.float (FP.i2f (M.1 58 0 0 l2.toNatClampNeg)), .float l1]) C (c_X10_period l2 M) dX10_load_38 u_1332 in_50 (contW_50 g _ _ _ _ _) rfl u_1333 u_79 mi_X10_period (by decide) rfl rfl (Nat.le_of_ble_eq_true rfl) (xk1 hm (by decide)) (xn1 hm (by decide)) (fun v11 h12 => ?_)
    refine r_i2f C dX10_load_41 ?_
    refine r_fdiv C dX10_load_42 ?_
    refine r_fadd C dX10_load_43 ?_
    refine r_fstore_n (lv' := fun v13 => [(1, .float v13), (0, .ref (gA g 50 0 0)), (2, .int l2)]) C dX10_load_44 rfl (by decide) (fun _ => rfl) (fun v13 => ?_)
    refine r_iinc (c := 1) (lv' := fun v14 => [(2, .int v14), (1, .float v13), (0, .ref (gA g 50 0 0))]) C 2 dX10_load_45 rfl (by decide) (by decide) (fun _ => rfl) (fun v14 => ?_)
    refine r_goto (tgt := 18) C dX10_load_48 (by decide) ?_
    refine r_lv [2, 1, 0] rfl ?_
    exact hk18 v13 v14
set_option maxRecDepth 100000 in
set_option maxHeartbeats 4000000 in
theorem tl_X10_load_18 {g : Gw} {x : Xw} (C : Cw g x cX10_load RX10 3 (some .int) 6) (hm : x.2.2.2.2.2.2.2.2.2.2.2 = (0, 0)) (M : Mw) (n : Nat) : ∀ (l1 : UInt32) (l2 : Int32), Sw g x (fun q : Int32 × Mw => (some (.int q.1), q.2)) M 0 0 18 [(0, .ref (gA g 50 0 0)), (1, .float l1), (2, .int l2)] [] (it (fun _ _ => none) (B_X10_load_18 M) n l1 l2) := by
  induction n with
  | zero =>
    intro l1 l2
    exact r_none
  | succ n ih =>
    intro l1 l2
    exact t_X10_load_18 C hm M _ ih l1 l2
set_option maxRecDepth 100000 in
set_option maxHeartbeats 4000000 in
theorem c_X10_load {g : Gw} {l : Launch} (M : Mw) : Kw g l yX10_load cX10_load 3 (some .int) 6 0 0 [.ref (gA g 50 0 0)] M (fun q : Int32 × Mw => (some (.int q.1), q.2)) (F_X10_load M) := by
  refine Kw.of (own := RX10) (lv0 := [(0, .ref (gA g 50 0 0))]) (by decide +kernel) rfl (Nat.le_of_ble_eq_true rfl) rfl (fun x C hl hm => ?_)
  subst hl
  unfold F_X10_load
  refine r_aload_n C 0 dX10_load_0 rfl rfl ?_
  refine r_callVRi (rest := []) C (c_X10_isBoard M) dX10_load_1 u_1347 in_50 (contW_50 g _ _ _ _ _) rfl u_1348 u_81 mi_X10_isBoard (by decide) rfl rfl (Nat.le_of_ble_eq_true rfl) (xk1 hm (by decide)) (xn1 hm (by decide)) (fun v1 h2 => ?_)
  refine r_if_ne (tgt := 10) C dX10_load_4 (by decide) (fun h3 => ?_) (fun h3 => ?_)
  · refine r_bipush (v := (-2)) C dX10_load_7 (by decide) ?_
    exact r_iret C dX10_load_9 rfl rfl (xk0 hm) (xn0 hm)
  · refine r_aload_n C 0 dX10_load_10 rfl rfl ?_
    refine r_callVU (rest := []) C (c_X10_laysCosts M) dX10_load_11 u_1326 in_50 (contW_50 g _ _ _ _ _) rfl u_1327 u_77 mi_X10_laysCosts (by decide) rfl rfl (Nat.le_of_ble_eq_true rfl) (xk1 hm (by decide)) (xn1 hm (by decide)) (fun M4 h5 => ?_)
    refine r_fconst0 C dX10_load_14 ?_
    refine r_fstore_n (lv' := fun v6 => [(1, .float v6), (0, .ref (gA g 50 0 0))]) C dX10_load_15 rfl (by decide) (fun _ => rfl) (fun v6 => ?_)
    refine r_iconst (v := 0) C dX10_load_16 (by decide) ?_
    refine r_istore_n0 (lv' := [(2, .int 0), (1, .float v6), (0, .ref (gA g 50 0 0))]) C dX10_load_17 rfl (by decide) rfl ?_
    refine r_lv [2, 1, 0] rfl ?_
    exact tl_X10_load_18 C hm M4 FU v6 0
def B_X10_follower_24 (k8 : Int32 → Int32 → Option (Int32)) (l1 : Int32) (l2 : Int32) (l4 : Int32) (l5 : Int32) (M : Mw) : Option (Int32) :=
  ((F_X10_isBehind l1 l5 l2 M).bind (fun v5 => (if v5 = 0 then (bd (l4 - 0) (fun v8 => (bd (l5 + 1) (fun v9 => (k8 v8 v9))))) else (bd (l4 - 1) (fun v10 => (bd (l5 + 1) (fun v11 => (k8 v10 v11))))))))
def B_X10_follower_8 (l1 : Int32) (l2 : Int32) (M : Mw) (k8 : Int32 → Int32 → Option (Int32)) (l4 : Int32) (l5 : Int32) : Option (Int32) :=
  ((F_X10_isBehind l1 l5 l2 M).bind (fun v2 => (if v2 = 0 then (B_X10_follower_24 k8 l1 l2 l4 l5 M) else (if l4 ≤ 0 then some l5 else (B_X10_follower_24 k8 l1 l2 l4 l5 M)))))
def F_X10_follower (p1 : Int32) (p2 : Int32) (p3 : Int32) (M : Mw) : Option (Int32) :=
  (bd (p2 + 1) (fun v1 => (it (fun _ _ => none) (B_X10_follower_8 p1 p2 M) FU p3 v1)))
set_option maxRecDepth 100000 in
set_option maxHeartbeats 4000000 in
theorem t_X10_follower_24 {g : Gw} {x : Xw} (C : Cw g x cX10_follower RX10 6 (some .int) 2) (hm : x.2.2.2.2.2.2.2.2.2.2.2 = (0, 0)) (M : Mw) (k8 : Int32 → Int32 → Option (Int32)) (l1 : Int32) (l2 : Int32) (l4 : Int32) (l5 : Int32) (hk8 : ∀ (l4 : Int32) (l5 : Int32), Sw g x (fun v : Int32 => (some (.int v), M)) M 0 0 8 [(0, .ref (gA g 50 0 0)), (1, .int l1), (2, .int l2), (4, .int l4), (5, .int l5)] [] (k8 l4 l5)) : Sw g x (fun v : Int32 => (some (.int v), M)) M 0 0 24 [(0, .ref (gA g 50 0 0)), (1, .int l1), (2, .int l2), (4, .int l4), (5, .int l5)] [] (B_X10_follower_24 k8 l1 l2 l4 l5 M) := by
  unfold B_X10_follower_24
  refine r_iload C 3 dX10_follower_24 rfl ?_
  refine r_aload_n C 0 dX10_follower_26 rfl rfl ?_
  refine r_iload_n C 1 dX10_follower_27 rfl rfl ?_
  refine r_iload C 4 dX10_follower_28 rfl ?_
  refine r_iload_n C 2 dX10_follower_30 rfl rfl ?_
  refine r_callVRi (rest := [.int l4]) C (c_X10_isBehind l1 l5 l2 M) dX10_follower_31 u_1286 in_50 (contW_50 g _ _ _ _ _) rfl u_1287 u_71 mi_X10_isBehind (by decide) rfl rfl (Nat.le_of_ble_eq_true rfl) (xk1 hm (by decide)) (xn1 hm (by decide)) (fun v5 h6 => ?_)
  refine r_if_eq (tgt := 41) C dX10_follower_34 (by decide) (fun h7 => ?_) (fun h7 => ?_)
  · refine r_iconst (v := 0) C dX10_follower_41 (by decide) ?_
    refine r_isub C dX10_follower_42 ?_
    refine r_istore (lv' := fun v8 => [(4, .int v8), (0, .ref (gA g 50 0 0)), (1, .int l1), (2, .int l2), (5, .int l5)]) C dX10_follower_43 (by decide) (fun _ => rfl) (fun v8 => ?_)
    refine r_iinc (c := 1) (lv' := fun v9 => [(5, .int v9), (4, .int v8), (0, .ref (gA g 50 0 0)), (1, .int l1), (2, .int l2)]) C 4 dX10_follower_45 rfl (by decide) (by decide) (fun _ => rfl) (fun v9 => ?_)
    refine r_goto (tgt := 8) C dX10_follower_48 (by decide) ?_
    refine r_lv [2, 3, 4, 1, 0] rfl ?_
    exact hk8 v8 v9
  · refine r_iconst (v := 1) C dX10_follower_37 (by decide) ?_
    refine r_goto (tgt := 42) C dX10_follower_38 (by decide) ?_
    refine r_isub C dX10_follower_42 ?_
    refine r_istore (lv' := fun v10 => [(4, .int v10), (0, .ref (gA g 50 0 0)), (1, .int l1), (2, .int l2), (5, .int l5)]) C dX10_follower_43 (by decide) (fun _ => rfl) (fun v10 => ?_)
    refine r_iinc (c := 1) (lv' := fun v11 => [(5, .int v11), (4, .int v10), (0, .ref (gA g 50 0 0)), (1, .int l1), (2, .int l2)]) C 4 dX10_follower_45 rfl (by decide) (by decide) (fun _ => rfl) (fun v11 => ?_)
    refine r_goto (tgt := 8) C dX10_follower_48 (by decide) ?_
    refine r_lv [2, 3, 4, 1, 0] rfl ?_
    exact hk8 v10 v11
set_option maxRecDepth 100000 in
set_option maxHeartbeats 4000000 in
theorem t_X10_follower_8 {g : Gw} {x : Xw} (C : Cw g x cX10_follower RX10 6 (some .int) 2) (hm : x.2.2.2.2.2.2.2.2.2.2.2 = (0, 0)) (M : Mw) (l1 : Int32) (l2 : Int32) (k8 : Int32 → Int32 → Option (Int32)) (hk8 : ∀ (l4 : Int32) (l5 : Int32), Sw g x (fun v : Int32 => (some (.int v), M)) M 0 0 8 [(0, .ref (gA g 50 0 0)), (1, .int l1), (2, .int l2), (4, .int l4), (5, .int l5)] [] (k8 l4 l5)) (l4 : Int32) (l5 : Int32) : Sw g x (fun v : Int32 => (some (.int v), M)) M 0 0 8 [(0, .ref (gA g 50 0 0)), (1, .int l1), (2, .int l2), (4, .int l4), (5, .int l5)] [] (B_X10_follower_8 l1 l2 M k8 l4 l5) := by
  unfold B_X10_follower_8
  refine r_aload_n C 0 dX10_follower_8 rfl rfl ?_
  refine r_iload_n C 1 dX10_follower_9 rfl rfl ?_
  refine r_iload C 4 dX10_follower_10 rfl ?_
  refine r_iload_n C 2 dX10_follower_12 rfl rfl ?_
  refine r_callVRi (rest := []) C (c_X10_isBehind l1 l5 l2 M) dX10_follower_13 u_1286 in_50 (contW_50 g _ _ _ _ _) rfl u_1287 u_71 mi_X10_isBehind (by decide) rfl rfl (Nat.le_of_ble_eq_true rfl) (xk1 hm (by decide)) (xn1 hm (by decide)) (fun v2 h3 => ?_)
  refine r_if_eq (tgt := 24) C dX10_follower_16 (by decide) (fun h4 => ?_) (fun h4 => ?_)
  · exact t_X10_follower_24 C hm M k8 l1 l2 l4 l5 hk8
  · refine r_iload C 3 dX10_follower_19 rfl ?_
    refine r_if_le (tgt := 51) C dX10_follower_21 (by decide) (fun h12 => ?_) (fun h12 => ?_)
    · refine r_iload C 4 dX10_follower_51 rfl ?_
      exact r_iret C dX10_follower_53 rfl rfl (xk0 hm) (xn0 hm)
    · exact t_X10_follower_24 C hm M k8 l1 l2 l4 l5 hk8
set_option maxRecDepth 100000 in
set_option maxHeartbeats 4000000 in
theorem tl_X10_follower_8 {g : Gw} {x : Xw} (C : Cw g x cX10_follower RX10 6 (some .int) 2) (hm : x.2.2.2.2.2.2.2.2.2.2.2 = (0, 0)) (M : Mw) (l1 : Int32) (l2 : Int32) (n : Nat) : ∀ (l4 : Int32) (l5 : Int32), Sw g x (fun v : Int32 => (some (.int v), M)) M 0 0 8 [(0, .ref (gA g 50 0 0)), (1, .int l1), (2, .int l2), (4, .int l4), (5, .int l5)] [] (it (fun _ _ => none) (B_X10_follower_8 l1 l2 M) n l4 l5) := by
  induction n with
  | zero =>
    intro l4 l5
    exact r_none
  | succ n ih =>
    intro l4 l5
    exact t_X10_follower_8 C hm M l1 l2 _ ih l4 l5
set_option maxRecDepth 100000 in
set_option maxHeartbeats 4000000 in
theorem c_X10_follower {g : Gw} {l : Launch} (p1 : Int32) (p2 : Int32) (p3 : Int32) (M : Mw) : Kw g l yX10_follower cX10_follower 6 (some .int) 2 0 0 [.ref (gA g 50 0 0), .int p1, .int p2, .int p3] M (fun v : Int32 => (some (.int v), M)) (F_X10_follower p1 p2 p3 M) := by
  refine Kw.of (own := RX10) (lv0 := [(0, .ref (gA g 50 0 0)), (1, .int p1), (2, .int p2), (3, .int p3)]) (by decide +kernel) rfl (Nat.le_of_ble_eq_true rfl) rfl (fun x C hl hm => ?_)
  subst hl
  unfold F_X10_follower
  refine r_iload_n C 3 dX10_follower_0 rfl rfl ?_
  refine r_istore0 (lv' := [(4, .int p3), (0, .ref (gA g 50 0 0)), (1, .int p1), (2, .int p2), (3, .int p3)]) C dX10_follower_1 (by decide) rfl ?_
  refine r_iload_n C 3 dX10_follower_3 rfl rfl ?_
  refine r_iconst (v := 1) C dX10_follower_4 (by decide) ?_
  refine r_iadd C dX10_follower_5 ?_
  refine r_istore (lv' := fun v1 => [(5, .int v1), (4, .int p3), (0, .ref (gA g 50 0 0)), (1, .int p1), (2, .int p2), (3, .int p3)]) C dX10_follower_6 (by decide) (fun _ => rfl) (fun v1 => ?_)
  refine r_lv [2, 3, 4, 1, 0] rfl ?_
  exact tl_X10_follower_8 C hm M p1 p2 FU p3 v1
def B_X10_path_33 (l1 : Int32) (l2 : Int32) (l3 : Int32) (M : Mw) (k33 : Int32 → Int32 → Option (Int32)) (l4 : Int32) (l5 : Int32) : Option (Int32) :=
  (if l3 ≤ l5 then some l4 else ((F_X10_followers l1 l4 M).bind (fun v9 => (if v9 = 0 then some (-1) else ((F_X10_followers l1 l4 M).bind (fun v12 => (if v12 = 0 then none else ((F_X10_follower l1 l4 (l2 - l2 / v12 * v12) M).bind (fun v15 => (bd (l5 + 1) (fun v17 => (k33 v15 v17))))))))))))
def F_X10_path (p1 : Int32) (p2 : Int32) (p3 : Int32) (M : Mw) : Option (Int32) :=
  ((F_X10_isTask p1 M).bind (fun v1 => (if v1 = 0 then some (-2) else ((F_X10_in ((p2).toInt64) 0 50 M).bind (fun v4 => (if v4 = 0 then some (-2) else (if 0 ≤ p3 then (it (fun _ _ => none) (B_X10_path_33 p1 p2 p3 M) FU 0 0) else some (-2))))))))
set_option maxRecDepth 100000 in
set_option maxHeartbeats 4000000 in
theorem t_X10_path_33 {g : Gw} {x : Xw} (C : Cw g x cX10_path RX10 6 (some .int) 4) (hm : x.2.2.2.2.2.2.2.2.2.2.2 = (0, 0)) (M : Mw) (l1 : Int32) (l2 : Int32) (l3 : Int32) (k33 : Int32 → Int32 → Option (Int32)) (hk33 : ∀ (l4 : Int32) (l5 : Int32), Sw g x (fun v : Int32 => (some (.int v), M)) M 0 0 33 [(0, .ref (gA g 50 0 0)), (1, .int l1), (2, .int l2), (3, .int l3), (4, .int l4), (5, .int l5)] [] (k33 l4 l5)) (l4 : Int32) (l5 : Int32) : Sw g x (fun v : Int32 => (some (.int v), M)) M 0 0 33 [(0, .ref (gA g 50 0 0)), (1, .int l1), (2, .int l2), (3, .int l3), (4, .int l4), (5, .int l5)] [] (B_X10_path_33 l1 l2 l3 M k33 l4 l5) := by
  unfold B_X10_path_33
  refine r_iload C 5 dX10_path_33 rfl ?_
  refine r_iload_n C 3 dX10_path_35 rfl rfl ?_
  refine r_icmp_ge (tgt := 75) C dX10_path_36 (by decide) (fun h8 => ?_) (fun h8 => ?_)
  · refine r_iload C 4 dX10_path_75 rfl ?_
    exact r_iret C dX10_path_77 rfl rfl (xk0 hm) (xn0 hm)
  · refine r_aload_n C 0 dX10_path_39 rfl rfl ?_
    refine r_iload_n C 1 dX10_path_40 rfl rfl ?_
    refine r_iload C 4 dX10_path_41 rfl ?_
    refine r_callVRi (rest := []) C (c_X10_followers l1 l4 M) dX10_path_43 u_1314 in_50 (contW_50 g _ _ _ _ _) rfl u_1315 u_76 mi_X10_followers (by decide) rfl rfl (Nat.le_of_ble_eq_true rfl) (xk1 hm (by decide)) (xn1 hm (by decide)) (fun v9 h10 => ?_)
    refine r_if_ne (tgt := 51) C dX10_path_46 (by decide) (fun h11 => ?_) (fun h11 => ?_)
    · refine r_iconst (v := (-1)) C dX10_path_49 (by decide) ?_
      exact r_iret C dX10_path_50 rfl rfl (xk0 hm) (xn0 hm)
    · refine r_aload_n C 0 dX10_path_51 rfl rfl ?_
      refine r_iload_n C 1 dX10_path_52 rfl rfl ?_
      refine r_iload C 4 dX10_path_53 rfl ?_
      refine r_iload_n C 2 dX10_path_55 rfl rfl ?_
      refine r_aload_n C 0 dX10_path_56 rfl rfl ?_
      refine r_iload_n C 1 dX10_path_57 rfl rfl ?_
      refine r_iload C 4 dX10_path_58 rfl ?_
      refine r_callVRi (rest := [.int l2, .int l4, .int l1, .ref (gA g 50 0 0)]) C (c_X10_followers l1 l4 M) dX10_path_60 u_1314 in_50 (contW_50 g _ _ _ _ _) rfl u_1315 u_76 mi_X10_followers (by decide) rfl rfl (Nat.le_of_ble_eq_true rfl) (xk1 hm (by decide)) (xn1 hm (by decide)) (fun v12 h13 => ?_)
      refine r_irem C dX10_path_63 (fun h14 => ?_)
      refine r_callVRi (rest := []) C (c_X10_follower l1 l4 (l2 - l2 / v12 * v12) M) dX10_path_64 u_1393 in_50 (contW_50 g _ _ _ _ _) rfl u_1394 u_86 mi_X10_follower (by decide) rfl rfl (Nat.le_of_ble_eq_true rfl) (xk1 hm (by decide)) (xn1 hm (by decide)) (fun v15 h16 => ?_)
      refine r_istore0 (lv' := [(4, .int v15), (0, .ref (gA g 50 0 0)), (1, .int l1), (2, .int l2), (3, .int l3), (5, .int l5)]) C dX10_path_67 (by decide) rfl ?_
      refine r_iinc (c := 1) (lv' := fun v17 => [(5, .int v17), (4, .int v15), (0, .ref (gA g 50 0 0)), (1, .int l1), (2, .int l2), (3, .int l3)]) C 5 dX10_path_69 rfl (by decide) (by decide) (fun _ => rfl) (fun v17 => ?_)
      refine r_goto (tgt := 33) C dX10_path_72 (by decide) ?_
      refine r_lv [2, 3, 4, 5, 1, 0] rfl ?_
      exact hk33 v15 v17
set_option maxRecDepth 100000 in
set_option maxHeartbeats 4000000 in
theorem tl_X10_path_33 {g : Gw} {x : Xw} (C : Cw g x cX10_path RX10 6 (some .int) 4) (hm : x.2.2.2.2.2.2.2.2.2.2.2 = (0, 0)) (M : Mw) (l1 : Int32) (l2 : Int32) (l3 : Int32) (n : Nat) : ∀ (l4 : Int32) (l5 : Int32), Sw g x (fun v : Int32 => (some (.int v), M)) M 0 0 33 [(0, .ref (gA g 50 0 0)), (1, .int l1), (2, .int l2), (3, .int l3), (4, .int l4), (5, .int l5)] [] (it (fun _ _ => none) (B_X10_path_33 l1 l2 l3 M) n l4 l5) := by
  induction n with
  | zero =>
    intro l4 l5
    exact r_none
  | succ n ih =>
    intro l4 l5
    exact t_X10_path_33 C hm M l1 l2 l3 _ ih l4 l5
set_option maxRecDepth 100000 in
set_option maxHeartbeats 4000000 in
theorem c_X10_path {g : Gw} {l : Launch} (p1 : Int32) (p2 : Int32) (p3 : Int32) (M : Mw) : Kw g l yX10_path cX10_path 6 (some .int) 4 0 0 [.ref (gA g 50 0 0), .int p1, .int p2, .int p3] M (fun v : Int32 => (some (.int v), M)) (F_X10_path p1 p2 p3 M) := by
  refine Kw.of (own := RX10) (lv0 := [(0, .ref (gA g 50 0 0)), (1, .int p1), (2, .int p2), (3, .int p3)]) (by decide +kernel) rfl (Nat.le_of_ble_eq_true rfl) rfl (fun x C hl hm => ?_)
  subst hl
  unfold F_X10_path
  refine r_aload_n C 0 dX10_path_0 rfl rfl ?_
  refine r_iload_n C 1 dX10_path_1 rfl rfl ?_
  refine r_callVRi (rest := []) C (c_X10_isTask p1 M) dX10_path_2 u_1266 in_50 (contW_50 g _ _ _ _ _) rfl u_1267 u_66 mi_X10_isTask (by decide) rfl rfl (Nat.le_of_ble_eq_true rfl) (xk1 hm (by decide)) (xn1 hm (by decide)) (fun v1 h2 => ?_)
  refine r_if_eq (tgt := 24) C dX10_path_5 (by decide) (fun h3 => ?_) (fun h3 => ?_)
  · refine r_bipush (v := (-2)) C dX10_path_24 (by decide) ?_
    exact r_iret C dX10_path_26 rfl rfl (xk0 hm) (xn0 hm)
  · refine r_iload_n C 2 dX10_path_8 rfl rfl ?_
    refine r_i2l C dX10_path_9 ?_
    refine r_lconst (v := 0) C dX10_path_10 (by decide) ?_
    refine r_ldc2 (v := 50) C u_1392 dX10_path_11 ?_
    refine r_callSRi (rest := []) C (c_X10_in ((p2).toInt64) 0 50 M) dX10_path_14 u_1174 u_1175 mi_X10_in (by decide) rfl rfl (Nat.le_of_ble_eq_true rfl) (xk1 hm (by decide)) (xn1 hm (by decide)) (fun v4 h5 => ?_)
    refine r_if_eq (tgt := 24) C dX10_path_17 (by decide) (fun h6 => ?_) (fun h6 => ?_)
    · refine r_bipush (v := (-2)) C dX10_path_24 (by decide) ?_
      exact r_iret C dX10_path_26 rfl rfl (xk0 hm) (xn0 hm)
    · refine r_iload_n C 3 dX10_path_20 rfl rfl ?_
      refine r_if_ge (tgt := 27) C dX10_path_21 (by decide) (fun h7 => ?_) (fun h7 => ?_)
      · refine r_iconst (v := 0) C dX10_path_27 (by decide) ?_
        refine r_istore0 (lv' := [(4, .int 0), (0, .ref (gA g 50 0 0)), (1, .int p1), (2, .int p2), (3, .int p3)]) C dX10_path_28 (by decide) rfl ?_
        refine r_iconst (v := 0) C dX10_path_30 (by decide) ?_
        refine r_istore0 (lv' := [(5, .int 0), (4, .int 0), (0, .ref (gA g 50 0 0)), (1, .int p1), (2, .int p2), (3, .int p3)]) C dX10_path_31 (by decide) rfl ?_
        refine r_lv [2, 3, 4, 5, 1, 0] rfl ?_
        exact tl_X10_path_33 C hm M p1 p2 p3 FU 0 0
      · refine r_bipush (v := (-2)) C dX10_path_24 (by decide) ?_
        exact r_iret C dX10_path_26 rfl rfl (xk0 hm) (xn0 hm)
def F_X10_answered (p1 : Int32) (p2 : Int32) (M : Mw) : Option (Int32) :=
  (if 64 = 0 then none else some ((((5 * p1) + p2) + 1) - (((5 * p1) + p2) + 1) / 64 * 64))
set_option maxRecDepth 100000 in
set_option maxHeartbeats 4000000 in
theorem c_X10_answered {g : Gw} {l : Launch} (p1 : Int32) (p2 : Int32) (M : Mw) : Kw g l yX10_answered cX10_answered 2 (some .int) 1 0 0 [.int p1, .int p2] M (fun v : Int32 => (some (.int v), M)) (F_X10_answered p1 p2 M) := by
  refine Kw.of (own := RX10) (lv0 := [(0, .int p1), (1, .int p2)]) (by decide +kernel) rfl (Nat.le_of_ble_eq_true rfl) rfl (fun x C hl hm => ?_)
  subst hl
  unfold F_X10_answered
  refine r_iconst (v := 5) C dX10_answered_0 (by decide) ?_
  refine r_iload_n C 0 dX10_answered_1 rfl rfl ?_
  refine r_imul C dX10_answered_2 ?_
  refine r_iload_n C 1 dX10_answered_3 rfl rfl ?_
  refine r_iadd C dX10_answered_4 ?_
  refine r_iconst (v := 1) C dX10_answered_5 (by decide) ?_
  refine r_iadd C dX10_answered_6 ?_
  refine r_bipush (v := 64) C dX10_answered_7 (by decide) ?_
  refine r_irem C dX10_answered_9 (fun h1 => ?_)
  exact r_iret C dX10_answered_10 rfl rfl (xk0 hm) (xn0 hm)
def B_X10_answer_45 (l1 : Int32) (l2 : Int32) (M : Mw) (k45 : Int32 → Int32 → Option (Int32)) (l4 : Int32) (l5 : Int32) : Option (Int32) :=
  ((F_X10_followers l1 l4 M).bind (fun v12 => (if v12 ≤ 0 then some l5 else ((F_X10_followers l1 l4 M).bind (fun v15 => (if v15 = 0 then none else ((F_X10_follower l1 l4 (l2 - l2 / v15 * v15) M).bind (fun v18 => ((F_X10_answered l5 v18 M).bind (fun v20 => (k45 v18 v20)))))))))))
def F_X10_answer (p1 : Int32) (p2 : Int32) (p3 : Int32) (M : Mw) : Option (Int32) :=
  ((F_X10_isTask p1 M).bind (fun v1 => (if v1 = 0 then some (-2) else ((F_X10_in ((p2).toInt64) 0 50 M).bind (fun v4 => (if v4 = 0 then some (-2) else ((F_X10_in ((p3).toInt64) 0 63 M).bind (fun v7 => (if v7 = 0 then some (-2) else ((F_X10_answered p3 0 M).bind (fun v10 => (it (fun _ _ => none) (B_X10_answer_45 p1 p2 M) FU 0 v10))))))))))))
set_option maxRecDepth 100000 in
set_option maxHeartbeats 4000000 in
theorem t_X10_answer_45 {g : Gw} {x : Xw} (C : Cw g x cX10_answer RX10 6 (some .int) 4) (hm : x.2.2.2.2.2.2.2.2.2.2.2 = (0, 0)) (M : Mw) (l1 : Int32) (l2 : Int32) (k45 : Int32 → Int32 → Option (Int32)) (hk45 : ∀ (l4 : Int32) (l5 : Int32), Sw g x (fun v : Int32 => (some (.int v), M)) M 0 0 45 [(0, .ref (gA g 50 0 0)), (1, .int l1), (2, .int l2), (4, .int l4), (5, .int l5)] [] (k45 l4 l5)) (l4 : Int32) (l5 : Int32) : Sw g x (fun v : Int32 => (some (.int v), M)) M 0 0 45 [(0, .ref (gA g 50 0 0)), (1, .int l1), (2, .int l2), (4, .int l4), (5, .int l5)] [] (B_X10_answer_45 l1 l2 M k45 l4 l5) := by
  unfold B_X10_answer_45
  refine r_aload_n C 0 dX10_answer_45 rfl rfl ?_
  refine r_iload_n C 1 dX10_answer_46 rfl rfl ?_
  refine r_iload C 3 dX10_answer_47 rfl ?_
  refine r_callVRi (rest := []) C (c_X10_followers l1 l4 M) dX10_answer_49 u_1314 in_50 (contW_50 g _ _ _ _ _) rfl u_1315 u_76 mi_X10_followers (by decide) rfl rfl (Nat.le_of_ble_eq_true rfl) (xk1 hm (by decide)) (xn1 hm (by decide)) (fun v12 h13 => ?_)
  refine r_if_le (tgt := 85) C dX10_answer_52 (by decide) (fun h14 => ?_) (fun h14 => ?_)
  · refine r_iload C 4 dX10_answer_85 rfl ?_
    exact r_iret C dX10_answer_87 rfl rfl (xk0 hm) (xn0 hm)
  · refine r_aload_n C 0 dX10_answer_55 rfl rfl ?_
    refine r_iload_n C 1 dX10_answer_56 rfl rfl ?_
    refine r_iload C 3 dX10_answer_57 rfl ?_
    refine r_iload_n C 2 dX10_answer_59 rfl rfl ?_
    refine r_aload_n C 0 dX10_answer_60 rfl rfl ?_
    refine r_iload_n C 1 dX10_answer_61 rfl rfl ?_
    refine r_iload C 3 dX10_answer_62 rfl ?_
    refine r_callVRi (rest := [.int l2, .int l4, .int l1, .ref (gA g 50 0 0)]) C (c_X10_followers l1 l4 M) dX10_answer_64 u_1314 in_50 (contW_50 g _ _ _ _ _) rfl u_1315 u_76 mi_X10_followers (by decide) rfl rfl (Nat.le_of_ble_eq_true rfl) (xk1 hm (by decide)) (xn1 hm (by decide)) (fun v15 h16 => ?_)
    refine r_irem C dX10_answer_67 (fun h17 => ?_)
    refine r_callVRi (rest := []) C (c_X10_follower l1 l4 (l2 - l2 / v15 * v15) M) dX10_answer_68 u_1393 in_50 (contW_50 g _ _ _ _ _) rfl u_1394 u_86 mi_X10_follower (by decide) rfl rfl (Nat.le_of_ble_eq_true rfl) (xk1 hm (by decide)) (xn1 hm (by decide)) (fun v18 h19 => ?_)
    refine r_istore0 (lv' := [(4, .int v18), (0, .ref (gA g 50 0 0)), (1, .int l1), (2, .int l2), (5, .int l5)]) C dX10_answer_71 (by decide) rfl ?_
    refine r_iload C 4 dX10_answer_73 rfl ?_
    refine r_iload C 0 dX10_answer_75 rfl ?_
    refine r_callSRi (rest := []) C (c_X10_answered l5 v18 M) dX10_answer_77 u_1401 u_1402 mi_X10_answered (by decide) rfl rfl (Nat.le_of_ble_eq_true rfl) (xk1 hm (by decide)) (xn1 hm (by decide)) (fun v20 h21 => ?_)
    refine r_istore0 (lv' := [(5, .int v20), (4, .int v18), (0, .ref (gA g 50 0 0)), (1, .int l1), (2, .int l2)]) C dX10_answer_80 (by decide) rfl ?_
    refine r_goto (tgt := 45) C dX10_answer_82 (by decide) ?_
    refine r_lv [2, 3, 4, 1, 0] rfl ?_
    exact hk45 v18 v20
set_option maxRecDepth 100000 in
set_option maxHeartbeats 4000000 in
theorem tl_X10_answer_45 {g : Gw} {x : Xw} (C : Cw g x cX10_answer RX10 6 (some .int) 4) (hm : x.2.2.2.2.2.2.2.2.2.2.2 = (0, 0)) (M : Mw) (l1 : Int32) (l2 : Int32) (n : Nat) : ∀ (l4 : Int32) (l5 : Int32), Sw g x (fun v : Int32 => (some (.int v), M)) M 0 0 45 [(0, .ref (gA g 50 0 0)), (1, .int l1), (2, .int l2), (4, .int l4), (5, .int l5)] [] (it (fun _ _ => none) (B_X10_answer_45 l1 l2 M) n l4 l5) := by
  induction n with
  | zero =>
    intro l4 l5
    exact r_none
  | succ n ih =>
    intro l4 l5
    exact t_X10_answer_45 C hm M l1 l2 _ ih l4 l5
set_option maxRecDepth 100000 in
set_option maxHeartbeats 4000000 in
theorem c_X10_answer {g : Gw} {l : Launch} (p1 : Int32) (p2 : Int32) (p3 : Int32) (M : Mw) : Kw g l yX10_answer cX10_answer 6 (some .int) 4 0 0 [.ref (gA g 50 0 0), .int p1, .int p2, .int p3] M (fun v : Int32 => (some (.int v), M)) (F_X10_answer p1 p2 p3 M) := by
  refine Kw.of (own := RX10) (lv0 := [(0, .ref (gA g 50 0 0)), (1, .int p1), (2, .int p2), (3, .int p3)]) (by decide +kernel) rfl (Nat.le_of_ble_eq_true rfl) rfl (fun x C hl hm => ?_)
  subst hl
  unfold F_X10_answer
  refine r_aload_n C 0 dX10_answer_0 rfl rfl ?_
  refine r_iload_n C 1 dX10_answer_1 rfl rfl ?_
  refine r_callVRi (rest := []) C (c_X10_isTask p1 M) dX10_answer_2 u_1266 in_50 (contW_50 g _ _ _ _ _) rfl u_1267 u_66 mi_X10_isTask (by decide) rfl rfl (Nat.le_of_ble_eq_true rfl) (xk1 hm (by decide)) (xn1 hm (by decide)) (fun v1 h2 => ?_)
  refine r_if_eq (tgt := 32) C dX10_answer_5 (by decide) (fun h3 => ?_) (fun h3 => ?_)
  · refine r_bipush (v := (-2)) C dX10_answer_32 (by decide) ?_
    exact r_iret C dX10_answer_34 rfl rfl (xk0 hm) (xn0 hm)
  · refine r_iload_n C 2 dX10_answer_8 rfl rfl ?_
    refine r_i2l C dX10_answer_9 ?_
    refine r_lconst (v := 0) C dX10_answer_10 (by decide) ?_
    refine r_ldc2 (v := 50) C u_1392 dX10_answer_11 ?_
    refine r_callSRi (rest := []) C (c_X10_in ((p2).toInt64) 0 50 M) dX10_answer_14 u_1174 u_1175 mi_X10_in (by decide) rfl rfl (Nat.le_of_ble_eq_true rfl) (xk1 hm (by decide)) (xn1 hm (by decide)) (fun v4 h5 => ?_)
    refine r_if_eq (tgt := 32) C dX10_answer_17 (by decide) (fun h6 => ?_) (fun h6 => ?_)
    · refine r_bipush (v := (-2)) C dX10_answer_32 (by decide) ?_
      exact r_iret C dX10_answer_34 rfl rfl (xk0 hm) (xn0 hm)
    · refine r_iload_n C 3 dX10_answer_20 rfl rfl ?_
      refine r_i2l C dX10_answer_21 ?_
      refine r_lconst (v := 0) C dX10_answer_22 (by decide) ?_
      refine r_ldc2 (v := 63) C u_1400 dX10_answer_23 ?_
      refine r_callSRi (rest := []) C (c_X10_in ((p3).toInt64) 0 63 M) dX10_answer_26 u_1174 u_1175 mi_X10_in (by decide) rfl rfl (Nat.le_of_ble_eq_true rfl) (xk1 hm (by decide)) (xn1 hm (by decide)) (fun v7 h8 => ?_)
      refine r_if_ne (tgt := 35) C dX10_answer_29 (by decide) (fun h9 => ?_) (fun h9 => ?_)
      · refine r_bipush (v := (-2)) C dX10_answer_32 (by decide) ?_
        exact r_iret C dX10_answer_34 rfl rfl (xk0 hm) (xn0 hm)
      · refine r_iconst (v := 0) C dX10_answer_35 (by decide) ?_
        refine r_istore0 (lv' := [(4, .int 0), (0, .ref (gA g 50 0 0)), (1, .int p1), (2, .int p2), (3, .int p3)]) C dX10_answer_36 (by decide) rfl ?_
        refine r_iload_n C 4 dX10_answer_38 rfl rfl ?_
        refine r_iconst (v := 0) C dX10_answer_39 (by decide) ?_
        refine r_callSRi (rest := []) C (c_X10_answered p3 0 M) dX10_answer_40 u_1401 u_1402 mi_X10_answered (by decide) rfl rfl (Nat.le_of_ble_eq_true rfl) (xk1 hm (by decide)) (xn1 hm (by decide)) (fun v10 h11 => ?_)
        refine r_istore0 (lv' := [(5, .int v10), (4, .int 0), (0, .ref (gA g 50 0 0)), (1, .int p1), (2, .int p2), (3, .int p3)]) C dX10_answer_43 (by decide) rfl ?_
        refine r_lv [2, 3, 4, 1, 0] rfl ?_
        exact tl_X10_answer_45 C hm M p1 p2 FU 0 v10
