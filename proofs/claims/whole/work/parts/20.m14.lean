def F_X10_toldBy (t1 : Nat) (p2 : Int32) (p3 : Int32) (M : Mw) : Option (Int32 × Mw) :=
  ((F_X10_expects t1 M).bind (fun M1 => ((F_X10_takes p2 p3 M1).bind (fun q3 => some (q3.1, q3.2)))))
set_option maxRecDepth 100000 in
set_option maxHeartbeats 4000000 in
theorem c_X10_toldBy {g : Gw} {l : Launch} {t1 : Nat} (ht1 : t1 < nStW) (p2 : Int32) (p3 : Int32) (M : Mw) : Kw g l yX10_toldBy cX10_toldBy 4 (some .int) 9 0 0 [.ref (gA g 50 0 0), .ref (gK g t1), .int p2, .int p3] M (fun q : Int32 × Mw => (some (.int q.1), q.2)) (F_X10_toldBy t1 p2 p3 M) := by
  refine Kw.of (own := RX10) (lv0 := [(0, .ref (gA g 50 0 0)), (1, .ref (gK g t1)), (2, .int p2), (3, .int p3)]) (by decide +kernel) rfl (Nat.le_of_ble_eq_true rfl) rfl (fun x C hl hm => ?_)
  subst hl
  unfold F_X10_toldBy
  refine r_aload_n C 0 dX10_toldBy_0 rfl rfl ?_
  refine r_aload_n C 1 dX10_toldBy_1 rfl rfl ?_
  refine r_callVU (rest := []) C (c_X10_expects ht1 M) dX10_toldBy_2 u_1229 in_50 (contW_50 g _ _ _ _ _) rfl u_1230 u_55 mi_X10_expects (by decide) rfl rfl (Nat.le_of_ble_eq_true rfl) (xk1 hm (by decide)) (xn1 hm (by decide)) (fun M1 h2 => ?_)
  refine r_aload_n C 0 dX10_toldBy_5 rfl rfl ?_
  refine r_iload_n C 2 dX10_toldBy_6 rfl rfl ?_
  refine r_iload_n C 3 dX10_toldBy_7 rfl rfl ?_
  refine r_callVWi (rest := []) C (c_X10_takes p2 p3 M1) dX10_toldBy_8 u_1238 in_50 (contW_50 g _ _ _ _ _) rfl u_1239 u_58 mi_X10_takes (by decide) rfl rfl (Nat.le_of_ble_eq_true rfl) (xk1 hm (by decide)) (xn1 hm (by decide)) (fun q3 h4 => ?_)
  exact r_iret C dX10_toldBy_11 rfl rfl (xk0 hm) (xn0 hm)
def F_X10_readBoard (M : Mw) : Option (Mw) :=
  ((F_X10_expects 1 M).bind (fun M1 => ((F_X10_toldBy 19 20 200 M1).bind (fun q3 => (bd (uIw q3.2 56 0 0 0 q3.1) (fun M5 => ((F_X10_toldBy 3 5 50 M5).bind (fun q6 => (bd (uIw q6.2 56 0 0 1 q6.1) (fun M8 => ((F_X10_toldBy 7 0 9 M8).bind (fun q9 => (bd (uIw q9.2 56 0 0 2 q9.1) (fun M11 => some M11))))))))))))))
set_option maxRecDepth 100000 in
set_option maxHeartbeats 4000000 in
theorem c_X10_readBoard {g : Gw} {l : Launch} (M : Mw) : Kw g l yX10_readBoard cX10_readBoard 1 none 10 0 0 [.ref (gA g 50 0 0)] M (fun M : Mw => (none, M)) (F_X10_readBoard M) := by
  refine Kw.of (own := RX10) (lv0 := [(0, .ref (gA g 50 0 0))]) (by decide +kernel) rfl (Nat.le_of_ble_eq_true rfl) rfl (fun x C hl hm => ?_)
  subst hl
  unfold F_X10_readBoard
  refine r_aload_n C 0 dX10_readBoard_0 rfl rfl ?_
  refine r_ldcS (i := 1) (tx := "board") C (by decide) dX10_readBoard_1 ?_
  refine r_callVU (rest := []) C (c_X10_expects (by decide) M) dX10_readBoard_3 u_1229 in_50 (contW_50 g _ _ _ _ _) rfl u_1230 u_55 mi_X10_expects (by decide) rfl rfl (Nat.le_of_ble_eq_true rfl) (xk1 hm (by decide)) (xn1 hm (by decide)) (fun M1 h2 => ?_)
  refine r_aload_n C 0 dX10_readBoard_6 rfl rfl ?_
  refine gf_50_14 C dX10_readBoard_7 u_1119 in_50 ?_
  refine r_iconst (v := 0) C dX10_readBoard_10 (by decide) ?_
  refine r_aload_n C 0 dX10_readBoard_11 rfl rfl ?_
  refine r_ldcS (i := 19) (tx := "ticks") C (by decide) dX10_readBoard_12 ?_
  refine r_bipush (v := 20) C dX10_readBoard_14 (by decide) ?_
  refine r_sipush (v := 200) C dX10_readBoard_16 (by decide) ?_
  refine r_callVWi (rest := [.int 0, .ref (gA g 56 0 0)]) C (c_X10_toldBy (by decide) 20 200 M1) dX10_readBoard_19 u_1235 in_50 (contW_50 g _ _ _ _ _) rfl u_1236 u_57 mi_X10_toldBy (by decide) rfl rfl (Nat.le_of_ble_eq_true rfl) (xk1 hm (by decide)) (xn1 hm (by decide)) (fun q3 h4 => ?_)
  refine r_iastc C dX10_readBoard_22 in_56 (contW_56 g _ _) (by decide) (j := 0) (by decide) (fun M5 => ?_)
  refine r_aload_n C 0 dX10_readBoard_23 rfl rfl ?_
  refine gf_50_14 C dX10_readBoard_24 u_1119 in_50 ?_
  refine r_iconst (v := 1) C dX10_readBoard_27 (by decide) ?_
  refine r_aload_n C 0 dX10_readBoard_28 rfl rfl ?_
  refine r_ldcS (i := 3) (tx := "cycle") C (by decide) dX10_readBoard_29 ?_
  refine r_iconst (v := 5) C dX10_readBoard_31 (by decide) ?_
  refine r_bipush (v := 50) C dX10_readBoard_32 (by decide) ?_
  refine r_callVWi (rest := [.int 1, .ref (gA g 56 0 0)]) C (c_X10_toldBy (by decide) 5 50 M5) dX10_readBoard_34 u_1235 in_50 (contW_50 g _ _ _ _ _) rfl u_1236 u_57 mi_X10_toldBy (by decide) rfl rfl (Nat.le_of_ble_eq_true rfl) (xk1 hm (by decide)) (xn1 hm (by decide)) (fun q6 h7 => ?_)
  refine r_iastc C dX10_readBoard_37 in_56 (contW_56 g _ _) (by decide) (j := 1) (by decide) (fun M8 => ?_)
  refine r_aload_n C 0 dX10_readBoard_38 rfl rfl ?_
  refine gf_50_14 C dX10_readBoard_39 u_1119 in_50 ?_
  refine r_iconst (v := 2) C dX10_readBoard_42 (by decide) ?_
  refine r_aload_n C 0 dX10_readBoard_43 rfl rfl ?_
  refine r_ldcS (i := 7) (tx := "low") C (by decide) dX10_readBoard_44 ?_
  refine r_iconst (v := 0) C dX10_readBoard_46 (by decide) ?_
  refine r_bipush (v := 9) C dX10_readBoard_47 (by decide) ?_
  refine r_callVWi (rest := [.int 2, .ref (gA g 56 0 0)]) C (c_X10_toldBy (by decide) 0 9 M8) dX10_readBoard_49 u_1235 in_50 (contW_50 g _ _ _ _ _) rfl u_1236 u_57 mi_X10_toldBy (by decide) rfl rfl (Nat.le_of_ble_eq_true rfl) (xk1 hm (by decide)) (xn1 hm (by decide)) (fun q9 h10 => ?_)
  refine r_iastc C dX10_readBoard_52 in_56 (contW_56 g _ _) (by decide) (j := 2) (by decide) (fun M11 => ?_)
  exact r_vret C dX10_readBoard_53 rfl rfl (xk0 hm) (xn0 hm)
def B_X10_canTake_22 (M : Mw) : Option (Int32 × Mw) :=
  ((F_X10_good M).bind (fun v4 => (if v4 = 0 then ((F_X10_good M).bind (fun v7 => (if bz v7 then some (v7, M) else none))) else ((F_X10_advance M).bind (fun M9 => ((F_X10_good M9).bind (fun v11 => (if bz v11 then some (v11, M9) else none))))))))
def F_X10_canTake (p1 : Int32) (p2 : Int32) (M : Mw) : Option (Int32 × Mw) :=
  ((F_X10_good M).bind (fun v1 => (if v1 = 0 then (B_X10_canTake_22 M) else (if inb p1 201 then (if (M.1 56 0 0 p1.toNatClampNeg) = p2 then ((F_X10_errs 3 M).bind (fun M15 => (B_X10_canTake_22 M15))) else (B_X10_canTake_22 M)) else none))))
set_option maxRecDepth 100000 in
set_option maxHeartbeats 4000000 in
theorem t_X10_canTake_22 {g : Gw} {x : Xw} (C : Cw g x cX10_canTake RX10 3 (some .boolean) 3) (hm : x.2.2.2.2.2.2.2.2.2.2.2 = (0, 0)) (M : Mw) : Sw g x (fun q : Int32 × Mw => (some (.int q.1), q.2)) M 0 0 22 [(0, .ref (gA g 50 0 0))] [] (B_X10_canTake_22 M) := by
  unfold B_X10_canTake_22
  refine r_aload_n C 0 dX10_canTake_22 rfl rfl ?_
  refine r_callVRi (rest := []) C (c_X10_good M) dX10_canTake_23 u_1209 in_50 (contW_50 g _ _ _ _ _) rfl u_1210 u_50 mi_X10_good (by decide) rfl rfl (Nat.le_of_ble_eq_true rfl) (xk1 hm (by decide)) (xn1 hm (by decide)) (fun v4 h5 => ?_)
  refine r_if_eq (tgt := 33) C dX10_canTake_26 (by decide) (fun h6 => ?_) (fun h6 => ?_)
  · refine r_aload_n C 0 dX10_canTake_33 rfl rfl ?_
    refine r_callVRi (rest := []) C (c_X10_good M) dX10_canTake_34 u_1209 in_50 (contW_50 g _ _ _ _ _) rfl u_1210 u_50 mi_X10_good (by decide) rfl rfl (Nat.le_of_ble_eq_true rfl) (xk1 hm (by decide)) (xn1 hm (by decide)) (fun v7 h8 => ?_)
    exact r_zret C dX10_canTake_37 rfl rfl (xk0 hm) (xn0 hm)
  · refine r_aload_n C 0 dX10_canTake_29 rfl rfl ?_
    refine r_callVU (rest := []) C (c_X10_advance M) dX10_canTake_30 u_1197 in_50 (contW_50 g _ _ _ _ _) rfl u_1198 u_48 mi_X10_advance (by decide) rfl rfl (Nat.le_of_ble_eq_true rfl) (xk1 hm (by decide)) (xn1 hm (by decide)) (fun M9 h10 => ?_)
    refine r_aload_n C 0 dX10_canTake_33 rfl rfl ?_
    refine r_callVRi (rest := []) C (c_X10_good M9) dX10_canTake_34 u_1209 in_50 (contW_50 g _ _ _ _ _) rfl u_1210 u_50 mi_X10_good (by decide) rfl rfl (Nat.le_of_ble_eq_true rfl) (xk1 hm (by decide)) (xn1 hm (by decide)) (fun v11 h12 => ?_)
    exact r_zret C dX10_canTake_37 rfl rfl (xk0 hm) (xn0 hm)
set_option maxRecDepth 100000 in
set_option maxHeartbeats 4000000 in
theorem c_X10_canTake {g : Gw} {l : Launch} (p1 : Int32) (p2 : Int32) (M : Mw) : Kw g l yX10_canTake cX10_canTake 3 (some .boolean) 3 0 0 [.ref (gA g 50 0 0), .int p1, .int p2] M (fun q : Int32 × Mw => (some (.int q.1), q.2)) (F_X10_canTake p1 p2 M) := by
  refine Kw.of (own := RX10) (lv0 := [(0, .ref (gA g 50 0 0)), (1, .int p1), (2, .int p2)]) (by decide +kernel) rfl (Nat.le_of_ble_eq_true rfl) rfl (fun x C hl hm => ?_)
  subst hl
  unfold F_X10_canTake
  refine r_aload_n C 0 dX10_canTake_0 rfl rfl ?_
  refine r_callVRi (rest := []) C (c_X10_good M) dX10_canTake_1 u_1209 in_50 (contW_50 g _ _ _ _ _) rfl u_1210 u_50 mi_X10_good (by decide) rfl rfl (Nat.le_of_ble_eq_true rfl) (xk1 hm (by decide)) (xn1 hm (by decide)) (fun v1 h2 => ?_)
  refine r_if_eq (tgt := 22) C dX10_canTake_4 (by decide) (fun h3 => ?_) (fun h3 => ?_)
  · refine r_lv [0] rfl ?_
    exact t_X10_canTake_22 C hm M
  · refine r_aload_n C 0 dX10_canTake_7 rfl rfl ?_
    refine gf_50_14 C dX10_canTake_8 u_1119 in_50 ?_
    refine r_iload_n C 1 dX10_canTake_11 rfl rfl ?_
    refine r_iald C dX10_canTake_12 in_56 (contW_56 g _ _ _ _ _) (fun h13 => ?_)
    refine r_iload_n C 2 dX10_canTake_13 rfl rfl ?_
    refine r_icmp_ne (tgt := 22) C dX10_canTake_14 (by decide) (fun h14 => ?_) (fun h14 => ?_)
    · refine r_aload_n C 0 dX10_canTake_17 rfl rfl ?_
      refine r_iconst (v := 3) C dX10_canTake_18 (by decide) ?_
      refine r_callVU (rest := []) C (c_X10_errs 3 M) dX10_canTake_19 u_1232 in_50 (contW_50 g _ _ _ _ _) rfl u_1233 u_56 mi_X10_errs (by decide) rfl rfl (Nat.le_of_ble_eq_true rfl) (xk1 hm (by decide)) (xn1 hm (by decide)) (fun M15 h16 => ?_)
      refine r_lv [0] rfl ?_
      exact t_X10_canTake_22 C hm M15
    · refine r_lv [0] rfl ?_
      exact t_X10_canTake_22 C hm M
def B_X10_readWatcher_46 (l1 : Int32) (M : Mw) : Option (Mw) :=
  (if inb (8 + (M.1 56 0 0 3)) 201 then (bd (uIw M 56 0 0 (8 + (M.1 56 0 0 3)).toNatClampNeg l1) (fun M8 => (bd (uIw M8 56 0 0 3 ((M8.1 56 0 0 3) + 1)) (fun M10 => some M10)))) else none)
def F_X10_readWatcher (M : Mw) : Option (Mw) :=
  ((F_X10_canTake 3 3 M).bind (fun q1 => (if q1.1 = 0 then some q1.2 else (if (q1.2.1 56 0 0 3) = 0 then ((F_X10_expects 12 q1.2).bind (fun M11 => (B_X10_readWatcher_46 (-1) M11))) else ((F_X10_toldBy 21 0 ((q1.2.1 56 0 0 3) - 1) q1.2).bind (fun q5 => (bd q5.1 (fun v7 => (B_X10_readWatcher_46 v7 q5.2)))))))))
set_option maxRecDepth 100000 in
set_option maxHeartbeats 4000000 in
theorem t_X10_readWatcher_46 {g : Gw} {x : Xw} (C : Cw g x cX10_readWatcher RX10 2 none 10) (hm : x.2.2.2.2.2.2.2.2.2.2.2 = (0, 0)) (l1 : Int32) (M : Mw) : Sw g x (fun M : Mw => (none, M)) M 0 0 46 [(0, .ref (gA g 50 0 0)), (1, .int l1)] [] (B_X10_readWatcher_46 l1 M) := by
  unfold B_X10_readWatcher_46
  refine r_aload_n C 0 dX10_readWatcher_46 rfl rfl ?_
  refine gf_50_14 C dX10_readWatcher_47 u_1119 in_50 ?_
  refine r_bipush (v := 8) C dX10_readWatcher_50 (by decide) ?_
  refine r_aload_n C 0 dX10_readWatcher_52 rfl rfl ?_
  refine gf_50_14 C dX10_readWatcher_53 u_1119 in_50 ?_
  refine r_iconst (v := 3) C dX10_readWatcher_56 (by decide) ?_
  refine r_ialdc C dX10_readWatcher_57 in_56 (contW_56 g _ _ _ _ _) (by decide) (j := 3) (by decide) ?_
  refine r_iadd C dX10_readWatcher_58 ?_
  refine r_iload_n C 1 dX10_readWatcher_59 rfl rfl ?_
  refine r_iast C dX10_readWatcher_60 in_56 (contW_56 g _ _) (fun M8 h9 => ?_)
  refine r_aload_n C 0 dX10_readWatcher_61 rfl rfl ?_
  refine gf_50_14 C dX10_readWatcher_62 u_1119 in_50 ?_
  refine r_iconst (v := 3) C dX10_readWatcher_65 (by decide) ?_
  refine r_dup2 C rfl rfl dX10_readWatcher_66 ?_
  refine r_ialdc C dX10_readWatcher_67 in_56 (contW_56 g _ _ _ _ _) (by decide) (j := 3) (by decide) ?_
  refine r_iconst (v := 1) C dX10_readWatcher_68 (by decide) ?_
  refine r_iadd C dX10_readWatcher_69 ?_
  refine r_iastc C dX10_readWatcher_70 in_56 (contW_56 g _ _) (by decide) (j := 3) (by decide) (fun M10 => ?_)
  exact r_vret C dX10_readWatcher_71 rfl rfl (xk0 hm) (xn0 hm)
set_option maxRecDepth 100000 in
set_option maxHeartbeats 4000000 in
theorem c_X10_readWatcher {g : Gw} {l : Launch} (M : Mw) : Kw g l yX10_readWatcher cX10_readWatcher 2 none 10 0 0 [.ref (gA g 50 0 0)] M (fun M : Mw => (none, M)) (F_X10_readWatcher M) := by
  refine Kw.of (own := RX10) (lv0 := [(0, .ref (gA g 50 0 0))]) (by decide +kernel) rfl (Nat.le_of_ble_eq_true rfl) rfl (fun x C hl hm => ?_)
  subst hl
  unfold F_X10_readWatcher
  refine r_aload_n C 0 dX10_readWatcher_0 rfl rfl ?_
  refine r_iconst (v := 3) C dX10_readWatcher_1 (by decide) ?_
  refine r_iconst (v := 3) C dX10_readWatcher_2 (by decide) ?_
  refine r_callVWi (rest := []) C (c_X10_canTake 3 3 M) dX10_readWatcher_3 u_1244 in_50 (contW_50 g _ _ _ _ _) rfl u_1245 u_60 mi_X10_canTake (by decide) rfl rfl (Nat.le_of_ble_eq_true rfl) (xk1 hm (by decide)) (xn1 hm (by decide)) (fun q1 h2 => ?_)
  refine r_if_ne (tgt := 10) C dX10_readWatcher_6 (by decide) (fun h3 => ?_) (fun h3 => ?_)
  · exact r_vret C dX10_readWatcher_9 rfl rfl (xk0 hm) (xn0 hm)
  · refine r_iconst (v := (-1)) C dX10_readWatcher_10 (by decide) ?_
    refine r_istore_n0 (lv' := [(1, .int (-1)), (0, .ref (gA g 50 0 0))]) C dX10_readWatcher_11 rfl (by decide) rfl ?_
    refine r_aload_n C 1 dX10_readWatcher_12 rfl rfl ?_
    refine gf_50_14 C dX10_readWatcher_13 u_1119 in_50 ?_
    refine r_iconst (v := 3) C dX10_readWatcher_16 (by decide) ?_
    refine r_ialdc C dX10_readWatcher_17 in_56 (contW_56 g _ _ _ _ _) (by decide) (j := 3) (by decide) ?_
    refine r_if_ne (tgt := 30) C dX10_readWatcher_18 (by decide) (fun h4 => ?_) (fun h4 => ?_)
    · refine r_aload_n C 1 dX10_readWatcher_21 rfl rfl ?_
      refine r_ldcS (i := 12) (tx := "root") C (by decide) dX10_readWatcher_22 ?_
      refine r_callVU (rest := []) C (c_X10_expects (by decide) q1.2) dX10_readWatcher_24 u_1229 in_50 (contW_50 g _ _ _ _ _) rfl u_1230 u_55 mi_X10_expects (by decide) rfl rfl (Nat.le_of_ble_eq_true rfl) (xk1 hm (by decide)) (xn1 hm (by decide)) (fun M11 h12 => ?_)
      refine r_goto (tgt := 46) C dX10_readWatcher_27 (by decide) ?_
      refine r_lv [1, 0] rfl ?_
      exact t_X10_readWatcher_46 C hm (-1) M11
    · refine r_aload_n C 1 dX10_readWatcher_30 rfl rfl ?_
      refine r_ldcS (i := 21) (tx := "under") C (by decide) dX10_readWatcher_31 ?_
      refine r_iconst (v := 0) C dX10_readWatcher_33 (by decide) ?_
      refine r_aload_n C 1 dX10_readWatcher_34 rfl rfl ?_
      refine gf_50_14 C dX10_readWatcher_35 u_1119 in_50 ?_
      refine r_iconst (v := 3) C dX10_readWatcher_38 (by decide) ?_
      refine r_ialdc C dX10_readWatcher_39 in_56 (contW_56 g _ _ _ _ _) (by decide) (j := 3) (by decide) ?_
      refine r_iconst (v := 1) C dX10_readWatcher_40 (by decide) ?_
      refine r_isub C dX10_readWatcher_41 ?_
      refine r_callVWi (rest := []) C (c_X10_toldBy (by decide) 0 ((q1.2.1 56 0 0 3) - 1) q1.2) dX10_readWatcher_42 u_1235 in_50 (contW_50 g _ _ _ _ _) rfl u_1236 u_57 mi_X10_toldBy (by decide) rfl rfl (Nat.le_of_ble_eq_true rfl) (xk1 hm (by decide)) (xn1 hm (by decide)) (fun q5 h6 => ?_)
      refine r_istore_n (lv' := fun v7 => [(1, .int v7), (0, .ref (gA g 50 0 0))]) C dX10_readWatcher_45 rfl (by decide) (fun _ => rfl) (fun v7 => ?_)
      refine r_lv [1, 0] rfl ?_
      exact t_X10_readWatcher_46 C hm v7 q5.2
def F_X10_readTask (M : Mw) : Option (Mw) :=
  ((F_X10_canTake 4 5 M).bind (fun q1 => (if q1.1 = 0 then some q1.2 else (bd (11 + (7 * (q1.2.1 56 0 0 4))) (fun v4 => ((F_X10_toldBy 21 0 ((q1.2.1 56 0 0 3) - 1) q1.2).bind (fun q5 => (if inb v4 201 then (bd (uIw q5.2 56 0 0 v4.toNatClampNeg q5.1) (fun M7 => ((F_X10_toldBy 11 4 60 M7).bind (fun q9 => (if inb (v4 + 1) 201 then (bd (uIw q9.2 56 0 0 (v4 + 1).toNatClampNeg q9.1) (fun M11 => ((F_X10_toldBy 10 0 99 M11).bind (fun q13 => (if inb (v4 + 2) 201 then (bd (uIw q13.2 56 0 0 (v4 + 2).toNatClampNeg q13.1) (fun M15 => (if inb (v4 + 2) 201 then ((F_X10_toldBy 2 ((M15.1 56 0 0 (v4 + 2).toNatClampNeg) + 1) 120 M15).bind (fun q18 => (if inb (v4 + 3) 201 then (bd (uIw q18.2 56 0 0 (v4 + 3).toNatClampNeg q18.1) (fun M20 => ((F_X10_toldBy 6 0 20 M20).bind (fun q22 => (if inb (v4 + 4) 201 then (bd (uIw q22.2 56 0 0 (v4 + 4).toNatClampNeg q22.1) (fun M24 => (if inb (v4 + 4) 201 then ((F_X10_toldBy 8 (M24.1 56 0 0 (v4 + 4).toNatClampNeg) 40 M24).bind (fun q27 => (if inb (v4 + 5) 201 then (bd (uIw q27.2 56 0 0 (v4 + 5).toNatClampNeg q27.1) (fun M29 => (bd (uIw M29 56 0 0 4 ((M29.1 56 0 0 4) + 1)) (fun M31 => some M31)))) else none))) else none))) else none))))) else none))) else none))) else none))))) else none))))) else none))))))))
set_option maxRecDepth 100000 in
set_option maxHeartbeats 4000000 in
theorem c_X10_readTask {g : Gw} {l : Launch} (M : Mw) : Kw g l yX10_readTask cX10_readTask 2 none 10 0 0 [.ref (gA g 50 0 0)] M (fun M : Mw => (none, M)) (F_X10_readTask M) := by
  refine Kw.of (own := RX10) (lv0 := [(0, .ref (gA g 50 0 0))]) (by decide +kernel) rfl (Nat.le_of_ble_eq_true rfl) rfl (fun x C hl hm => ?_)
  subst hl
  unfold F_X10_readTask
  refine r_aload_n C 0 dX10_readTask_0 rfl rfl ?_
  refine r_iconst (v := 4) C dX10_readTask_1 (by decide) ?_
  refine r_iconst (v := 5) C dX10_readTask_2 (by decide) ?_
  refine r_callVWi (rest := []) C (c_X10_canTake 4 5 M) dX10_readTask_3 u_1244 in_50 (contW_50 g _ _ _ _ _) rfl u_1245 u_60 mi_X10_canTake (by decide) rfl rfl (Nat.le_of_ble_eq_true rfl) (xk1 hm (by decide)) (xn1 hm (by decide)) (fun q1 h2 => ?_)
  refine r_if_ne (tgt := 10) C dX10_readTask_6 (by decide) (fun h3 => ?_) (fun h3 => ?_)
  · exact r_vret C dX10_readTask_9 rfl rfl (xk0 hm) (xn0 hm)
  · refine r_bipush (v := 11) C dX10_readTask_10 (by decide) ?_
    refine r_bipush (v := 7) C dX10_readTask_12 (by decide) ?_
    refine r_aload_n C 0 dX10_readTask_14 rfl rfl ?_
    refine gf_50_14 C dX10_readTask_15 u_1119 in_50 ?_
    refine r_iconst (v := 4) C dX10_readTask_18 (by decide) ?_
    refine r_ialdc C dX10_readTask_19 in_56 (contW_56 g _ _ _ _ _) (by decide) (j := 4) (by decide) ?_
    refine r_imul C dX10_readTask_20 ?_
    refine r_iadd C dX10_readTask_21 ?_
    refine r_istore_n (lv' := fun v4 => [(1, .int v4), (0, .ref (gA g 50 0 0))]) C dX10_readTask_22 rfl (by decide) (fun _ => rfl) (fun v4 => ?_)
    refine r_aload_n C 1 dX10_readTask_23 rfl rfl ?_
    refine gf_50_14 C dX10_readTask_24 u_1119 in_50 ?_
    refine r_iload_n C 0 dX10_readTask_27 rfl rfl ?_
    refine r_aload_n C 1 dX10_readTask_28 rfl rfl ?_
    refine r_ldcS (i := 21) (tx := "under") C (by decide) dX10_readTask_29 ?_
    refine r_iconst (v := 0) C dX10_readTask_31 (by decide) ?_
    refine r_aload_n C 1 dX10_readTask_32 rfl rfl ?_
    refine gf_50_14 C dX10_readTask_33 u_1119 in_50 ?_
    refine r_iconst (v := 3) C dX10_readTask_36 (by decide) ?_
    refine r_ialdc C dX10_readTask_37 in_56 (contW_56 g _ _ _ _ _) (by decide) (j := 3) (by decide) ?_
    refine r_iconst (v := 1) C dX10_readTask_38 (by decide) ?_
    refine r_isub C dX10_readTask_39 ?_
    refine r_callVWi (rest := [.int v4, .ref (gA g 56 0 0)]) C (c_X10_toldBy (by decide) 0 ((q1.2.1 56 0 0 3) - 1) q1.2) dX10_readTask_40 u_1235 in_50 (contW_50 g _ _ _ _ _) rfl u_1236 u_57 mi_X10_toldBy (by decide) rfl rfl (Nat.le_of_ble_eq_true rfl) (xk1 hm (by decide)) (xn1 hm (by decide)) (fun q5 h6 => ?_)
    refine r_iast C dX10_readTask_43 in_56 (contW_56 g _ _) (fun M7 h8 => ?_)
    refine r_aload_n C 1 dX10_readTask_44 rfl rfl ?_
    refine gf_50_14 C dX10_readTask_45 u_1119 in_50 ?_
    refine r_iload_n C 0 dX10_readTask_48 rfl rfl ?_
    refine r_iconst (v := 1) C dX10_readTask_49 (by decide) ?_
    refine r_iadd C dX10_readTask_50 ?_
    refine r_aload_n C 1 dX10_readTask_51 rfl rfl ?_
    refine r_ldcS (i := 11) (tx := "period") C (by decide) dX10_readTask_52 ?_
    refine r_iconst (v := 4) C dX10_readTask_54 (by decide) ?_
    refine r_bipush (v := 60) C dX10_readTask_55 (by decide) ?_
    refine r_callVWi (rest := [.int (v4 + 1), .ref (gA g 56 0 0)]) C (c_X10_toldBy (by decide) 4 60 M7) dX10_readTask_57 u_1235 in_50 (contW_50 g _ _ _ _ _) rfl u_1236 u_57 mi_X10_toldBy (by decide) rfl rfl (Nat.le_of_ble_eq_true rfl) (xk1 hm (by decide)) (xn1 hm (by decide)) (fun q9 h10 => ?_)
    refine r_iast C dX10_readTask_60 in_56 (contW_56 g _ _) (fun M11 h12 => ?_)
    refine r_aload_n C 1 dX10_readTask_61 rfl rfl ?_
    refine gf_50_14 C dX10_readTask_62 u_1119 in_50 ?_
    refine r_iload_n C 0 dX10_readTask_65 rfl rfl ?_
    refine r_iconst (v := 2) C dX10_readTask_66 (by decide) ?_
    refine r_iadd C dX10_readTask_67 ?_
    refine r_aload_n C 1 dX10_readTask_68 rfl rfl ?_
    refine r_ldcS (i := 10) (tx := "open") C (by decide) dX10_readTask_69 ?_
    refine r_iconst (v := 0) C dX10_readTask_71 (by decide) ?_
    refine r_bipush (v := 99) C dX10_readTask_72 (by decide) ?_
    refine r_callVWi (rest := [.int (v4 + 2), .ref (gA g 56 0 0)]) C (c_X10_toldBy (by decide) 0 99 M11) dX10_readTask_74 u_1235 in_50 (contW_50 g _ _ _ _ _) rfl u_1236 u_57 mi_X10_toldBy (by decide) rfl rfl (Nat.le_of_ble_eq_true rfl) (xk1 hm (by decide)) (xn1 hm (by decide)) (fun q13 h14 => ?_)
    refine r_iast C dX10_readTask_77 in_56 (contW_56 g _ _) (fun M15 h16 => ?_)
    refine r_aload_n C 1 dX10_readTask_78 rfl rfl ?_
    refine gf_50_14 C dX10_readTask_79 u_1119 in_50 ?_
    refine r_iload_n C 0 dX10_readTask_82 rfl rfl ?_
    refine r_iconst (v := 3) C dX10_readTask_83 (by decide) ?_
    refine r_iadd C dX10_readTask_84 ?_
    refine r_aload_n C 1 dX10_readTask_85 rfl rfl ?_
    refine r_ldcS (i := 2) (tx := "close") C (by decide) dX10_readTask_86 ?_
    refine r_aload_n C 1 dX10_readTask_88 rfl rfl ?_
    refine gf_50_14 C dX10_readTask_89 u_1119 in_50 ?_
    refine r_iload_n C 0 dX10_readTask_92 rfl rfl ?_
    refine r_iconst (v := 2) C dX10_readTask_93 (by decide) ?_
    refine r_iadd C dX10_readTask_94 ?_
    refine r_iald C dX10_readTask_95 in_56 (contW_56 g _ _ _ _ _) (fun h17 => ?_)
    refine r_iconst (v := 1) C dX10_readTask_96 (by decide) ?_
    refine r_iadd C dX10_readTask_97 ?_
    refine r_bipush (v := 120) C dX10_readTask_98 (by decide) ?_
    refine r_callVWi (rest := [.int (v4 + 3), .ref (gA g 56 0 0)]) C (c_X10_toldBy (by decide) ((M15.1 56 0 0 (v4 + 2).toNatClampNeg) + 1) 120 M15) dX10_readTask_100 u_1235 in_50 (contW_50 g _ _ _ _ _) rfl u_1236 u_57 mi_X10_toldBy (by decide) rfl rfl (Nat.le_of_ble_eq_true rfl) (xk1 hm (by decide)) (xn1 hm (by decide)) (fun q18 h19 => ?_)
    refine r_iast C dX10_readTask_103 in_56 (contW_56 g _ _) (fun M20 h21 => ?_)
    refine r_aload_n C 1 dX10_readTask_104 rfl rfl ?_
    refine gf_50_14 C dX10_readTask_105 u_1119 in_50 ?_
    refine r_iload_n C 0 dX10_readTask_108 rfl rfl ?_
    refine r_iconst (v := 4) C dX10_readTask_109 (by decide) ?_
    refine r_iadd C dX10_readTask_110 ?_
    refine r_aload_n C 1 dX10_readTask_111 rfl rfl ?_
    refine r_ldcSw (i := 6) (tx := "least") C (by decide) dX10_readTask_112 ?_
    refine r_iconst (v := 0) C dX10_readTask_115 (by decide) ?_
    refine r_bipush (v := 20) C dX10_readTask_116 (by decide) ?_
    refine r_callVWi (rest := [.int (v4 + 4), .ref (gA g 56 0 0)]) C (c_X10_toldBy (by decide) 0 20 M20) dX10_readTask_118 u_1235 in_50 (contW_50 g _ _ _ _ _) rfl u_1236 u_57 mi_X10_toldBy (by decide) rfl rfl (Nat.le_of_ble_eq_true rfl) (xk1 hm (by decide)) (xn1 hm (by decide)) (fun q22 h23 => ?_)
    refine r_iast C dX10_readTask_121 in_56 (contW_56 g _ _) (fun M24 h25 => ?_)
    refine r_aload_n C 1 dX10_readTask_122 rfl rfl ?_
    refine gf_50_14 C dX10_readTask_123 u_1119 in_50 ?_
    refine r_iload_n C 0 dX10_readTask_126 rfl rfl ?_
    refine r_iconst (v := 5) C dX10_readTask_127 (by decide) ?_
    refine r_iadd C dX10_readTask_128 ?_
    refine r_aload_n C 1 dX10_readTask_129 rfl rfl ?_
    refine r_ldcSw (i := 8) (tx := "most") C (by decide) dX10_readTask_130 ?_
    refine r_aload_n C 1 dX10_readTask_133 rfl rfl ?_
    refine gf_50_14 C dX10_readTask_134 u_1119 in_50 ?_
    refine r_iload_n C 0 dX10_readTask_137 rfl rfl ?_
    refine r_iconst (v := 4) C dX10_readTask_138 (by decide) ?_
    refine r_iadd C dX10_readTask_139 ?_
    refine r_iald C dX10_readTask_140 in_56 (contW_56 g _ _ _ _ _) (fun h26 => ?_)
    refine r_bipush (v := 40) C dX10_readTask_141 (by decide) ?_
    refine r_callVWi (rest := [.int (v4 + 5), .ref (gA g 56 0 0)]) C (c_X10_toldBy (by decide) (M24.1 56 0 0 (v4 + 4).toNatClampNeg) 40 M24) dX10_readTask_143 u_1235 in_50 (contW_50 g _ _ _ _ _) rfl u_1236 u_57 mi_X10_toldBy (by decide) rfl rfl (Nat.le_of_ble_eq_true rfl) (xk1 hm (by decide)) (xn1 hm (by decide)) (fun q27 h28 => ?_)
    refine r_iast C dX10_readTask_146 in_56 (contW_56 g _ _) (fun M29 h30 => ?_)
    refine r_aload_n C 1 dX10_readTask_147 rfl rfl ?_
    refine gf_50_14 C dX10_readTask_148 u_1119 in_50 ?_
    refine r_iconst (v := 4) C dX10_readTask_151 (by decide) ?_
    refine r_dup2 C rfl rfl dX10_readTask_152 ?_
    refine r_ialdc C dX10_readTask_153 in_56 (contW_56 g _ _ _ _ _) (by decide) (j := 4) (by decide) ?_
    refine r_iconst (v := 1) C dX10_readTask_154 (by decide) ?_
    refine r_iadd C dX10_readTask_155 ?_
    refine r_iastc C dX10_readTask_156 in_56 (contW_56 g _ _) (by decide) (j := 4) (by decide) (fun M31 => ?_)
    exact r_vret C dX10_readTask_157 rfl rfl (xk0 hm) (xn0 hm)
def F_X10_takesNew (p1 : Int32) (p2 : Int32) (M : Mw) : Option (Int32 × Mw) :=
  ((F_X10_good M).bind (fun v1 => (if v1 = 0 then ((F_X10_takes 0 p2 M).bind (fun q4 => some (q4.1, q4.2))) else (if (M.1 50 0 0 10) = 2 then (if p2 < (M.1 50 0 0 11) then ((F_X10_takes 0 p2 M).bind (fun q10 => some (q10.1, q10.2))) else (if ((p1 >>> ((M.1 50 0 0 11) &&& 31)) &&& 1) = 1 then ((F_X10_errs 2 M).bind (fun M15 => ((F_X10_takes 0 p2 M15).bind (fun q17 => some (q17.1, q17.2))))) else ((F_X10_takes 0 p2 M).bind (fun q13 => some (q13.1, q13.2))))) else ((F_X10_takes 0 p2 M).bind (fun q7 => some (q7.1, q7.2)))))))
set_option maxRecDepth 100000 in
set_option maxHeartbeats 4000000 in
theorem c_X10_takesNew {g : Gw} {l : Launch} (p1 : Int32) (p2 : Int32) (M : Mw) : Kw g l yX10_takesNew cX10_takesNew 3 (some .int) 4 0 0 [.ref (gA g 50 0 0), .int p1, .int p2] M (fun q : Int32 × Mw => (some (.int q.1), q.2)) (F_X10_takesNew p1 p2 M) := by
  refine Kw.of (own := RX10) (lv0 := [(0, .ref (gA g 50 0 0)), (1, .int p1), (2, .int p2)]) (by decide +kernel) rfl (Nat.le_of_ble_eq_true rfl) rfl (fun x C hl hm => ?_)
  subst hl
  unfold F_X10_takesNew
  refine r_aload_n C 0 dX10_takesNew_0 rfl rfl ?_
  refine r_callVRi (rest := []) C (c_X10_good M) dX10_takesNew_1 u_1209 in_50 (contW_50 g _ _ _ _ _) rfl u_1210 u_50 mi_X10_good (by decide) rfl rfl (Nat.le_of_ble_eq_true rfl) (xk1 hm (by decide)) (xn1 hm (by decide)) (fun v1 h2 => ?_)
  refine r_if_eq (tgt := 40) C dX10_takesNew_4 (by decide) (fun h3 => ?_) (fun h3 => ?_)
  · refine r_aload_n C 0 dX10_takesNew_40 rfl rfl ?_
    refine r_iconst (v := 0) C dX10_takesNew_41 (by decide) ?_
    refine r_iload_n C 2 dX10_takesNew_42 rfl rfl ?_
    refine r_callVWi (rest := []) C (c_X10_takes 0 p2 M) dX10_takesNew_43 u_1238 in_50 (contW_50 g _ _ _ _ _) rfl u_1239 u_58 mi_X10_takes (by decide) rfl rfl (Nat.le_of_ble_eq_true rfl) (xk1 hm (by decide)) (xn1 hm (by decide)) (fun q4 h5 => ?_)
    exact r_iret C dX10_takesNew_46 rfl rfl (xk0 hm) (xn0 hm)
  · refine r_aload_n C 0 dX10_takesNew_7 rfl rfl ?_
    refine gf_50_10 C dX10_takesNew_8 u_1115 in_50 ?_
    refine r_iconst (v := 2) C dX10_takesNew_11 (by decide) ?_
    refine r_icmp_ne (tgt := 40) C dX10_takesNew_12 (by decide) (fun h6 => ?_) (fun h6 => ?_)
    · refine r_aload_n C 0 dX10_takesNew_15 rfl rfl ?_
      refine gf_50_11 C dX10_takesNew_16 u_1116 in_50 ?_
      refine r_iload_n C 2 dX10_takesNew_19 rfl rfl ?_
      refine r_icmp_gt (tgt := 40) C dX10_takesNew_20 (by decide) (fun h9 => ?_) (fun h9 => ?_)
      · refine r_aload_n C 0 dX10_takesNew_40 rfl rfl ?_
        refine r_iconst (v := 0) C dX10_takesNew_41 (by decide) ?_
        refine r_iload_n C 2 dX10_takesNew_42 rfl rfl ?_
        refine r_callVWi (rest := []) C (c_X10_takes 0 p2 M) dX10_takesNew_43 u_1238 in_50 (contW_50 g _ _ _ _ _) rfl u_1239 u_58 mi_X10_takes (by decide) rfl rfl (Nat.le_of_ble_eq_true rfl) (xk1 hm (by decide)) (xn1 hm (by decide)) (fun q10 h11 => ?_)
        exact r_iret C dX10_takesNew_46 rfl rfl (xk0 hm) (xn0 hm)
      · refine r_iload_n C 1 dX10_takesNew_23 rfl rfl ?_
        refine r_aload_n C 0 dX10_takesNew_24 rfl rfl ?_
        refine gf_50_11 C dX10_takesNew_25 u_1116 in_50 ?_
        refine r_ishr C dX10_takesNew_28 ?_
        refine r_iconst (v := 1) C dX10_takesNew_29 (by decide) ?_
        refine r_iand C dX10_takesNew_30 ?_
        refine r_iconst (v := 1) C dX10_takesNew_31 (by decide) ?_
        refine r_icmp_ne (tgt := 40) C dX10_takesNew_32 (by decide) (fun h12 => ?_) (fun h12 => ?_)
        · refine r_aload_n C 0 dX10_takesNew_35 rfl rfl ?_
          refine r_iconst (v := 2) C dX10_takesNew_36 (by decide) ?_
          refine r_callVU (rest := []) C (c_X10_errs 2 M) dX10_takesNew_37 u_1232 in_50 (contW_50 g _ _ _ _ _) rfl u_1233 u_56 mi_X10_errs (by decide) rfl rfl (Nat.le_of_ble_eq_true rfl) (xk1 hm (by decide)) (xn1 hm (by decide)) (fun M15 h16 => ?_)
          refine r_aload_n C 0 dX10_takesNew_40 rfl rfl ?_
          refine r_iconst (v := 0) C dX10_takesNew_41 (by decide) ?_
          refine r_iload_n C 2 dX10_takesNew_42 rfl rfl ?_
          refine r_callVWi (rest := []) C (c_X10_takes 0 p2 M15) dX10_takesNew_43 u_1238 in_50 (contW_50 g _ _ _ _ _) rfl u_1239 u_58 mi_X10_takes (by decide) rfl rfl (Nat.le_of_ble_eq_true rfl) (xk1 hm (by decide)) (xn1 hm (by decide)) (fun q17 h18 => ?_)
          exact r_iret C dX10_takesNew_46 rfl rfl (xk0 hm) (xn0 hm)
        · refine r_aload_n C 0 dX10_takesNew_40 rfl rfl ?_
          refine r_iconst (v := 0) C dX10_takesNew_41 (by decide) ?_
          refine r_iload_n C 2 dX10_takesNew_42 rfl rfl ?_
          refine r_callVWi (rest := []) C (c_X10_takes 0 p2 M) dX10_takesNew_43 u_1238 in_50 (contW_50 g _ _ _ _ _) rfl u_1239 u_58 mi_X10_takes (by decide) rfl rfl (Nat.le_of_ble_eq_true rfl) (xk1 hm (by decide)) (xn1 hm (by decide)) (fun q13 h14 => ?_)
          exact r_iret C dX10_takesNew_46 rfl rfl (xk0 hm) (xn0 hm)
    · refine r_aload_n C 0 dX10_takesNew_40 rfl rfl ?_
      refine r_iconst (v := 0) C dX10_takesNew_41 (by decide) ?_
      refine r_iload_n C 2 dX10_takesNew_42 rfl rfl ?_
      refine r_callVWi (rest := []) C (c_X10_takes 0 p2 M) dX10_takesNew_43 u_1238 in_50 (contW_50 g _ _ _ _ _) rfl u_1239 u_58 mi_X10_takes (by decide) rfl rfl (Nat.le_of_ble_eq_true rfl) (xk1 hm (by decide)) (xn1 hm (by decide)) (fun q7 h8 => ?_)
      exact r_iret C dX10_takesNew_46 rfl rfl (xk0 hm) (xn0 hm)
def B_X10_readNode_131 (l1 : Int32) (l2 : Int32) (l3 : Int32) (l4 : Int32) (M : Mw) : Option (Mw) :=
  (if inb (46 + (2 * ((6 * l1) + l2))) 201 then (bd (uIw M 56 0 0 (46 + (2 * ((6 * l1) + l2))).toNatClampNeg l3) (fun M17 => (if inb ((46 + (2 * ((6 * l1) + l2))) + 1) 201 then (bd (uIw M17 56 0 0 ((46 + (2 * ((6 * l1) + l2))) + 1).toNatClampNeg l4) (fun M19 => (if inb ((11 + (7 * l1)) + 6) 201 then (if inb ((11 + (7 * l1)) + 6) 201 then (bd (uIw M19 56 0 0 ((11 + (7 * l1)) + 6).toNatClampNeg ((M19.1 56 0 0 ((11 + (7 * l1)) + 6).toNatClampNeg) + 1)) (fun M22 => some M22)) else none) else none))) else none))) else none)
def B_X10_readNode_96 (l1 : Int32) (l2 : Int32) (l3 : Int32) (k96 : Int32 → Mw → Option (Mw)) (l4 : Int32) (M : Mw) : Option (Mw) :=
  ((F_X10_takesNew l4 (l2 - 1) M).bind (fun q26 => (bd q26.1 (fun v28 => (bd (l4 ||| (1 <<< (v28 &&& 31))) (fun v29 => ((F_X10_good q26.2).bind (fun v30 => (if v30 = 0 then (B_X10_readNode_131 l1 l2 l3 v29 q26.2) else (if (q26.2.1 50 0 0 10) = 2 then (k96 v29 q26.2) else (B_X10_readNode_131 l1 l2 l3 v29 q26.2)))))))))))
def B_X10_readNode_21 (M : Mw) : Option (Mw) :=
  ((F_X10_good M).bind (fun v4 => (if v4 = 0 then some M else (bd ((M.1 56 0 0 4) - 1) (fun v7 => ((F_X10_canTake ((11 + (7 * v7)) + 6) 6 M).bind (fun q8 => (if q8.1 = 0 then some q8.2 else (if inb ((11 + (7 * v7)) + 6) 201 then (bd (q8.2.1 56 0 0 ((11 + (7 * v7)) + 6).toNatClampNeg) (fun v12 => ((F_X10_takes 1 9 q8.2).bind (fun q13 => (bd q13.1 (fun v15 => (if v12 ≤ 0 then (B_X10_readNode_131 v7 v12 v15 0 q13.2) else ((F_X10_expects 0 q13.2).bind (fun M24 => (it (fun _ _ => none) (B_X10_readNode_96 v7 v12 v15) FU 0 M24)))))))))) else none)))))))))
def F_X10_readNode (M : Mw) : Option (Mw) :=
  ((F_X10_good M).bind (fun v1 => (if v1 = 0 then (B_X10_readNode_21 M) else (if (M.1 56 0 0 4) = 0 then ((F_X10_errs 1 M).bind (fun M35 => (B_X10_readNode_21 M35))) else (B_X10_readNode_21 M)))))
set_option maxRecDepth 100000 in
set_option maxHeartbeats 4000000 in
theorem t_X10_readNode_131 {g : Gw} {x : Xw} (C : Cw g x cX10_readNode RX10 6 none 9) (hm : x.2.2.2.2.2.2.2.2.2.2.2 = (0, 0)) (l1 : Int32) (l2 : Int32) (l3 : Int32) (l4 : Int32) (M : Mw) : Sw g x (fun M : Mw => (none, M)) M 0 0 131 [(0, .ref (gA g 50 0 0)), (1, .int l1), (2, .int l2), (3, .int l3), (4, .int l4)] [] (B_X10_readNode_131 l1 l2 l3 l4 M) := by
  unfold B_X10_readNode_131
  refine r_aload_n C 0 dX10_readNode_131 rfl rfl ?_
  refine gf_50_14 C dX10_readNode_132 u_1119 in_50 ?_
  refine r_bipush (v := 46) C dX10_readNode_135 (by decide) ?_
  refine r_iconst (v := 2) C dX10_readNode_137 (by decide) ?_
  refine r_bipush (v := 6) C dX10_readNode_138 (by decide) ?_
  refine r_iload_n C 1 dX10_readNode_140 rfl rfl ?_
  refine r_imul C dX10_readNode_141 ?_
  refine r_iload_n C 2 dX10_readNode_142 rfl rfl ?_
  refine r_iadd C dX10_readNode_143 ?_
  refine r_imul C dX10_readNode_144 ?_
  refine r_iadd C dX10_readNode_145 ?_
  refine r_iload_n C 3 dX10_readNode_146 rfl rfl ?_
  refine r_iast C dX10_readNode_147 in_56 (contW_56 g _ _) (fun M17 h18 => ?_)
  refine r_aload_n C 0 dX10_readNode_148 rfl rfl ?_
  refine gf_50_14 C dX10_readNode_149 u_1119 in_50 ?_
  refine r_bipush (v := 46) C dX10_readNode_152 (by decide) ?_
  refine r_iconst (v := 2) C dX10_readNode_154 (by decide) ?_
  refine r_bipush (v := 6) C dX10_readNode_155 (by decide) ?_
  refine r_iload_n C 1 dX10_readNode_157 rfl rfl ?_
  refine r_imul C dX10_readNode_158 ?_
  refine r_iload_n C 2 dX10_readNode_159 rfl rfl ?_
  refine r_iadd C dX10_readNode_160 ?_
  refine r_imul C dX10_readNode_161 ?_
  refine r_iadd C dX10_readNode_162 ?_
  refine r_iconst (v := 1) C dX10_readNode_163 (by decide) ?_
  refine r_iadd C dX10_readNode_164 ?_
  refine r_iload C 4 dX10_readNode_165 rfl ?_
  refine r_iast C dX10_readNode_167 in_56 (contW_56 g _ _) (fun M19 h20 => ?_)
  refine r_aload_n C 0 dX10_readNode_168 rfl rfl ?_
  refine gf_50_14 C dX10_readNode_169 u_1119 in_50 ?_
  refine r_bipush (v := 11) C dX10_readNode_172 (by decide) ?_
  refine r_bipush (v := 7) C dX10_readNode_174 (by decide) ?_
  refine r_iload_n C 1 dX10_readNode_176 rfl rfl ?_
  refine r_imul C dX10_readNode_177 ?_
  refine r_iadd C dX10_readNode_178 ?_
  refine r_bipush (v := 6) C dX10_readNode_179 (by decide) ?_
  refine r_iadd C dX10_readNode_181 ?_
  refine r_dup2 C rfl rfl dX10_readNode_182 ?_
  refine r_iald C dX10_readNode_183 in_56 (contW_56 g _ _ _ _ _) (fun h21 => ?_)
  refine r_iconst (v := 1) C dX10_readNode_184 (by decide) ?_
  refine r_iadd C dX10_readNode_185 ?_
  refine r_iast C dX10_readNode_186 in_56 (contW_56 g _ _) (fun M22 h23 => ?_)
  exact r_vret C dX10_readNode_187 rfl rfl (xk0 hm) (xn0 hm)
set_option maxRecDepth 100000 in
set_option maxHeartbeats 4000000 in
theorem t_X10_readNode_96 {g : Gw} {x : Xw} (C : Cw g x cX10_readNode RX10 6 none 9) (hm : x.2.2.2.2.2.2.2.2.2.2.2 = (0, 0)) (l1 : Int32) (l2 : Int32) (l3 : Int32) (k96 : Int32 → Mw → Option (Mw)) (hk96 : ∀ (l4 : Int32) (M : Mw), Sw g x (fun M : Mw => (none, M)) M 0 0 96 [(0, .ref (gA g 50 0 0)), (1, .int l1), (2, .int l2), (3, .int l3), (4, .int l4)] [] (k96 l4 M)) (l4 : Int32) (M : Mw) : Sw g x (fun M : Mw => (none, M)) M 0 0 96 [(0, .ref (gA g 50 0 0)), (1, .int l1), (2, .int l2), (3, .int l3), (4, .int l4)] [] (B_X10_readNode_96 l1 l2 l3 k96 l4 M) := by
  unfold B_X10_readNode_96
  refine r_aload_n C 0 dX10_readNode_96 rfl rfl ?_
  refine r_iload C 4 dX10_readNode_97 rfl ?_
  refine r_iload_n C 2 dX10_readNode_99 rfl rfl ?_
  refine r_iconst (v := 1) C dX10_readNode_100 (by decide) ?_
  refine r_isub C dX10_readNode_101 ?_
  refine r_callVWi (rest := []) C (c_X10_takesNew l4 (l2 - 1) M) dX10_readNode_102 u_1253 in_50 (contW_50 g _ _ _ _ _) rfl u_1254 u_63 mi_X10_takesNew (by decide) rfl rfl (Nat.le_of_ble_eq_true rfl) (xk1 hm (by decide)) (xn1 hm (by decide)) (fun q26 h27 => ?_)
  refine r_istore (lv' := fun v28 => [(5, .int v28), (0, .ref (gA g 50 0 0)), (1, .int l1), (2, .int l2), (3, .int l3), (4, .int l4)]) C dX10_readNode_105 (by decide) (fun _ => rfl) (fun v28 => ?_)
  refine r_iload C 5 dX10_readNode_107 rfl ?_
  refine r_iconst (v := 1) C dX10_readNode_109 (by decide) ?_
  refine r_iload C 0 dX10_readNode_110 rfl ?_
  refine r_ishl C dX10_readNode_112 ?_
  refine r_ior C dX10_readNode_113 ?_
  refine r_istore (lv' := fun v29 => [(4, .int v29), (5, .int v28), (0, .ref (gA g 50 0 0)), (1, .int l1), (2, .int l2), (3, .int l3)]) C dX10_readNode_114 (by decide) (fun _ => rfl) (fun v29 => ?_)
  refine r_aload_n C 2 dX10_readNode_116 rfl rfl ?_
  refine r_callVRi (rest := []) C (c_X10_good q26.2) dX10_readNode_117 u_1209 in_50 (contW_50 g _ _ _ _ _) rfl u_1210 u_50 mi_X10_good (by decide) rfl rfl (Nat.le_of_ble_eq_true rfl) (xk1 hm (by decide)) (xn1 hm (by decide)) (fun v30 h31 => ?_)
  refine r_if_eq (tgt := 131) C dX10_readNode_120 (by decide) (fun h32 => ?_) (fun h32 => ?_)
  · refine r_lv [2, 3, 4, 5, 0] rfl ?_
    exact t_X10_readNode_131 C hm l1 l2 l3 v29 q26.2
  · refine r_aload_n C 2 dX10_readNode_123 rfl rfl ?_
    refine gf_50_10 C dX10_readNode_124 u_1115 in_50 ?_
    refine r_iconst (v := 2) C dX10_readNode_127 (by decide) ?_
    refine r_icmp_eq (tgt := 96) C dX10_readNode_128 (by decide) (fun h33 => ?_) (fun h33 => ?_)
    · refine r_lv [2, 3, 4, 5, 0] rfl ?_
      exact hk96 v29 q26.2
    · refine r_lv [2, 3, 4, 5, 0] rfl ?_
      exact t_X10_readNode_131 C hm l1 l2 l3 v29 q26.2
set_option maxRecDepth 100000 in
set_option maxHeartbeats 4000000 in
theorem tl_X10_readNode_96 {g : Gw} {x : Xw} (C : Cw g x cX10_readNode RX10 6 none 9) (hm : x.2.2.2.2.2.2.2.2.2.2.2 = (0, 0)) (l1 : Int32) (l2 : Int32) (l3 : Int32) (n : Nat) : ∀ (l4 : Int32) (M : Mw), Sw g x (fun M : Mw => (none, M)) M 0 0 96 [(0, .ref (gA g 50 0 0)), (1, .int l1), (2, .int l2), (3, .int l3), (4, .int l4)] [] (it (fun _ _ => none) (B_X10_readNode_96 l1 l2 l3) n l4 M) := by
  induction n with
  | zero =>
    intro l4 M
    exact r_none
  | succ n ih =>
    intro l4 M
    exact t_X10_readNode_96 C hm l1 l2 l3 _ ih l4 M
set_option maxRecDepth 100000 in
set_option maxHeartbeats 4000000 in
theorem t_X10_readNode_21 {g : Gw} {x : Xw} (C : Cw g x cX10_readNode RX10 6 none 9) (hm : x.2.2.2.2.2.2.2.2.2.2.2 = (0, 0)) (M : Mw) : Sw g x (fun M : Mw => (none, M)) M 0 0 21 [(0, .ref (gA g 50 0 0))] [] (B_X10_readNode_21 M) := by
  unfold B_X10_readNode_21
  refine r_aload_n C 0 dX10_readNode_21 rfl rfl ?_
  refine r_callVRi (rest := []) C (c_X10_good M) dX10_readNode_22 u_1209 in_50 (contW_50 g _ _ _ _ _) rfl u_1210 u_50 mi_X10_good (by decide) rfl rfl (Nat.le_of_ble_eq_true rfl) (xk1 hm (by decide)) (xn1 hm (by decide)) (fun v4 h5 => ?_)
  refine r_if_ne (tgt := 29) C dX10_readNode_25 (by decide) (fun h6 => ?_) (fun h6 => ?_)
  · exact r_vret C dX10_readNode_28 rfl rfl (xk0 hm) (xn0 hm)
  · refine r_aload_n C 0 dX10_readNode_29 rfl rfl ?_
    refine gf_50_14 C dX10_readNode_30 u_1119 in_50 ?_
    refine r_iconst (v := 4) C dX10_readNode_33 (by decide) ?_
    refine r_ialdc C dX10_readNode_34 in_56 (contW_56 g _ _ _ _ _) (by decide) (j := 4) (by decide) ?_
    refine r_iconst (v := 1) C dX10_readNode_35 (by decide) ?_
    refine r_isub C dX10_readNode_36 ?_
    refine r_istore_n (lv' := fun v7 => [(1, .int v7), (0, .ref (gA g 50 0 0))]) C dX10_readNode_37 rfl (by decide) (fun _ => rfl) (fun v7 => ?_)
    refine r_aload_n C 1 dX10_readNode_38 rfl rfl ?_
    refine r_bipush (v := 11) C dX10_readNode_39 (by decide) ?_
    refine r_bipush (v := 7) C dX10_readNode_41 (by decide) ?_
    refine r_iload_n C 0 dX10_readNode_43 rfl rfl ?_
    refine r_imul C dX10_readNode_44 ?_
    refine r_iadd C dX10_readNode_45 ?_
    refine r_bipush (v := 6) C dX10_readNode_46 (by decide) ?_
    refine r_iadd C dX10_readNode_48 ?_
    refine r_bipush (v := 6) C dX10_readNode_49 (by decide) ?_
    refine r_callVWi (rest := []) C (c_X10_canTake ((11 + (7 * v7)) + 6) 6 M) dX10_readNode_51 u_1244 in_50 (contW_50 g _ _ _ _ _) rfl u_1245 u_60 mi_X10_canTake (by decide) rfl rfl (Nat.le_of_ble_eq_true rfl) (xk1 hm (by decide)) (xn1 hm (by decide)) (fun q8 h9 => ?_)
    refine r_if_ne (tgt := 58) C dX10_readNode_54 (by decide) (fun h10 => ?_) (fun h10 => ?_)
    · exact r_vret C dX10_readNode_57 rfl rfl (xk0 hm) (xn0 hm)
    · refine r_aload_n C 1 dX10_readNode_58 rfl rfl ?_
      refine gf_50_14 C dX10_readNode_59 u_1119 in_50 ?_
      refine r_bipush (v := 11) C dX10_readNode_62 (by decide) ?_
      refine r_bipush (v := 7) C dX10_readNode_64 (by decide) ?_
      refine r_iload_n C 0 dX10_readNode_66 rfl rfl ?_
      refine r_imul C dX10_readNode_67 ?_
      refine r_iadd C dX10_readNode_68 ?_
      refine r_bipush (v := 6) C dX10_readNode_69 (by decide) ?_
      refine r_iadd C dX10_readNode_71 ?_
      refine r_iald C dX10_readNode_72 in_56 (contW_56 g _ _ _ _ _) (fun h11 => ?_)
      refine r_istore_n (lv' := fun v12 => [(2, .int v12), (1, .int v7), (0, .ref (gA g 50 0 0))]) C dX10_readNode_73 rfl (by decide) (fun _ => rfl) (fun v12 => ?_)
      refine r_aload_n C 2 dX10_readNode_74 rfl rfl ?_
      refine r_iconst (v := 1) C dX10_readNode_75 (by decide) ?_
      refine r_bipush (v := 9) C dX10_readNode_76 (by decide) ?_
      refine r_callVWi (rest := []) C (c_X10_takes 1 9 q8.2) dX10_readNode_78 u_1238 in_50 (contW_50 g _ _ _ _ _) rfl u_1239 u_58 mi_X10_takes (by decide) rfl rfl (Nat.le_of_ble_eq_true rfl) (xk1 hm (by decide)) (xn1 hm (by decide)) (fun q13 h14 => ?_)
      refine r_istore_n (lv' := fun v15 => [(3, .int v15), (2, .int v12), (1, .int v7), (0, .ref (gA g 50 0 0))]) C dX10_readNode_81 rfl (by decide) (fun _ => rfl) (fun v15 => ?_)
      refine r_iconst (v := 0) C dX10_readNode_82 (by decide) ?_
      refine r_istore0 (lv' := [(4, .int 0), (3, .int v15), (2, .int v12), (1, .int v7), (0, .ref (gA g 50 0 0))]) C dX10_readNode_83 (by decide) rfl ?_
      refine r_iload_n C 2 dX10_readNode_85 rfl rfl ?_
      refine r_if_le (tgt := 131) C dX10_readNode_86 (by decide) (fun h16 => ?_) (fun h16 => ?_)
      · refine r_lv [4, 3, 2, 1, 0] rfl ?_
        exact t_X10_readNode_131 C hm v7 v12 v15 0 q13.2
      · refine r_aload_n C 4 dX10_readNode_89 rfl rfl ?_
        refine r_ldcSw (i := 0) (tx := "after") C (by decide) dX10_readNode_90 ?_
        refine r_callVU (rest := []) C (c_X10_expects (by decide) q13.2) dX10_readNode_93 u_1229 in_50 (contW_50 g _ _ _ _ _) rfl u_1230 u_55 mi_X10_expects (by decide) rfl rfl (Nat.le_of_ble_eq_true rfl) (xk1 hm (by decide)) (xn1 hm (by decide)) (fun M24 h25 => ?_)
        refine r_lv [4, 3, 2, 1, 0] rfl ?_
        exact tl_X10_readNode_96 C hm v7 v12 v15 FU 0 M24
set_option maxRecDepth 100000 in
set_option maxHeartbeats 4000000 in
theorem c_X10_readNode {g : Gw} {l : Launch} (M : Mw) : Kw g l yX10_readNode cX10_readNode 6 none 9 0 0 [.ref (gA g 50 0 0)] M (fun M : Mw => (none, M)) (F_X10_readNode M) := by
  refine Kw.of (own := RX10) (lv0 := [(0, .ref (gA g 50 0 0))]) (by decide +kernel) rfl (Nat.le_of_ble_eq_true rfl) rfl (fun x C hl hm => ?_)
  subst hl
  unfold F_X10_readNode
  refine r_aload_n C 0 dX10_readNode_0 rfl rfl ?_
  refine r_callVRi (rest := []) C (c_X10_good M) dX10_readNode_1 u_1209 in_50 (contW_50 g _ _ _ _ _) rfl u_1210 u_50 mi_X10_good (by decide) rfl rfl (Nat.le_of_ble_eq_true rfl) (xk1 hm (by decide)) (xn1 hm (by decide)) (fun v1 h2 => ?_)
  refine r_if_eq (tgt := 21) C dX10_readNode_4 (by decide) (fun h3 => ?_) (fun h3 => ?_)
  · exact t_X10_readNode_21 C hm M
  · refine r_aload_n C 0 dX10_readNode_7 rfl rfl ?_
    refine gf_50_14 C dX10_readNode_8 u_1119 in_50 ?_
    refine r_iconst (v := 4) C dX10_readNode_11 (by decide) ?_
    refine r_ialdc C dX10_readNode_12 in_56 (contW_56 g _ _ _ _ _) (by decide) (j := 4) (by decide) ?_
    refine r_if_ne (tgt := 21) C dX10_readNode_13 (by decide) (fun h34 => ?_) (fun h34 => ?_)
    · refine r_aload_n C 0 dX10_readNode_16 rfl rfl ?_
      refine r_iconst (v := 1) C dX10_readNode_17 (by decide) ?_
      refine r_callVU (rest := []) C (c_X10_errs 1 M) dX10_readNode_18 u_1232 in_50 (contW_50 g _ _ _ _ _) rfl u_1233 u_56 mi_X10_errs (by decide) rfl rfl (Nat.le_of_ble_eq_true rfl) (xk1 hm (by decide)) (xn1 hm (by decide)) (fun M35 h36 => ?_)
      exact t_X10_readNode_21 C hm M35
    · exact t_X10_readNode_21 C hm M
def B_X10_taskRead_61 (M : Mw) : Option (Int32 × Mw) :=
  ((F_X10_errs 2 M).bind (fun M10 => ((F_X10_takes 0 5 M10).bind (fun q12 => some (q12.1, q12.2)))))
def B_X10_taskRead_20 (M : Mw) : Option (Int32 × Mw) :=
  ((F_X10_good M).bind (fun v4 => (if v4 = 0 then ((F_X10_takes 0 5 M).bind (fun q7 => some (q7.1, q7.2))) else (if (M.1 56 0 0 4) ≤ (M.1 50 0 0 11) then (B_X10_taskRead_61 M) else (if inb ((11 + (7 * (M.1 50 0 0 11))) + 6) 201 then (if (M.1 56 0 0 ((11 + (7 * (M.1 50 0 0 11))) + 6).toNatClampNeg) = 0 then (B_X10_taskRead_61 M) else ((F_X10_takes 0 5 M).bind (fun q16 => some (q16.1, q16.2)))) else none)))))
def F_X10_taskRead (M : Mw) : Option (Int32 × Mw) :=
  ((F_X10_good M).bind (fun v1 => (if v1 = 0 then (B_X10_taskRead_20 M) else (if (M.1 50 0 0 10) = 2 then (B_X10_taskRead_20 M) else ((F_X10_errs 1 M).bind (fun M19 => (B_X10_taskRead_20 M19)))))))
set_option maxRecDepth 100000 in
set_option maxHeartbeats 4000000 in
theorem t_X10_taskRead_61 {g : Gw} {x : Xw} (C : Cw g x cX10_taskRead RX10 1 (some .int) 4) (hm : x.2.2.2.2.2.2.2.2.2.2.2 = (0, 0)) (M : Mw) : Sw g x (fun q : Int32 × Mw => (some (.int q.1), q.2)) M 0 0 61 [(0, .ref (gA g 50 0 0))] [] (B_X10_taskRead_61 M) := by
  unfold B_X10_taskRead_61
  refine r_aload_n C 0 dX10_taskRead_61 rfl rfl ?_
  refine r_iconst (v := 2) C dX10_taskRead_62 (by decide) ?_
  refine r_callVU (rest := []) C (c_X10_errs 2 M) dX10_taskRead_63 u_1232 in_50 (contW_50 g _ _ _ _ _) rfl u_1233 u_56 mi_X10_errs (by decide) rfl rfl (Nat.le_of_ble_eq_true rfl) (xk1 hm (by decide)) (xn1 hm (by decide)) (fun M10 h11 => ?_)
  refine r_aload_n C 0 dX10_taskRead_66 rfl rfl ?_
  refine r_iconst (v := 0) C dX10_taskRead_67 (by decide) ?_
  refine r_iconst (v := 5) C dX10_taskRead_68 (by decide) ?_
  refine r_callVWi (rest := []) C (c_X10_takes 0 5 M10) dX10_taskRead_69 u_1238 in_50 (contW_50 g _ _ _ _ _) rfl u_1239 u_58 mi_X10_takes (by decide) rfl rfl (Nat.le_of_ble_eq_true rfl) (xk1 hm (by decide)) (xn1 hm (by decide)) (fun q12 h13 => ?_)
  exact r_iret C dX10_taskRead_72 rfl rfl (xk0 hm) (xn0 hm)
set_option maxRecDepth 100000 in
set_option maxHeartbeats 4000000 in
theorem t_X10_taskRead_20 {g : Gw} {x : Xw} (C : Cw g x cX10_taskRead RX10 1 (some .int) 4) (hm : x.2.2.2.2.2.2.2.2.2.2.2 = (0, 0)) (M : Mw) : Sw g x (fun q : Int32 × Mw => (some (.int q.1), q.2)) M 0 0 20 [(0, .ref (gA g 50 0 0))] [] (B_X10_taskRead_20 M) := by
  unfold B_X10_taskRead_20
  refine r_aload_n C 0 dX10_taskRead_20 rfl rfl ?_
  refine r_callVRi (rest := []) C (c_X10_good M) dX10_taskRead_21 u_1209 in_50 (contW_50 g _ _ _ _ _) rfl u_1210 u_50 mi_X10_good (by decide) rfl rfl (Nat.le_of_ble_eq_true rfl) (xk1 hm (by decide)) (xn1 hm (by decide)) (fun v4 h5 => ?_)
  refine r_if_eq (tgt := 66) C dX10_taskRead_24 (by decide) (fun h6 => ?_) (fun h6 => ?_)
  · refine r_aload_n C 0 dX10_taskRead_66 rfl rfl ?_
    refine r_iconst (v := 0) C dX10_taskRead_67 (by decide) ?_
    refine r_iconst (v := 5) C dX10_taskRead_68 (by decide) ?_
    refine r_callVWi (rest := []) C (c_X10_takes 0 5 M) dX10_taskRead_69 u_1238 in_50 (contW_50 g _ _ _ _ _) rfl u_1239 u_58 mi_X10_takes (by decide) rfl rfl (Nat.le_of_ble_eq_true rfl) (xk1 hm (by decide)) (xn1 hm (by decide)) (fun q7 h8 => ?_)
    exact r_iret C dX10_taskRead_72 rfl rfl (xk0 hm) (xn0 hm)
  · refine r_aload_n C 0 dX10_taskRead_27 rfl rfl ?_
    refine gf_50_11 C dX10_taskRead_28 u_1116 in_50 ?_
    refine r_aload_n C 0 dX10_taskRead_31 rfl rfl ?_
    refine gf_50_14 C dX10_taskRead_32 u_1119 in_50 ?_
    refine r_iconst (v := 4) C dX10_taskRead_35 (by decide) ?_
    refine r_ialdc C dX10_taskRead_36 in_56 (contW_56 g _ _ _ _ _) (by decide) (j := 4) (by decide) ?_
    refine r_icmp_ge (tgt := 61) C dX10_taskRead_37 (by decide) (fun h9 => ?_) (fun h9 => ?_)
    · exact t_X10_taskRead_61 C hm M
    · refine r_aload_n C 0 dX10_taskRead_40 rfl rfl ?_
      refine gf_50_14 C dX10_taskRead_41 u_1119 in_50 ?_
      refine r_bipush (v := 11) C dX10_taskRead_44 (by decide) ?_
      refine r_bipush (v := 7) C dX10_taskRead_46 (by decide) ?_
      refine r_aload_n C 0 dX10_taskRead_48 rfl rfl ?_
      refine gf_50_11 C dX10_taskRead_49 u_1116 in_50 ?_
      refine r_imul C dX10_taskRead_52 ?_
      refine r_iadd C dX10_taskRead_53 ?_
      refine r_bipush (v := 6) C dX10_taskRead_54 (by decide) ?_
      refine r_iadd C dX10_taskRead_56 ?_
      refine r_iald C dX10_taskRead_57 in_56 (contW_56 g _ _ _ _ _) (fun h14 => ?_)
      refine r_if_ne (tgt := 66) C dX10_taskRead_58 (by decide) (fun h15 => ?_) (fun h15 => ?_)
      · exact t_X10_taskRead_61 C hm M
      · refine r_aload_n C 0 dX10_taskRead_66 rfl rfl ?_
        refine r_iconst (v := 0) C dX10_taskRead_67 (by decide) ?_
        refine r_iconst (v := 5) C dX10_taskRead_68 (by decide) ?_
        refine r_callVWi (rest := []) C (c_X10_takes 0 5 M) dX10_taskRead_69 u_1238 in_50 (contW_50 g _ _ _ _ _) rfl u_1239 u_58 mi_X10_takes (by decide) rfl rfl (Nat.le_of_ble_eq_true rfl) (xk1 hm (by decide)) (xn1 hm (by decide)) (fun q16 h17 => ?_)
        exact r_iret C dX10_taskRead_72 rfl rfl (xk0 hm) (xn0 hm)
set_option maxRecDepth 100000 in
set_option maxHeartbeats 4000000 in
theorem c_X10_taskRead {g : Gw} {l : Launch} (M : Mw) : Kw g l yX10_taskRead cX10_taskRead 1 (some .int) 4 0 0 [.ref (gA g 50 0 0)] M (fun q : Int32 × Mw => (some (.int q.1), q.2)) (F_X10_taskRead M) := by
  refine Kw.of (own := RX10) (lv0 := [(0, .ref (gA g 50 0 0))]) (by decide +kernel) rfl (Nat.le_of_ble_eq_true rfl) rfl (fun x C hl hm => ?_)
  subst hl
  unfold F_X10_taskRead
  refine r_aload_n C 0 dX10_taskRead_0 rfl rfl ?_
  refine r_callVRi (rest := []) C (c_X10_good M) dX10_taskRead_1 u_1209 in_50 (contW_50 g _ _ _ _ _) rfl u_1210 u_50 mi_X10_good (by decide) rfl rfl (Nat.le_of_ble_eq_true rfl) (xk1 hm (by decide)) (xn1 hm (by decide)) (fun v1 h2 => ?_)
  refine r_if_eq (tgt := 20) C dX10_taskRead_4 (by decide) (fun h3 => ?_) (fun h3 => ?_)
  · exact t_X10_taskRead_20 C hm M
  · refine r_aload_n C 0 dX10_taskRead_7 rfl rfl ?_
    refine gf_50_10 C dX10_taskRead_8 u_1115 in_50 ?_
    refine r_iconst (v := 2) C dX10_taskRead_11 (by decide) ?_
    refine r_icmp_eq (tgt := 20) C dX10_taskRead_12 (by decide) (fun h18 => ?_) (fun h18 => ?_)
    · exact t_X10_taskRead_20 C hm M
    · refine r_aload_n C 0 dX10_taskRead_15 rfl rfl ?_
      refine r_iconst (v := 1) C dX10_taskRead_16 (by decide) ?_
      refine r_callVU (rest := []) C (c_X10_errs 1 M) dX10_taskRead_17 u_1232 in_50 (contW_50 g _ _ _ _ _) rfl u_1233 u_56 mi_X10_errs (by decide) rfl rfl (Nat.le_of_ble_eq_true rfl) (xk1 hm (by decide)) (xn1 hm (by decide)) (fun M19 h20 => ?_)
      exact t_X10_taskRead_20 C hm M19
