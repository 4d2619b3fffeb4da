def B_X3_nextOrder_85 (k85 : Int32 → Int32 → Mw → Option (Int32 × Mw)) (l4 : Int32) (l5 : Int32) (M : Mw) : Option (Int32 × Mw) :=
  (if l5 ≤ l4 then some (1, M) else ((F_X3_swap l4 l5 M).bind (fun M11 => (bd (l4 + 1) (fun v13 => (bd (l5 + (-1)) (fun v14 => (k85 v13 v14 M11))))))))
def B_X3_nextOrder_69 (l1 : Int32) (l2 : Int32) (l3 : Int32) (M : Mw) : Option (Int32 × Mw) :=
  ((F_X3_swap l2 l3 M).bind (fun M6 => (bd (l2 + 1) (fun v8 => (bd (l1 - 1) (fun v9 => (it (fun _ _ _ => none) (B_X3_nextOrder_85) FU v8 v9 M6)))))))
def B_X3_nextOrder_41 (l1 : Int32) (l2 : Int32) (M : Mw) (k41 : Int32 → Option (Int32 × Mw)) (l3 : Int32) : Option (Int32 × Mw) :=
  (if l3 ≤ (l2 + 1) then (B_X3_nextOrder_69 l1 l2 l3 M) else (if inb l3 5 then (if inb l2 5 then (if (M.1 22 0 0 l2.toNatClampNeg) ≤ (M.1 22 0 0 l3.toNatClampNeg) then (B_X3_nextOrder_69 l1 l2 l3 M) else (bd (l3 + (-1)) (fun v18 => (k41 v18)))) else none) else none))
def B_X3_nextOrder_31 (l1 : Int32) (l2 : Int32) (M : Mw) : Option (Int32 × Mw) :=
  (if 0 ≤ l2 then (bd (l1 - 1) (fun v4 => (it (fun _ => none) (B_X3_nextOrder_41 l1 l2 M) FU v4))) else some (0, M))
def B_X3_nextOrder_4 (l1 : Int32) (M : Mw) (k4 : Int32 → Option (Int32 × Mw)) (l2 : Int32) : Option (Int32 × Mw) :=
  (if l2 < 0 then (B_X3_nextOrder_31 l1 l2 M) else (if inb l2 5 then (if inb (l2 + 1) 5 then (if (M.1 22 0 0 l2.toNatClampNeg) ≤ (M.1 22 0 0 (l2 + 1).toNatClampNeg) then (B_X3_nextOrder_31 l1 l2 M) else (bd (l2 + (-1)) (fun v22 => (k4 v22)))) else none) else none))
def F_X3_nextOrder (p1 : Int32) (M : Mw) : Option (Int32 × Mw) :=
  (bd (p1 - 2) (fun v1 => (it (fun _ => none) (B_X3_nextOrder_4 p1 M) FU v1)))
set_option maxRecDepth 100000 in
set_option maxHeartbeats 4000000 in
theorem t_X3_nextOrder_85 {g : Gw} {x : Xw} (C : Cw g x cX3_nextOrder RX3 6 (some .boolean) 2) (hm : x.2.2.2.2.2.2.2.2.2.2.2 = (0, 0)) (k85 : Int32 → Int32 → Mw → Option (Int32 × Mw)) (hk85 : ∀ (l4 : Int32) (l5 : Int32) (M : Mw), Sw g x (fun q : Int32 × Mw => (some (.int q.1), q.2)) M 0 0 85 [(0, .ref (gA g 21 0 0)), (4, .int l4), (5, .int l5)] [] (k85 l4 l5 M)) (l4 : Int32) (l5 : Int32) (M : Mw) : Sw g x (fun q : Int32 × Mw => (some (.int q.1), q.2)) M 0 0 85 [(0, .ref (gA g 21 0 0)), (4, .int l4), (5, .int l5)] [] (B_X3_nextOrder_85 k85 l4 l5 M) := by
  unfold B_X3_nextOrder_85
  refine r_iload C 1 dX3_nextOrder_85 rfl ?_
  refine r_iload C 2 dX3_nextOrder_87 rfl ?_
  refine r_icmp_ge (tgt := 109) C dX3_nextOrder_89 (by decide) (fun h10 => ?_) (fun h10 => ?_)
  · refine r_iconst (v := 1) C dX3_nextOrder_109 (by decide) ?_
    exact r_zretc C dX3_nextOrder_110 rfl bz1 rfl (xk0 hm) (xn0 hm)
  · refine r_aload_n C 0 dX3_nextOrder_92 rfl rfl ?_
    refine r_iload C 1 dX3_nextOrder_93 rfl ?_
    refine r_iload C 2 dX3_nextOrder_95 rfl ?_
    refine r_callVU (rest := []) C (c_X3_swap l4 l5 M) dX3_nextOrder_97 u_805 in_21 (contW_21 g _ _ _ _ _) rfl u_806 u_43 mi_X3_swap (by decide) rfl rfl (Nat.le_of_ble_eq_true rfl) (xk1 hm (by decide)) (xn1 hm (by decide)) (fun M11 h12 => ?_)
    refine r_iinc (c := 1) (lv' := fun v13 => [(4, .int v13), (0, .ref (gA g 21 0 0)), (5, .int l5)]) C 1 dX3_nextOrder_100 rfl (by decide) (by decide) (fun _ => rfl) (fun v13 => ?_)
    refine r_iinc (c := (-1)) (lv' := fun v14 => [(5, .int v14), (4, .int v13), (0, .ref (gA g 21 0 0))]) C 2 dX3_nextOrder_103 rfl (by decide) (by decide) (fun _ => rfl) (fun v14 => ?_)
    refine r_goto (tgt := 85) C dX3_nextOrder_106 (by decide) ?_
    refine r_lv [2, 1, 0] rfl ?_
    exact hk85 v13 v14 M11
set_option maxRecDepth 100000 in
set_option maxHeartbeats 4000000 in
theorem tl_X3_nextOrder_85 {g : Gw} {x : Xw} (C : Cw g x cX3_nextOrder RX3 6 (some .boolean) 2) (hm : x.2.2.2.2.2.2.2.2.2.2.2 = (0, 0)) (n : Nat) : ∀ (l4 : Int32) (l5 : Int32) (M : Mw), Sw g x (fun q : Int32 × Mw => (some (.int q.1), q.2)) M 0 0 85 [(0, .ref (gA g 21 0 0)), (4, .int l4), (5, .int l5)] [] (it (fun _ _ _ => none) (B_X3_nextOrder_85) n l4 l5 M) := by
  induction n with
  | zero =>
    intro l4 l5 M
    exact r_none
  | succ n ih =>
    intro l4 l5 M
    exact t_X3_nextOrder_85 C hm _ ih l4 l5 M
set_option maxRecDepth 100000 in
set_option maxHeartbeats 4000000 in
theorem t_X3_nextOrder_69 {g : Gw} {x : Xw} (C : Cw g x cX3_nextOrder RX3 6 (some .boolean) 2) (hm : x.2.2.2.2.2.2.2.2.2.2.2 = (0, 0)) (l1 : Int32) (l2 : Int32) (l3 : Int32) (M : Mw) : Sw g x (fun q : Int32 × Mw => (some (.int q.1), q.2)) M 0 0 69 [(0, .ref (gA g 21 0 0)), (1, .int l1), (2, .int l2), (3, .int l3)] [] (B_X3_nextOrder_69 l1 l2 l3 M) := by
  unfold B_X3_nextOrder_69
  refine r_aload_n C 0 dX3_nextOrder_69 rfl rfl ?_
  refine r_iload_n C 2 dX3_nextOrder_70 rfl rfl ?_
  refine r_iload_n C 3 dX3_nextOrder_71 rfl rfl ?_
  refine r_callVU (rest := []) C (c_X3_swap l2 l3 M) dX3_nextOrder_72 u_805 in_21 (contW_21 g _ _ _ _ _) rfl u_806 u_43 mi_X3_swap (by decide) rfl rfl (Nat.le_of_ble_eq_true rfl) (xk1 hm (by decide)) (xn1 hm (by decide)) (fun M6 h7 => ?_)
  refine r_iload_n C 2 dX3_nextOrder_75 rfl rfl ?_
  refine r_iconst (v := 1) C dX3_nextOrder_76 (by decide) ?_
  refine r_iadd C dX3_nextOrder_77 ?_
  refine r_istore (lv' := fun v8 => [(4, .int v8), (0, .ref (gA g 21 0 0)), (1, .int l1), (2, .int l2), (3, .int l3)]) C dX3_nextOrder_78 (by decide) (fun _ => rfl) (fun v8 => ?_)
  refine r_iload_n C 2 dX3_nextOrder_80 rfl rfl ?_
  refine r_iconst (v := 1) C dX3_nextOrder_81 (by decide) ?_
  refine r_isub C dX3_nextOrder_82 ?_
  refine r_istore (lv' := fun v9 => [(5, .int v9), (4, .int v8), (0, .ref (gA g 21 0 0)), (1, .int l1), (2, .int l2), (3, .int l3)]) C dX3_nextOrder_83 (by decide) (fun _ => rfl) (fun v9 => ?_)
  refine r_lv [2, 1, 0] rfl ?_
  exact tl_X3_nextOrder_85 C hm FU v8 v9 M6
set_option maxRecDepth 100000 in
set_option maxHeartbeats 4000000 in
theorem t_X3_nextOrder_41 {g : Gw} {x : Xw} (C : Cw g x cX3_nextOrder RX3 6 (some .boolean) 2) (hm : x.2.2.2.2.2.2.2.2.2.2.2 = (0, 0)) (M : Mw) (l1 : Int32) (l2 : Int32) (k41 : Int32 → Option (Int32 × Mw)) (hk41 : ∀ (l3 : Int32), Sw g x (fun q : Int32 × Mw => (some (.int q.1), q.2)) M 0 0 41 [(0, .ref (gA g 21 0 0)), (1, .int l1), (2, .int l2), (3, .int l3)] [] (k41 l3)) (l3 : Int32) : Sw g x (fun q : Int32 × Mw => (some (.int q.1), q.2)) M 0 0 41 [(0, .ref (gA g 21 0 0)), (1, .int l1), (2, .int l2), (3, .int l3)] [] (B_X3_nextOrder_41 l1 l2 M k41 l3) := by
  unfold B_X3_nextOrder_41
  refine r_iload_n C 3 dX3_nextOrder_41 rfl rfl ?_
  refine r_iload_n C 2 dX3_nextOrder_42 rfl rfl ?_
  refine r_iconst (v := 1) C dX3_nextOrder_43 (by decide) ?_
  refine r_iadd C dX3_nextOrder_44 ?_
  refine r_icmp_le (tgt := 69) C dX3_nextOrder_45 (by decide) (fun h5 => ?_) (fun h5 => ?_)
  · exact t_X3_nextOrder_69 C hm l1 l2 l3 M
  · refine r_aload_n C 0 dX3_nextOrder_48 rfl rfl ?_
    refine gf_21_0 C dX3_nextOrder_49 u_263 in_21 ?_
    refine r_iload_n C 3 dX3_nextOrder_52 rfl rfl ?_
    refine r_iald C dX3_nextOrder_53 in_22 (contW_22 g _ _ _ _ _) (fun h15 => ?_)
    refine r_aload_n C 0 dX3_nextOrder_54 rfl rfl ?_
    refine gf_21_0 C dX3_nextOrder_55 u_263 in_21 ?_
    refine r_iload_n C 2 dX3_nextOrder_58 rfl rfl ?_
    refine r_iald C dX3_nextOrder_59 in_22 (contW_22 g _ _ _ _ _) (fun h16 => ?_)
    refine r_icmp_ge (tgt := 69) C dX3_nextOrder_60 (by decide) (fun h17 => ?_) (fun h17 => ?_)
    · exact t_X3_nextOrder_69 C hm l1 l2 l3 M
    · refine r_iinc (c := (-1)) (lv' := fun v18 => [(3, .int v18), (0, .ref (gA g 21 0 0)), (1, .int l1), (2, .int l2)]) C 3 dX3_nextOrder_63 rfl (by decide) (by decide) (fun _ => rfl) (fun v18 => ?_)
      refine r_goto (tgt := 41) C dX3_nextOrder_66 (by decide) ?_
      refine r_lv [1, 2, 3, 0] rfl ?_
      exact hk41 v18
set_option maxRecDepth 100000 in
set_option maxHeartbeats 4000000 in
theorem tl_X3_nextOrder_41 {g : Gw} {x : Xw} (C : Cw g x cX3_nextOrder RX3 6 (some .boolean) 2) (hm : x.2.2.2.2.2.2.2.2.2.2.2 = (0, 0)) (M : Mw) (l1 : Int32) (l2 : Int32) (n : Nat) : ∀ (l3 : Int32), Sw g x (fun q : Int32 × Mw => (some (.int q.1), q.2)) M 0 0 41 [(0, .ref (gA g 21 0 0)), (1, .int l1), (2, .int l2), (3, .int l3)] [] (it (fun _ => none) (B_X3_nextOrder_41 l1 l2 M) n l3) := by
  induction n with
  | zero =>
    intro l3
    exact r_none
  | succ n ih =>
    intro l3
    exact t_X3_nextOrder_41 C hm M l1 l2 _ ih l3
set_option maxRecDepth 100000 in
set_option maxHeartbeats 4000000 in
theorem t_X3_nextOrder_31 {g : Gw} {x : Xw} (C : Cw g x cX3_nextOrder RX3 6 (some .boolean) 2) (hm : x.2.2.2.2.2.2.2.2.2.2.2 = (0, 0)) (l1 : Int32) (l2 : Int32) (M : Mw) : Sw g x (fun q : Int32 × Mw => (some (.int q.1), q.2)) M 0 0 31 [(0, .ref (gA g 21 0 0)), (1, .int l1), (2, .int l2)] [] (B_X3_nextOrder_31 l1 l2 M) := by
  unfold B_X3_nextOrder_31
  refine r_iload_n C 2 dX3_nextOrder_31 rfl rfl ?_
  refine r_if_ge (tgt := 37) C dX3_nextOrder_32 (by decide) (fun h3 => ?_) (fun h3 => ?_)
  · refine r_iload_n C 1 dX3_nextOrder_37 rfl rfl ?_
    refine r_iconst (v := 1) C dX3_nextOrder_38 (by decide) ?_
    refine r_isub C dX3_nextOrder_39 ?_
    refine r_istore_n (lv' := fun v4 => [(3, .int v4), (0, .ref (gA g 21 0 0)), (1, .int l1), (2, .int l2)]) C dX3_nextOrder_40 rfl (by decide) (fun _ => rfl) (fun v4 => ?_)
    refine r_lv [1, 2, 3, 0] rfl ?_
    exact tl_X3_nextOrder_41 C hm M l1 l2 FU v4
  · refine r_iconst (v := 0) C dX3_nextOrder_35 (by decide) ?_
    exact r_zretc C dX3_nextOrder_36 rfl bz0 rfl (xk0 hm) (xn0 hm)
set_option maxRecDepth 100000 in
set_option maxHeartbeats 4000000 in
theorem t_X3_nextOrder_4 {g : Gw} {x : Xw} (C : Cw g x cX3_nextOrder RX3 6 (some .boolean) 2) (hm : x.2.2.2.2.2.2.2.2.2.2.2 = (0, 0)) (M : Mw) (l1 : Int32) (k4 : Int32 → Option (Int32 × Mw)) (hk4 : ∀ (l2 : Int32), Sw g x (fun q : Int32 × Mw => (some (.int q.1), q.2)) M 0 0 4 [(0, .ref (gA g 21 0 0)), (1, .int l1), (2, .int l2)] [] (k4 l2)) (l2 : Int32) : Sw g x (fun q : Int32 × Mw => (some (.int q.1), q.2)) M 0 0 4 [(0, .ref (gA g 21 0 0)), (1, .int l1), (2, .int l2)] [] (B_X3_nextOrder_4 l1 M k4 l2) := by
  unfold B_X3_nextOrder_4
  refine r_iload_n C 2 dX3_nextOrder_4 rfl rfl ?_
  refine r_if_lt (tgt := 31) C dX3_nextOrder_5 (by decide) (fun h2 => ?_) (fun h2 => ?_)
  · exact t_X3_nextOrder_31 C hm l1 l2 M
  · refine r_aload_n C 0 dX3_nextOrder_8 rfl rfl ?_
    refine gf_21_0 C dX3_nextOrder_9 u_263 in_21 ?_
    refine r_iload_n C 2 dX3_nextOrder_12 rfl rfl ?_
    refine r_iald C dX3_nextOrder_13 in_22 (contW_22 g _ _ _ _ _) (fun h19 => ?_)
    refine r_aload_n C 0 dX3_nextOrder_14 rfl rfl ?_
    refine gf_21_0 C dX3_nextOrder_15 u_263 in_21 ?_
    refine r_iload_n C 2 dX3_nextOrder_18 rfl rfl ?_
    refine r_iconst (v := 1) C dX3_nextOrder_19 (by decide) ?_
    refine r_iadd C dX3_nextOrder_20 ?_
    refine r_iald C dX3_nextOrder_21 in_22 (contW_22 g _ _ _ _ _) (fun h20 => ?_)
    refine r_icmp_le (tgt := 31) C dX3_nextOrder_22 (by decide) (fun h21 => ?_) (fun h21 => ?_)
    · exact t_X3_nextOrder_31 C hm l1 l2 M
    · refine r_iinc (c := (-1)) (lv' := fun v22 => [(2, .int v22), (0, .ref (gA g 21 0 0)), (1, .int l1)]) C 2 dX3_nextOrder_25 rfl (by decide) (by decide) (fun _ => rfl) (fun v22 => ?_)
      refine r_goto (tgt := 4) C dX3_nextOrder_28 (by decide) ?_
      refine r_lv [1, 2, 0] rfl ?_
      exact hk4 v22
set_option maxRecDepth 100000 in
set_option maxHeartbeats 4000000 in
theorem tl_X3_nextOrder_4 {g : Gw} {x : Xw} (C : Cw g x cX3_nextOrder RX3 6 (some .boolean) 2) (hm : x.2.2.2.2.2.2.2.2.2.2.2 = (0, 0)) (M : Mw) (l1 : Int32) (n : Nat) : ∀ (l2 : Int32), Sw g x (fun q : Int32 × Mw => (some (.int q.1), q.2)) M 0 0 4 [(0, .ref (gA g 21 0 0)), (1, .int l1), (2, .int l2)] [] (it (fun _ => none) (B_X3_nextOrder_4 l1 M) n l2) := by
  induction n with
  | zero =>
    intro l2
    exact r_none
  | succ n ih =>
    intro l2
    exact t_X3_nextOrder_4 C hm M l1 _ ih l2
set_option maxRecDepth 100000 in
set_option maxHeartbeats 4000000 in
theorem c_X3_nextOrder {g : Gw} {l : Launch} (p1 : Int32) (M : Mw) : Kw g l yX3_nextOrder cX3_nextOrder 6 (some .boolean) 2 0 0 [.ref (gA g 21 0 0), .int p1] M (fun q : Int32 × Mw => (some (.int q.1), q.2)) (F_X3_nextOrder p1 M) := by
  refine Kw.of (own := RX3) (lv0 := [(0, .ref (gA g 21 0 0)), (1, .int p1)]) (by decide +kernel) rfl (Nat.le_of_ble_eq_true rfl) rfl (fun x C hl hm => ?_)
  subst hl
  unfold F_X3_nextOrder
  refine r_iload_n C 1 dX3_nextOrder_0 rfl rfl ?_
  refine r_iconst (v := 2) C dX3_nextOrder_1 (by decide) ?_
  refine r_isub C dX3_nextOrder_2 ?_
  refine r_istore_n (lv' := fun v1 => [(2, .int v1), (0, .ref (gA g 21 0 0)), (1, .int p1)]) C dX3_nextOrder_3 rfl (by decide) (fun _ => rfl) (fun v1 => ?_)
  refine r_lv [1, 2, 0] rfl ?_
  exact tl_X3_nextOrder_4 C hm M p1 FU v1
def B_X3_countOrders_15 (b1 : Nat) (k15 : Int32 → Int32 → Int32 → Mw → Option (Int32 × Mw)) (l2 : Int32) (l3 : Int32) (l4 : Int32) (M : Mw) : Option (Int32 × Mw) :=
  (if 120 ≤ l4 then some (l2, M) else (if l3 = 0 then some (l2, M) else ((F_X3_isOrderLawful b1 M).bind (fun v5 => (if v5 = 0 then ((F_X3_nextOrder (M.1 0 b1 0 5) M).bind (fun q8 => (bd q8.1 (fun v10 => (bd (l4 + 1) (fun v11 => (k15 l2 v10 v11 q8.2))))))) else (bd (l2 + 1) (fun v12 => ((F_X3_nextOrder (M.1 0 b1 0 5) M).bind (fun q13 => (bd q13.1 (fun v15 => (bd (l4 + 1) (fun v16 => (k15 v12 v15 v16 q13.2))))))))))))))
def F_X3_countOrders (b1 : Nat) (M : Mw) : Option (Int32 × Mw) :=
  ((F_X3_lineUp (M.1 0 b1 0 5) M).bind (fun M1 => (it (fun _ _ _ _ => none) (B_X3_countOrders_15 b1) FU 0 1 0 M1)))
set_option maxRecDepth 100000 in
set_option maxHeartbeats 4000000 in
theorem t_X3_countOrders_15 {g : Gw} {x : Xw} (C : Cw g x cX3_countOrders RX3 5 (some .int) 6) (hm : x.2.2.2.2.2.2.2.2.2.2.2 = (0, 0)) {b1 : Nat} (hb1 : b1 < 8) (k15 : Int32 → Int32 → Int32 → Mw → Option (Int32 × Mw)) (hk15 : ∀ (l2 : Int32) (l3 : Int32) (l4 : Int32) (M : Mw), Sw g x (fun q : Int32 × Mw => (some (.int q.1), q.2)) M 0 0 15 [(0, .ref (gA g 21 0 0)), (1, .ref (gA g 0 b1 0)), (2, .int l2), (3, .int l3), (4, .int l4)] [] (k15 l2 l3 l4 M)) (l2 : Int32) (l3 : Int32) (l4 : Int32) (M : Mw) : Sw g x (fun q : Int32 × Mw => (some (.int q.1), q.2)) M 0 0 15 [(0, .ref (gA g 21 0 0)), (1, .ref (gA g 0 b1 0)), (2, .int l2), (3, .int l3), (4, .int l4)] [] (B_X3_countOrders_15 b1 k15 l2 l3 l4 M) := by
  unfold B_X3_countOrders_15
  refine r_iload C 4 dX3_countOrders_15 rfl ?_
  refine r_bipush (v := 120) C dX3_countOrders_17 (by decide) ?_
  refine r_icmp_ge (tgt := 52) C dX3_countOrders_19 (by decide) (fun h3 => ?_) (fun h3 => ?_)
  · refine r_iload_n C 2 dX3_countOrders_52 rfl rfl ?_
    exact r_iret C dX3_countOrders_53 rfl rfl (xk0 hm) (xn0 hm)
  · refine r_iload_n C 3 dX3_countOrders_22 rfl rfl ?_
    refine r_if_eq (tgt := 52) C dX3_countOrders_23 (by decide) (fun h4 => ?_) (fun h4 => ?_)
    · refine r_iload_n C 2 dX3_countOrders_52 rfl rfl ?_
      exact r_iret C dX3_countOrders_53 rfl rfl (xk0 hm) (xn0 hm)
    · refine r_aload_n C 0 dX3_countOrders_26 rfl rfl ?_
      refine r_aload_n C 1 dX3_countOrders_27 rfl rfl ?_
      refine r_callVRi (rest := []) C (c_X3_isOrderLawful hb1 M) dX3_countOrders_28 u_799 in_21 (contW_21 g _ _ _ _ _) rfl u_800 u_41 mi_X3_isOrderLawful (by decide) rfl rfl (Nat.le_of_ble_eq_true rfl) (xk1 hm (by decide)) (xn1 hm (by decide)) (fun v5 h6 => ?_)
      refine r_if_eq (tgt := 37) C dX3_countOrders_31 (by decide) (fun h7 => ?_) (fun h7 => ?_)
      · refine r_aload_n C 0 dX3_countOrders_37 rfl rfl ?_
        refine r_aload_n C 1 dX3_countOrders_38 rfl rfl ?_
        refine gf_0_5 C dX3_countOrders_39 u_203 (in_0 hb1) ?_
        refine r_callVWi (rest := []) C (c_X3_nextOrder (M.1 0 b1 0 5) M) dX3_countOrders_42 u_802 in_21 (contW_21 g _ _ _ _ _) rfl u_803 u_42 mi_X3_nextOrder (by decide) rfl rfl (Nat.le_of_ble_eq_true rfl) (xk1 hm (by decide)) (xn1 hm (by decide)) (fun q8 h9 => ?_)
        refine r_istore_n (lv' := fun v10 => [(3, .int v10), (0, .ref (gA g 21 0 0)), (1, .ref (gA g 0 b1 0)), (2, .int l2), (4, .int l4)]) C dX3_countOrders_45 rfl (by decide) (fun _ => rfl) (fun v10 => ?_)
        refine r_iinc (c := 1) (lv' := fun v11 => [(4, .int v11), (3, .int v10), (0, .ref (gA g 21 0 0)), (1, .ref (gA g 0 b1 0)), (2, .int l2)]) C 4 dX3_countOrders_46 rfl (by decide) (by decide) (fun _ => rfl) (fun v11 => ?_)
        refine r_goto (tgt := 15) C dX3_countOrders_49 (by decide) ?_
        refine r_lv [2, 3, 4, 1, 0] rfl ?_
        exact hk15 l2 v10 v11 q8.2
      · refine r_iinc (c := 1) (lv' := fun v12 => [(2, .int v12), (0, .ref (gA g 21 0 0)), (1, .ref (gA g 0 b1 0)), (3, .int l3), (4, .int l4)]) C 2 dX3_countOrders_34 rfl (by decide) (by decide) (fun _ => rfl) (fun v12 => ?_)
        refine r_aload_n C 1 dX3_countOrders_37 rfl rfl ?_
        refine r_aload_n C 2 dX3_countOrders_38 rfl rfl ?_
        refine gf_0_5 C dX3_countOrders_39 u_203 (in_0 hb1) ?_
        refine r_callVWi (rest := []) C (c_X3_nextOrder (M.1 0 b1 0 5) M) dX3_countOrders_42 u_802 in_21 (contW_21 g _ _ _ _ _) rfl u_803 u_42 mi_X3_nextOrder (by decide) rfl rfl (Nat.le_of_ble_eq_true rfl) (xk1 hm (by decide)) (xn1 hm (by decide)) (fun q13 h14 => ?_)
        refine r_istore_n (lv' := fun v15 => [(3, .int v15), (2, .int v12), (0, .ref (gA g 21 0 0)), (1, .ref (gA g 0 b1 0)), (4, .int l4)]) C dX3_countOrders_45 rfl (by decide) (fun _ => rfl) (fun v15 => ?_)
        refine r_iinc (c := 1) (lv' := fun v16 => [(4, .int v16), (3, .int v15), (2, .int v12), (0, .ref (gA g 21 0 0)), (1, .ref (gA g 0 b1 0))]) C 4 dX3_countOrders_46 rfl (by decide) (by decide) (fun _ => rfl) (fun v16 => ?_)
        refine r_goto (tgt := 15) C dX3_countOrders_49 (by decide) ?_
        refine r_lv [3, 4, 2, 1, 0] rfl ?_
        exact hk15 v12 v15 v16 q13.2
set_option maxRecDepth 100000 in
set_option maxHeartbeats 4000000 in
theorem tl_X3_countOrders_15 {g : Gw} {x : Xw} (C : Cw g x cX3_countOrders RX3 5 (some .int) 6) (hm : x.2.2.2.2.2.2.2.2.2.2.2 = (0, 0)) {b1 : Nat} (hb1 : b1 < 8) (n : Nat) : ∀ (l2 : Int32) (l3 : Int32) (l4 : Int32) (M : Mw), Sw g x (fun q : Int32 × Mw => (some (.int q.1), q.2)) M 0 0 15 [(0, .ref (gA g 21 0 0)), (1, .ref (gA g 0 b1 0)), (2, .int l2), (3, .int l3), (4, .int l4)] [] (it (fun _ _ _ _ => none) (B_X3_countOrders_15 b1) n l2 l3 l4 M) := by
  induction n with
  | zero =>
    intro l2 l3 l4 M
    exact r_none
  | succ n ih =>
    intro l2 l3 l4 M
    exact t_X3_countOrders_15 C hm hb1 _ ih l2 l3 l4 M
set_option maxRecDepth 100000 in
set_option maxHeartbeats 4000000 in
theorem c_X3_countOrders {g : Gw} {l : Launch} {b1 : Nat} (hb1 : b1 < 8) (M : Mw) : Kw g l yX3_countOrders cX3_countOrders 5 (some .int) 6 0 0 [.ref (gA g 21 0 0), .ref (gA g 0 b1 0)] M (fun q : Int32 × Mw => (some (.int q.1), q.2)) (F_X3_countOrders b1 M) := by
  refine Kw.of (own := RX3) (lv0 := [(0, .ref (gA g 21 0 0)), (1, .ref (gA g 0 b1 0))]) (by decide +kernel) rfl (Nat.le_of_ble_eq_true rfl) rfl (fun x C hl hm => ?_)
  subst hl
  unfold F_X3_countOrders
  refine r_iconst (v := 0) C dX3_countOrders_0 (by decide) ?_
  refine r_istore_n0 (lv' := [(2, .int 0), (0, .ref (gA g 21 0 0)), (1, .ref (gA g 0 b1 0))]) C dX3_countOrders_1 rfl (by decide) rfl ?_
  refine r_aload_n C 1 dX3_countOrders_2 rfl rfl ?_
  refine r_aload_n C 2 dX3_countOrders_3 rfl rfl ?_
  refine gf_0_5 C dX3_countOrders_4 u_203 (in_0 hb1) ?_
  refine r_callVU (rest := []) C (c_X3_lineUp (M.1 0 b1 0 5) M) dX3_countOrders_7 u_785 in_21 (contW_21 g _ _ _ _ _) rfl u_747 u_748 mi_X3_lineUp (by decide) rfl rfl (Nat.le_of_ble_eq_true rfl) (xk1 hm (by decide)) (xn1 hm (by decide)) (fun M1 h2 => ?_)
  refine r_iconst (v := 1) C dX3_countOrders_10 (by decide) ?_
  refine r_istore_n0 (lv' := [(3, .int 1), (2, .int 0), (0, .ref (gA g 21 0 0)), (1, .ref (gA g 0 b1 0))]) C dX3_countOrders_11 rfl (by decide) rfl ?_
  refine r_iconst (v := 0) C dX3_countOrders_12 (by decide) ?_
  refine r_istore0 (lv' := [(4, .int 0), (3, .int 1), (2, .int 0), (0, .ref (gA g 21 0 0)), (1, .ref (gA g 0 b1 0))]) C dX3_countOrders_13 (by decide) rfl ?_
  refine r_lv [3, 4, 2, 1, 0] rfl ?_
  exact tl_X3_countOrders_15 C hm hb1 FU 0 1 0 M1
def F_X9_orders (M : Mw) : Option (Int32 × Mw) :=
  (if (M.1 0 1 0 3) = 0 then some ((-2), M) else ((F_X3_countOrders 1 M).bind (fun q2 => some (q2.1, q2.2))))
set_option maxRecDepth 100000 in
set_option maxHeartbeats 4000000 in
theorem c_X9_orders {g : Gw} {l : Launch} (M : Mw) : Kw g l yX9_orders cX9_orders 1 (some .int) 7 0 0 [.ref (gA g 41 0 0)] M (fun q : Int32 × Mw => (some (.int q.1), q.2)) (F_X9_orders M) := by
  refine Kw.of (own := RX9) (lv0 := [(0, .ref (gA g 41 0 0))]) (by decide +kernel) rfl (Nat.le_of_ble_eq_true rfl) rfl (fun x C hl hm => ?_)
  subst hl
  unfold F_X9_orders
  refine r_aload_n C 0 dX9_orders_0 rfl rfl ?_
  refine gf_41_1 C dX9_orders_1 u_365 in_41 ?_
  refine gf_0_3 C dX9_orders_4 u_195 (in_0 (by decide)) ?_
  refine r_if_ne (tgt := 15) C dX9_orders_7 (by decide) (fun h1 => ?_) (fun h1 => ?_)
  · refine r_bipush (v := (-2)) C dX9_orders_10 (by decide) ?_
    refine r_goto (tgt := 26) C dX9_orders_12 (by decide) ?_
    exact r_iret C dX9_orders_26 rfl rfl (xk0 hm) (xn0 hm)
  · refine r_aload_n C 0 dX9_orders_15 rfl rfl ?_
    refine gf_41_5 C dX9_orders_16 u_369 in_41 ?_
    refine r_aload_n C 0 dX9_orders_19 rfl rfl ?_
    refine gf_41_1 C dX9_orders_20 u_365 in_41 ?_
    refine r_callVWi (rest := []) C (c_X3_countOrders (by decide) M) dX9_orders_23 u_795 in_21 (contW_21 g _ _ _ _ _) rfl u_796 u_797 mi_X3_countOrders (by decide) rfl rfl (Nat.le_of_ble_eq_true rfl) (xk1 hm (by decide)) (xn1 hm (by decide)) (fun q2 h3 => ?_)
    exact r_iret C dX9_orders_26 rfl rfl (xk0 hm) (xn0 hm)
def B_X3_findOrder_12 (b1 : Nat) (k12 : Int32 → Int32 → Mw → Option (Int32 × Mw)) (l2 : Int32) (l3 : Int32) (M : Mw) : Option (Int32 × Mw) :=
  (if 120 ≤ l3 then some (0, M) else (if l2 = 0 then some (0, M) else ((F_X3_isOrderLawful b1 M).bind (fun v5 => (if v5 = 0 then ((F_X3_nextOrder (M.1 0 b1 0 5) M).bind (fun q8 => (bd q8.1 (fun v10 => (bd (l3 + 1) (fun v11 => (k12 v10 v11 q8.2))))))) else some (1, M))))))
def F_X3_findOrder (b1 : Nat) (M : Mw) : Option (Int32 × Mw) :=
  ((F_X3_lineUp (M.1 0 b1 0 5) M).bind (fun M1 => (it (fun _ _ _ => none) (B_X3_findOrder_12 b1) FU 1 0 M1)))
set_option maxRecDepth 100000 in
set_option maxHeartbeats 4000000 in
theorem t_X3_findOrder_12 {g : Gw} {x : Xw} (C : Cw g x cX3_findOrder RX3 4 (some .boolean) 6) (hm : x.2.2.2.2.2.2.2.2.2.2.2 = (0, 0)) {b1 : Nat} (hb1 : b1 < 8) (k12 : Int32 → Int32 → Mw → Option (Int32 × Mw)) (hk12 : ∀ (l2 : Int32) (l3 : Int32) (M : Mw), Sw g x (fun q : Int32 × Mw => (some (.int q.1), q.2)) M 0 0 12 [(0, .ref (gA g 21 0 0)), (1, .ref (gA g 0 b1 0)), (2, .int l2), (3, .int l3)] [] (k12 l2 l3 M)) (l2 : Int32) (l3 : Int32) (M : Mw) : Sw g x (fun q : Int32 × Mw => (some (.int q.1), q.2)) M 0 0 12 [(0, .ref (gA g 21 0 0)), (1, .ref (gA g 0 b1 0)), (2, .int l2), (3, .int l3)] [] (B_X3_findOrder_12 b1 k12 l2 l3 M) := by
  unfold B_X3_findOrder_12
  refine r_iload_n C 3 dX3_findOrder_12 rfl rfl ?_
  refine r_bipush (v := 120) C dX3_findOrder_13 (by decide) ?_
  refine r_icmp_ge (tgt := 47) C dX3_findOrder_15 (by decide) (fun h3 => ?_) (fun h3 => ?_)
  · refine r_iconst (v := 0) C dX3_findOrder_47 (by decide) ?_
    exact r_zretc C dX3_findOrder_48 rfl bz0 rfl (xk0 hm) (xn0 hm)
  · refine r_iload_n C 2 dX3_findOrder_18 rfl rfl ?_
    refine r_if_eq (tgt := 47) C dX3_findOrder_19 (by decide) (fun h4 => ?_) (fun h4 => ?_)
    · refine r_iconst (v := 0) C dX3_findOrder_47 (by decide) ?_
      exact r_zretc C dX3_findOrder_48 rfl bz0 rfl (xk0 hm) (xn0 hm)
    · refine r_aload_n C 0 dX3_findOrder_22 rfl rfl ?_
      refine r_aload_n C 1 dX3_findOrder_23 rfl rfl ?_
      refine r_callVRi (rest := []) C (c_X3_isOrderLawful hb1 M) dX3_findOrder_24 u_799 in_21 (contW_21 g _ _ _ _ _) rfl u_800 u_41 mi_X3_isOrderLawful (by decide) rfl rfl (Nat.le_of_ble_eq_true rfl) (xk1 hm (by decide)) (xn1 hm (by decide)) (fun v5 h6 => ?_)
      refine r_if_eq (tgt := 32) C dX3_findOrder_27 (by decide) (fun h7 => ?_) (fun h7 => ?_)
      · refine r_aload_n C 0 dX3_findOrder_32 rfl rfl ?_
        refine r_aload_n C 1 dX3_findOrder_33 rfl rfl ?_
        refine gf_0_5 C dX3_findOrder_34 u_203 (in_0 hb1) ?_
        refine r_callVWi (rest := []) C (c_X3_nextOrder (M.1 0 b1 0 5) M) dX3_findOrder_37 u_802 in_21 (contW_21 g _ _ _ _ _) rfl u_803 u_42 mi_X3_nextOrder (by decide) rfl rfl (Nat.le_of_ble_eq_true rfl) (xk1 hm (by decide)) (xn1 hm (by decide)) (fun q8 h9 => ?_)
        refine r_istore_n (lv' := fun v10 => [(2, .int v10), (0, .ref (gA g 21 0 0)), (1, .ref (gA g 0 b1 0)), (3, .int l3)]) C dX3_findOrder_40 rfl (by decide) (fun _ => rfl) (fun v10 => ?_)
        refine r_iinc (c := 1) (lv' := fun v11 => [(3, .int v11), (2, .int v10), (0, .ref (gA g 21 0 0)), (1, .ref (gA g 0 b1 0))]) C 3 dX3_findOrder_41 rfl (by decide) (by decide) (fun _ => rfl) (fun v11 => ?_)
        refine r_goto (tgt := 12) C dX3_findOrder_44 (by decide) ?_
        refine r_lv [2, 3, 1, 0] rfl ?_
        exact hk12 v10 v11 q8.2
      · refine r_iconst (v := 1) C dX3_findOrder_30 (by decide) ?_
        exact r_zretc C dX3_findOrder_31 rfl bz1 rfl (xk0 hm) (xn0 hm)
set_option maxRecDepth 100000 in
set_option maxHeartbeats 4000000 in
theorem tl_X3_findOrder_12 {g : Gw} {x : Xw} (C : Cw g x cX3_findOrder RX3 4 (some .boolean) 6) (hm : x.2.2.2.2.2.2.2.2.2.2.2 = (0, 0)) {b1 : Nat} (hb1 : b1 < 8) (n : Nat) : ∀ (l2 : Int32) (l3 : Int32) (M : Mw), Sw g x (fun q : Int32 × Mw => (some (.int q.1), q.2)) M 0 0 12 [(0, .ref (gA g 21 0 0)), (1, .ref (gA g 0 b1 0)), (2, .int l2), (3, .int l3)] [] (it (fun _ _ _ => none) (B_X3_findOrder_12 b1) n l2 l3 M) := by
  induction n with
  | zero =>
    intro l2 l3 M
    exact r_none
  | succ n ih =>
    intro l2 l3 M
    exact t_X3_findOrder_12 C hm hb1 _ ih l2 l3 M
set_option maxRecDepth 100000 in
set_option maxHeartbeats 4000000 in
theorem c_X3_findOrder {g : Gw} {l : Launch} {b1 : Nat} (hb1 : b1 < 8) (M : Mw) : Kw g l yX3_findOrder cX3_findOrder 4 (some .boolean) 6 0 0 [.ref (gA g 21 0 0), .ref (gA g 0 b1 0)] M (fun q : Int32 × Mw => (some (.int q.1), q.2)) (F_X3_findOrder b1 M) := by
  refine Kw.of (own := RX3) (lv0 := [(0, .ref (gA g 21 0 0)), (1, .ref (gA g 0 b1 0))]) (by decide +kernel) rfl (Nat.le_of_ble_eq_true rfl) rfl (fun x C hl hm => ?_)
  subst hl
  unfold F_X3_findOrder
  refine r_aload_n C 0 dX3_findOrder_0 rfl rfl ?_
  refine r_aload_n C 1 dX3_findOrder_1 rfl rfl ?_
  refine gf_0_5 C dX3_findOrder_2 u_203 (in_0 hb1) ?_
  refine r_callVU (rest := []) C (c_X3_lineUp (M.1 0 b1 0 5) M) dX3_findOrder_5 u_785 in_21 (contW_21 g _ _ _ _ _) rfl u_747 u_748 mi_X3_lineUp (by decide) rfl rfl (Nat.le_of_ble_eq_true rfl) (xk1 hm (by decide)) (xn1 hm (by decide)) (fun M1 h2 => ?_)
  refine r_iconst (v := 1) C dX3_findOrder_8 (by decide) ?_
  refine r_istore_n0 (lv' := [(2, .int 1), (0, .ref (gA g 21 0 0)), (1, .ref (gA g 0 b1 0))]) C dX3_findOrder_9 rfl (by decide) rfl ?_
  refine r_iconst (v := 0) C dX3_findOrder_10 (by decide) ?_
  refine r_istore_n0 (lv' := [(3, .int 0), (2, .int 1), (0, .ref (gA g 21 0 0)), (1, .ref (gA g 0 b1 0))]) C dX3_findOrder_11 rfl (by decide) rfl ?_
  refine r_lv [2, 3, 1, 0] rfl ?_
  exact tl_X3_findOrder_12 C hm hb1 FU 1 0 M1
def F_X9_order (p1 : Int32) (M : Mw) : Option (Int32 × Mw) :=
  (if (M.1 0 1 0 3) = 0 then some ((-2), M) else ((F_X0_hasTask 1 p1 M).bind (fun v2 => (if v2 = 0 then some ((-1), M) else ((F_X3_findOrder 1 M).bind (fun q5 => (if q5.1 = 0 then some ((-1), q5.2) else (if inb p1 5 then some ((q5.2.1 22 0 0 p1.toNatClampNeg), q5.2) else none))))))))
set_option maxRecDepth 100000 in
set_option maxHeartbeats 4000000 in
theorem c_X9_order {g : Gw} {l : Launch} (p1 : Int32) (M : Mw) : Kw g l yX9_order cX9_order 2 (some .int) 7 0 0 [.ref (gA g 41 0 0), .int p1] M (fun q : Int32 × Mw => (some (.int q.1), q.2)) (F_X9_order p1 M) := by
  refine Kw.of (own := RX9) (lv0 := [(0, .ref (gA g 41 0 0)), (1, .int p1)]) (by decide +kernel) rfl (Nat.le_of_ble_eq_true rfl) rfl (fun x C hl hm => ?_)
  subst hl
  unfold F_X9_order
  refine r_aload_n C 0 dX9_order_0 rfl rfl ?_
  refine gf_41_1 C dX9_order_1 u_365 in_41 ?_
  refine gf_0_3 C dX9_order_4 u_195 (in_0 (by decide)) ?_
  refine r_if_ne (tgt := 13) C dX9_order_7 (by decide) (fun h1 => ?_) (fun h1 => ?_)
  · refine r_bipush (v := (-2)) C dX9_order_10 (by decide) ?_
    exact r_iret C dX9_order_12 rfl rfl (xk0 hm) (xn0 hm)
  · refine r_aload_n C 0 dX9_order_13 rfl rfl ?_
    refine gf_41_1 C dX9_order_14 u_365 in_41 ?_
    refine r_iload_n C 1 dX9_order_17 rfl rfl ?_
    refine r_callVRi (rest := []) C (c_X0_hasTask (by decide) p1 M) dX9_order_18 u_699 (in_0 (by decide)) (contW_0 g _ _ _ _ _) rfl u_510 u_511 mi_X0_hasTask (by decide) rfl rfl (Nat.le_of_ble_eq_true rfl) (xk1 hm (by decide)) (xn1 hm (by decide)) (fun v2 h3 => ?_)
    refine r_if_eq (tgt := 38) C dX9_order_21 (by decide) (fun h4 => ?_) (fun h4 => ?_)
    · refine r_iconst (v := (-1)) C dX9_order_38 (by decide) ?_
      exact r_iret C dX9_order_39 rfl rfl (xk0 hm) (xn0 hm)
    · refine r_aload_n C 0 dX9_order_24 rfl rfl ?_
      refine gf_41_5 C dX9_order_25 u_369 in_41 ?_
      refine r_aload_n C 0 dX9_order_28 rfl rfl ?_
      refine gf_41_1 C dX9_order_29 u_365 in_41 ?_
      refine r_callVWi (rest := []) C (c_X3_findOrder (by decide) M) dX9_order_32 u_812 in_21 (contW_21 g _ _ _ _ _) rfl u_813 u_814 mi_X3_findOrder (by decide) rfl rfl (Nat.le_of_ble_eq_true rfl) (xk1 hm (by decide)) (xn1 hm (by decide)) (fun q5 h6 => ?_)
      refine r_if_ne (tgt := 40) C dX9_order_35 (by decide) (fun h7 => ?_) (fun h7 => ?_)
      · refine r_iconst (v := (-1)) C dX9_order_38 (by decide) ?_
        exact r_iret C dX9_order_39 rfl rfl (xk0 hm) (xn0 hm)
      · refine r_aload_n C 0 dX9_order_40 rfl rfl ?_
        refine gf_41_5 C dX9_order_41 u_369 in_41 ?_
        refine gf_21_0 C dX9_order_44 u_264 in_21 ?_
        refine r_iload_n C 1 dX9_order_47 rfl rfl ?_
        refine r_iald C dX9_order_48 in_22 (contW_22 g _ _ _ _ _) (fun h8 => ?_)
        exact r_iret C dX9_order_49 rfl rfl (xk0 hm) (xn0 hm)
def F_X9_isJob (p1 : Int32) (M : Mw) : Option (Int32) :=
  (if p1 < 0 then some 0 else (if 50 < p1 then some 0 else some 1))
set_option maxRecDepth 100000 in
set_option maxHeartbeats 4000000 in
theorem c_X9_isJob {g : Gw} {l : Launch} (p1 : Int32) (M : Mw) : Kw g l yX9_isJob cX9_isJob 1 (some .boolean) 1 0 0 [.int p1] M (fun v : Int32 => (some (.int v), M)) (F_X9_isJob p1 M) := by
  refine Kw.of (own := RX9) (lv0 := [(0, .int p1)]) (by decide +kernel) rfl (Nat.le_of_ble_eq_true rfl) rfl (fun x C hl hm => ?_)
  subst hl
  unfold F_X9_isJob
  refine r_iload_n C 0 dX9_isJob_0 rfl rfl ?_
  refine r_if_lt (tgt := 14) C dX9_isJob_1 (by decide) (fun h1 => ?_) (fun h1 => ?_)
  · refine r_iconst (v := 0) C dX9_isJob_14 (by decide) ?_
    exact r_zretc C dX9_isJob_15 rfl bz0 rfl (xk0 hm) (xn0 hm)
  · refine r_iload_n C 0 dX9_isJob_4 rfl rfl ?_
    refine r_bipush (v := 50) C dX9_isJob_5 (by decide) ?_
    refine r_icmp_gt (tgt := 14) C dX9_isJob_7 (by decide) (fun h2 => ?_) (fun h2 => ?_)
    · refine r_iconst (v := 0) C dX9_isJob_14 (by decide) ?_
      exact r_zretc C dX9_isJob_15 rfl bz0 rfl (xk0 hm) (xn0 hm)
    · refine r_iconst (v := 1) C dX9_isJob_10 (by decide) ?_
      refine r_goto (tgt := 15) C dX9_isJob_11 (by decide) ?_
      exact r_zretc C dX9_isJob_15 rfl bz1 rfl (xk0 hm) (xn0 hm)
def B_X2_nodeOnWay_6 (b1 : Nat) (l1 : Int32) (l2 : Int32) (l3 : Int32) (M : Mw) (k6 : Int32 → Int32 → Option (Int32)) (l4 : Int32) (l5 : Int32) : Option (Int32) :=
  (if l3 ≤ l5 then some l4 else (if l4 = (-1) then some l4 else ((F_X2_follower b1 l1 l4 l2 M).bind (fun v3 => (bd (l5 + 1) (fun v5 => (k6 v3 v5)))))))
def F_X2_nodeOnWay (b1 : Nat) (p2 : Int32) (p3 : Int32) (p4 : Int32) (M : Mw) : Option (Int32) :=
  (it (fun _ _ => none) (B_X2_nodeOnWay_6 b1 p2 p3 p4 M) FU 0 0)
set_option maxRecDepth 100000 in
set_option maxHeartbeats 4000000 in
theorem t_X2_nodeOnWay_6 {g : Gw} {x : Xw} (C : Cw g x cX2_nodeOnWay RX2 6 (some .int) 4) (hm : x.2.2.2.2.2.2.2.2.2.2.2 = (0, 0)) {b1 : Nat} (hb1 : b1 < 8) (M : Mw) (l1 : Int32) (l2 : Int32) (l3 : Int32) (k6 : Int32 → Int32 → Option (Int32)) (hk6 : ∀ (l4 : Int32) (l5 : Int32), Sw g x (fun v : Int32 => (some (.int v), M)) M 0 0 6 [(0, .ref (gA g 0 b1 0)), (1, .int l1), (2, .int l2), (3, .int l3), (4, .int l4), (5, .int l5)] [] (k6 l4 l5)) (l4 : Int32) (l5 : Int32) : Sw g x (fun v : Int32 => (some (.int v), M)) M 0 0 6 [(0, .ref (gA g 0 b1 0)), (1, .int l1), (2, .int l2), (3, .int l3), (4, .int l4), (5, .int l5)] [] (B_X2_nodeOnWay_6 b1 l1 l2 l3 M k6 l4 l5) := by
  unfold B_X2_nodeOnWay_6
  refine r_iload C 5 dX2_nodeOnWay_6 rfl ?_
  refine r_iload_n C 3 dX2_nodeOnWay_8 rfl rfl ?_
  refine r_icmp_ge (tgt := 34) C dX2_nodeOnWay_9 (by decide) (fun h1 => ?_) (fun h1 => ?_)
  · refine r_iload C 4 dX2_nodeOnWay_34 rfl ?_
    exact r_iret C dX2_nodeOnWay_36 rfl rfl (xk0 hm) (xn0 hm)
  · refine r_iload C 4 dX2_nodeOnWay_12 rfl ?_
    refine r_iconst (v := (-1)) C dX2_nodeOnWay_14 (by decide) ?_
    refine r_icmp_eq (tgt := 34) C dX2_nodeOnWay_15 (by decide) (fun h2 => ?_) (fun h2 => ?_)
    · refine r_iload C 4 dX2_nodeOnWay_34 rfl ?_
      exact r_iret C dX2_nodeOnWay_36 rfl rfl (xk0 hm) (xn0 hm)
    · refine r_aload_n C 0 dX2_nodeOnWay_18 rfl rfl ?_
      refine r_iload_n C 1 dX2_nodeOnWay_19 rfl rfl ?_
      refine r_iload C 4 dX2_nodeOnWay_20 rfl ?_
      refine r_iload_n C 2 dX2_nodeOnWay_22 rfl rfl ?_
      refine r_callSRi (rest := []) C (c_X2_follower hb1 l1 l4 l2 M) dX2_nodeOnWay_23 u_826 u_607 mi_X2_follower (by decide) rfl rfl (Nat.le_of_ble_eq_true rfl) (xk1 hm (by decide)) (xn1 hm (by decide)) (fun v3 h4 => ?_)
      refine r_istore0 (lv' := [(4, .int v3), (0, .ref (gA g 0 b1 0)), (1, .int l1), (2, .int l2), (3, .int l3), (5, .int l5)]) C dX2_nodeOnWay_26 (by decide) rfl ?_
      refine r_iinc (c := 1) (lv' := fun v5 => [(5, .int v5), (4, .int v3), (0, .ref (gA g 0 b1 0)), (1, .int l1), (2, .int l2), (3, .int l3)]) C 5 dX2_nodeOnWay_28 rfl (by decide) (by decide) (fun _ => rfl) (fun v5 => ?_)
      refine r_goto (tgt := 6) C dX2_nodeOnWay_31 (by decide) ?_
      refine r_lv [2, 3, 4, 5, 1, 0] rfl ?_
      exact hk6 v3 v5
set_option maxRecDepth 100000 in
set_option maxHeartbeats 4000000 in
theorem tl_X2_nodeOnWay_6 {g : Gw} {x : Xw} (C : Cw g x cX2_nodeOnWay RX2 6 (some .int) 4) (hm : x.2.2.2.2.2.2.2.2.2.2.2 = (0, 0)) {b1 : Nat} (hb1 : b1 < 8) (M : Mw) (l1 : Int32) (l2 : Int32) (l3 : Int32) (n : Nat) : ∀ (l4 : Int32) (l5 : Int32), Sw g x (fun v : Int32 => (some (.int v), M)) M 0 0 6 [(0, .ref (gA g 0 b1 0)), (1, .int l1), (2, .int l2), (3, .int l3), (4, .int l4), (5, .int l5)] [] (it (fun _ _ => none) (B_X2_nodeOnWay_6 b1 l1 l2 l3 M) n l4 l5) := by
  induction n with
  | zero =>
    intro l4 l5
    exact r_none
  | succ n ih =>
    intro l4 l5
    exact t_X2_nodeOnWay_6 C hm hb1 M l1 l2 l3 _ ih l4 l5
set_option maxRecDepth 100000 in
set_option maxHeartbeats 4000000 in
theorem c_X2_nodeOnWay {g : Gw} {l : Launch} {b1 : Nat} (hb1 : b1 < 8) (p2 : Int32) (p3 : Int32) (p4 : Int32) (M : Mw) : Kw g l yX2_nodeOnWay cX2_nodeOnWay 6 (some .int) 4 0 0 [.ref (gA g 0 b1 0), .int p2, .int p3, .int p4] M (fun v : Int32 => (some (.int v), M)) (F_X2_nodeOnWay b1 p2 p3 p4 M) := by
  refine Kw.of (own := RX2) (lv0 := [(0, .ref (gA g 0 b1 0)), (1, .int p2), (2, .int p3), (3, .int p4)]) (by decide +kernel) rfl (Nat.le_of_ble_eq_true rfl) rfl (fun x C hl hm => ?_)
  subst hl
  unfold F_X2_nodeOnWay
  refine r_iconst (v := 0) C dX2_nodeOnWay_0 (by decide) ?_
  refine r_istore0 (lv' := [(4, .int 0), (0, .ref (gA g 0 b1 0)), (1, .int p2), (2, .int p3), (3, .int p4)]) C dX2_nodeOnWay_1 (by decide) rfl ?_
  refine r_iconst (v := 0) C dX2_nodeOnWay_3 (by decide) ?_
  refine r_istore0 (lv' := [(5, .int 0), (4, .int 0), (0, .ref (gA g 0 b1 0)), (1, .int p2), (2, .int p3), (3, .int p4)]) C dX2_nodeOnWay_4 (by decide) rfl ?_
  refine r_lv [2, 3, 4, 5, 1, 0] rfl ?_
  exact tl_X2_nodeOnWay_6 C hm hb1 M p2 p3 p4 FU 0 0
def F_X9_path (p1 : Int32) (p2 : Int32) (p3 : Int32) (M : Mw) : Option (Int32) :=
  ((F_X0_hasTask 1 p1 M).bind (fun v1 => (if v1 = 0 then some (-2) else ((F_X9_isJob p2 M).bind (fun v4 => (if v4 = 0 then some (-2) else (if 0 ≤ p3 then ((F_X2_nodeOnWay 1 p1 p2 p3 M).bind (fun v8 => some v8)) else some (-2))))))))
set_option maxRecDepth 100000 in
set_option maxHeartbeats 4000000 in
theorem c_X9_path {g : Gw} {l : Launch} (p1 : Int32) (p2 : Int32) (p3 : Int32) (M : Mw) : Kw g l yX9_path cX9_path 4 (some .int) 5 0 0 [.ref (gA g 41 0 0), .int p1, .int p2, .int p3] M (fun v : Int32 => (some (.int v), M)) (F_X9_path p1 p2 p3 M) := by
  refine Kw.of (own := RX9) (lv0 := [(0, .ref (gA g 41 0 0)), (1, .int p1), (2, .int p2), (3, .int p3)]) (by decide +kernel) rfl (Nat.le_of_ble_eq_true rfl) rfl (fun x C hl hm => ?_)
  subst hl
  unfold F_X9_path
  refine r_aload_n C 0 dX9_path_0 rfl rfl ?_
  refine gf_41_1 C dX9_path_1 u_365 in_41 ?_
  refine r_iload_n C 1 dX9_path_4 rfl rfl ?_
  refine r_callVRi (rest := []) C (c_X0_hasTask (by decide) p1 M) dX9_path_5 u_699 (in_0 (by decide)) (contW_0 g _ _ _ _ _) rfl u_510 u_511 mi_X0_hasTask (by decide) rfl rfl (Nat.le_of_ble_eq_true rfl) (xk1 hm (by decide)) (xn1 hm (by decide)) (fun v1 h2 => ?_)
  refine r_if_eq (tgt := 22) C dX9_path_8 (by decide) (fun h3 => ?_) (fun h3 => ?_)
  · refine r_bipush (v := (-2)) C dX9_path_22 (by decide) ?_
    exact r_iret C dX9_path_24 rfl rfl (xk0 hm) (xn0 hm)
  · refine r_iload_n C 2 dX9_path_11 rfl rfl ?_
    refine r_callSRi (rest := []) C (c_X9_isJob p2 M) dX9_path_12 u_820 u_821 mi_X9_isJob (by decide) rfl rfl (Nat.le_of_ble_eq_true rfl) (xk1 hm (by decide)) (xn1 hm (by decide)) (fun v4 h5 => ?_)
    refine r_if_eq (tgt := 22) C dX9_path_15 (by decide) (fun h6 => ?_) (fun h6 => ?_)
    · refine r_bipush (v := (-2)) C dX9_path_22 (by decide) ?_
      exact r_iret C dX9_path_24 rfl rfl (xk0 hm) (xn0 hm)
    · refine r_iload_n C 3 dX9_path_18 rfl rfl ?_
      refine r_if_ge (tgt := 25) C dX9_path_19 (by decide) (fun h7 => ?_) (fun h7 => ?_)
      · refine r_aload_n C 0 dX9_path_25 rfl rfl ?_
        refine gf_41_1 C dX9_path_26 u_365 in_41 ?_
        refine r_iload_n C 1 dX9_path_29 rfl rfl ?_
        refine r_iload_n C 2 dX9_path_30 rfl rfl ?_
        refine r_iload_n C 3 dX9_path_31 rfl rfl ?_
        refine r_callSRi (rest := []) C (c_X2_nodeOnWay (by decide) p1 p2 p3 M) dX9_path_32 u_823 u_824 mi_X2_nodeOnWay (by decide) rfl rfl (Nat.le_of_ble_eq_true rfl) (xk1 hm (by decide)) (xn1 hm (by decide)) (fun v8 h9 => ?_)
        exact r_iret C dX9_path_35 rfl rfl (xk0 hm) (xn0 hm)
      · refine r_bipush (v := (-2)) C dX9_path_22 (by decide) ?_
        exact r_iret C dX9_path_24 rfl rfl (xk0 hm) (xn0 hm)
def F_X9_isQuestion (p1 : Int32) (M : Mw) : Option (Int32) :=
  (if p1 < 0 then some 0 else (if 64 ≤ p1 then some 0 else some 1))
set_option maxRecDepth 100000 in
set_option maxHeartbeats 4000000 in
theorem c_X9_isQuestion {g : Gw} {l : Launch} (p1 : Int32) (M : Mw) : Kw g l yX9_isQuestion cX9_isQuestion 1 (some .boolean) 1 0 0 [.int p1] M (fun v : Int32 => (some (.int v), M)) (F_X9_isQuestion p1 M) := by
  refine Kw.of (own := RX9) (lv0 := [(0, .int p1)]) (by decide +kernel) rfl (Nat.le_of_ble_eq_true rfl) rfl (fun x C hl hm => ?_)
  subst hl
  unfold F_X9_isQuestion
  refine r_iload_n C 0 dX9_isQuestion_0 rfl rfl ?_
  refine r_if_lt (tgt := 14) C dX9_isQuestion_1 (by decide) (fun h1 => ?_) (fun h1 => ?_)
  · refine r_iconst (v := 0) C dX9_isQuestion_14 (by decide) ?_
    exact r_zretc C dX9_isQuestion_15 rfl bz0 rfl (xk0 hm) (xn0 hm)
  · refine r_iload_n C 0 dX9_isQuestion_4 rfl rfl ?_
    refine r_bipush (v := 64) C dX9_isQuestion_5 (by decide) ?_
    refine r_icmp_ge (tgt := 14) C dX9_isQuestion_7 (by decide) (fun h2 => ?_) (fun h2 => ?_)
    · refine r_iconst (v := 0) C dX9_isQuestion_14 (by decide) ?_
      exact r_zretc C dX9_isQuestion_15 rfl bz0 rfl (xk0 hm) (xn0 hm)
    · refine r_iconst (v := 1) C dX9_isQuestion_10 (by decide) ?_
      refine r_goto (tgt := 15) C dX9_isQuestion_11 (by decide) ?_
      exact r_zretc C dX9_isQuestion_15 rfl bz1 rfl (xk0 hm) (xn0 hm)
def B_X2_answerOf_9 (b1 : Nat) (l1 : Int32) (l2 : Int32) (M : Mw) (k9 : Int32 → Int32 → Int32 → Option (Int32)) (l4 : Int32) (l5 : Int32) (l6 : Int32) : Option (Int32) :=
  (if 6 ≤ l6 then some l4 else (if l5 = (-1) then some l4 else ((F_X2_behindNode l4 l5 M).bind (fun v3 => ((F_X2_follower b1 l1 l5 l2 M).bind (fun v5 => (bd (l6 + 1) (fun v7 => (k9 v3 v5 v7)))))))))
def F_X2_answerOf (b1 : Nat) (p2 : Int32) (p3 : Int32) (p4 : Int32) (M : Mw) : Option (Int32) :=
  (it (fun _ _ _ => none) (B_X2_answerOf_9 b1 p2 p3 M) FU p4 0 0)
set_option maxRecDepth 100000 in
set_option maxHeartbeats 4000000 in
theorem t_X2_answerOf_9 {g : Gw} {x : Xw} (C : Cw g x cX2_answerOf RX2 7 (some .int) 4) (hm : x.2.2.2.2.2.2.2.2.2.2.2 = (0, 0)) {b1 : Nat} (hb1 : b1 < 8) (M : Mw) (l1 : Int32) (l2 : Int32) (k9 : Int32 → Int32 → Int32 → Option (Int32)) (hk9 : ∀ (l4 : Int32) (l5 : Int32) (l6 : Int32), Sw g x (fun v : Int32 => (some (.int v), M)) M 0 0 9 [(0, .ref (gA g 0 b1 0)), (1, .int l1), (2, .int l2), (4, .int l4), (5, .int l5), (6, .int l6)] [] (k9 l4 l5 l6)) (l4 : Int32) (l5 : Int32) (l6 : Int32) : Sw g x (fun v : Int32 => (some (.int v), M)) M 0 0 9 [(0, .ref (gA g 0 b1 0)), (1, .int l1), (2, .int l2), (4, .int l4), (5, .int l5), (6, .int l6)] [] (B_X2_answerOf_9 b1 l1 l2 M k9 l4 l5 l6) := by
  unfold B_X2_answerOf_9
  refine r_iload C 5 dX2_answerOf_9 rfl ?_
  refine r_bipush (v := 6) C dX2_answerOf_11 (by decide) ?_
  refine r_icmp_ge (tgt := 47) C dX2_answerOf_13 (by decide) (fun h1 => ?_) (fun h1 => ?_)
  · refine r_iload C 3 dX2_answerOf_47 rfl ?_
    exact r_iret C dX2_answerOf_49 rfl rfl (xk0 hm) (xn0 hm)
  · refine r_iload C 4 dX2_answerOf_16 rfl ?_
    refine r_iconst (v := (-1)) C dX2_answerOf_18 (by decide) ?_
    refine r_icmp_eq (tgt := 47) C dX2_answerOf_19 (by decide) (fun h2 => ?_) (fun h2 => ?_)
    · refine r_iload C 3 dX2_answerOf_47 rfl ?_
      exact r_iret C dX2_answerOf_49 rfl rfl (xk0 hm) (xn0 hm)
    · refine r_iload C 3 dX2_answerOf_22 rfl ?_
      refine r_iload C 4 dX2_answerOf_24 rfl ?_
      refine r_callSRi (rest := []) C (c_X2_behindNode l4 l5 M) dX2_answerOf_26 u_736 u_737 mi_X2_behindNode (by decide) rfl rfl (Nat.le_of_ble_eq_true rfl) (xk1 hm (by decide)) (xn1 hm (by decide)) (fun v3 h4 => ?_)
      refine r_istore0 (lv' := [(4, .int v3), (0, .ref (gA g 0 b1 0)), (1, .int l1), (2, .int l2), (5, .int l5), (6, .int l6)]) C dX2_answerOf_29 (by decide) rfl ?_
      refine r_aload_n C 1 dX2_answerOf_31 rfl rfl ?_
      refine r_iload_n C 2 dX2_answerOf_32 rfl rfl ?_
      refine r_iload C 4 dX2_answerOf_33 rfl ?_
      refine r_iload_n C 3 dX2_answerOf_35 rfl rfl ?_
      refine r_callSRi (rest := []) C (c_X2_follower hb1 l1 l5 l2 M) dX2_answerOf_36 u_826 u_607 mi_X2_follower (by decide) rfl rfl (Nat.le_of_ble_eq_true rfl) (xk1 hm (by decide)) (xn1 hm (by decide)) (fun v5 h6 => ?_)
      refine r_istore0 (lv' := [(5, .int v5), (4, .int v3), (0, .ref (gA g 0 b1 0)), (1, .int l1), (2, .int l2), (6, .int l6)]) C dX2_answerOf_39 (by decide) rfl ?_
      refine r_iinc (c := 1) (lv' := fun v7 => [(6, .int v7), (5, .int v5), (4, .int v3), (0, .ref (gA g 0 b1 0)), (1, .int l1), (2, .int l2)]) C 5 dX2_answerOf_41 rfl (by decide) (by decide) (fun _ => rfl) (fun v7 => ?_)
      refine r_goto (tgt := 9) C dX2_answerOf_44 (by decide) ?_
      refine r_lv [3, 4, 5, 2, 1, 0] rfl ?_
      exact hk9 v3 v5 v7
set_option maxRecDepth 100000 in
set_option maxHeartbeats 4000000 in
theorem tl_X2_answerOf_9 {g : Gw} {x : Xw} (C : Cw g x cX2_answerOf RX2 7 (some .int) 4) (hm : x.2.2.2.2.2.2.2.2.2.2.2 = (0, 0)) {b1 : Nat} (hb1 : b1 < 8) (M : Mw) (l1 : Int32) (l2 : Int32) (n : Nat) : ∀ (l4 : Int32) (l5 : Int32) (l6 : Int32), Sw g x (fun v : Int32 => (some (.int v), M)) M 0 0 9 [(0, .ref (gA g 0 b1 0)), (1, .int l1), (2, .int l2), (4, .int l4), (5, .int l5), (6, .int l6)] [] (it (fun _ _ _ => none) (B_X2_answerOf_9 b1 l1 l2 M) n l4 l5 l6) := by
  induction n with
  | zero =>
    intro l4 l5 l6
    exact r_none
  | succ n ih =>
    intro l4 l5 l6
    exact t_X2_answerOf_9 C hm hb1 M l1 l2 _ ih l4 l5 l6
set_option maxRecDepth 100000 in
set_option maxHeartbeats 4000000 in
theorem c_X2_answerOf {g : Gw} {l : Launch} {b1 : Nat} (hb1 : b1 < 8) (p2 : Int32) (p3 : Int32) (p4 : Int32) (M : Mw) : Kw g l yX2_answerOf cX2_answerOf 7 (some .int) 4 0 0 [.ref (gA g 0 b1 0), .int p2, .int p3, .int p4] M (fun v : Int32 => (some (.int v), M)) (F_X2_answerOf b1 p2 p3 p4 M) := by
  refine Kw.of (own := RX2) (lv0 := [(0, .ref (gA g 0 b1 0)), (1, .int p2), (2, .int p3), (3, .int p4)]) (by decide +kernel) rfl (Nat.le_of_ble_eq_true rfl) rfl (fun x C hl hm => ?_)
  subst hl
  unfold F_X2_answerOf
  refine r_iload_n C 3 dX2_answerOf_0 rfl rfl ?_
  refine r_istore0 (lv' := [(4, .int p4), (0, .ref (gA g 0 b1 0)), (1, .int p2), (2, .int p3), (3, .int p4)]) C dX2_answerOf_1 (by decide) rfl ?_
  refine r_iconst (v := 0) C dX2_answerOf_3 (by decide) ?_
  refine r_istore0 (lv' := [(5, .int 0), (4, .int p4), (0, .ref (gA g 0 b1 0)), (1, .int p2), (2, .int p3), (3, .int p4)]) C dX2_answerOf_4 (by decide) rfl ?_
  refine r_iconst (v := 0) C dX2_answerOf_6 (by decide) ?_
  refine r_istore0 (lv' := [(6, .int 0), (5, .int 0), (4, .int p4), (0, .ref (gA g 0 b1 0)), (1, .int p2), (2, .int p3), (3, .int p4)]) C dX2_answerOf_7 (by decide) rfl ?_
  refine r_lv [3, 4, 5, 2, 1, 0] rfl ?_
  exact tl_X2_answerOf_9 C hm hb1 M p2 p3 FU p4 0 0
def F_X9_answer (p1 : Int32) (p2 : Int32) (p3 : Int32) (M : Mw) : Option (Int32) :=
  ((F_X0_hasTask 1 p1 M).bind (fun v1 => (if v1 = 0 then some (-2) else ((F_X9_isJob p2 M).bind (fun v4 => (if v4 = 0 then some (-2) else ((F_X9_isQuestion p3 M).bind (fun v7 => (if v7 = 0 then some (-2) else ((F_X2_answerOf 1 p1 p2 p3 M).bind (fun v10 => some v10)))))))))))
set_option maxRecDepth 100000 in
set_option maxHeartbeats 4000000 in
theorem c_X9_answer {g : Gw} {l : Launch} (p1 : Int32) (p2 : Int32) (p3 : Int32) (M : Mw) : Kw g l yX9_answer cX9_answer 4 (some .int) 5 0 0 [.ref (gA g 41 0 0), .int p1, .int p2, .int p3] M (fun v : Int32 => (some (.int v), M)) (F_X9_answer p1 p2 p3 M) := by
  refine Kw.of (own := RX9) (lv0 := [(0, .ref (gA g 41 0 0)), (1, .int p1), (2, .int p2), (3, .int p3)]) (by decide +kernel) rfl (Nat.le_of_ble_eq_true rfl) rfl (fun x C hl hm => ?_)
  subst hl
  unfold F_X9_answer
  refine r_aload_n C 0 dX9_answer_0 rfl rfl ?_
  refine gf_41_1 C dX9_answer_1 u_365 in_41 ?_
  refine r_iload_n C 1 dX9_answer_4 rfl rfl ?_
  refine r_callVRi (rest := []) C (c_X0_hasTask (by decide) p1 M) dX9_answer_5 u_699 (in_0 (by decide)) (contW_0 g _ _ _ _ _) rfl u_510 u_511 mi_X0_hasTask (by decide) rfl rfl (Nat.le_of_ble_eq_true rfl) (xk1 hm (by decide)) (xn1 hm (by decide)) (fun v1 h2 => ?_)
  refine r_if_eq (tgt := 25) C dX9_answer_8 (by decide) (fun h3 => ?_) (fun h3 => ?_)
  · refine r_bipush (v := (-2)) C dX9_answer_25 (by decide) ?_
    exact r_iret C dX9_answer_27 rfl rfl (xk0 hm) (xn0 hm)
  · refine r_iload_n C 2 dX9_answer_11 rfl rfl ?_
    refine r_callSRi (rest := []) C (c_X9_isJob p2 M) dX9_answer_12 u_820 u_821 mi_X9_isJob (by decide) rfl rfl (Nat.le_of_ble_eq_true rfl) (xk1 hm (by decide)) (xn1 hm (by decide)) (fun v4 h5 => ?_)
    refine r_if_eq (tgt := 25) C dX9_answer_15 (by decide) (fun h6 => ?_) (fun h6 => ?_)
    · refine r_bipush (v := (-2)) C dX9_answer_25 (by decide) ?_
      exact r_iret C dX9_answer_27 rfl rfl (xk0 hm) (xn0 hm)
    · refine r_iload_n C 3 dX9_answer_18 rfl rfl ?_
      refine r_callSRi (rest := []) C (c_X9_isQuestion p3 M) dX9_answer_19 u_831 u_832 mi_X9_isQuestion (by decide) rfl rfl (Nat.le_of_ble_eq_true rfl) (xk1 hm (by decide)) (xn1 hm (by decide)) (fun v7 h8 => ?_)
      refine r_if_ne (tgt := 28) C dX9_answer_22 (by decide) (fun h9 => ?_) (fun h9 => ?_)
      · refine r_bipush (v := (-2)) C dX9_answer_25 (by decide) ?_
        exact r_iret C dX9_answer_27 rfl rfl (xk0 hm) (xn0 hm)
      · refine r_aload_n C 0 dX9_answer_28 rfl rfl ?_
        refine gf_41_1 C dX9_answer_29 u_365 in_41 ?_
        refine r_iload_n C 1 dX9_answer_32 rfl rfl ?_
        refine r_iload_n C 2 dX9_answer_33 rfl rfl ?_
        refine r_iload_n C 3 dX9_answer_34 rfl rfl ?_
        refine r_callSRi (rest := []) C (c_X2_answerOf (by decide) p1 p2 p3 M) dX9_answer_35 u_834 u_835 mi_X2_answerOf (by decide) rfl rfl (Nat.le_of_ble_eq_true rfl) (xk1 hm (by decide)) (xn1 hm (by decide)) (fun v10 h11 => ?_)
        exact r_iret C dX9_answer_38 rfl rfl (xk0 hm) (xn0 hm)
def B_X2_countPairs_13 (b1 : Nat) (M : Mw) (k13 : Int32 → Int32 → Option (Int32 × Mw)) (l4 : Int32) (l5 : Int32) : Option (Int32 × Mw) :=
  (if 64 ≤ l5 then some (l4, M) else (if inb l5 64 then (if inb l5 64 then (if 2 = 0 then none else (bd (l4 + (((M.1 20 0 0 l5.toNatClampNeg) * ((M.1 20 0 0 l5.toNatClampNeg) - 1)) / 2)) (fun v7 => (bd (l5 + 1) (fun v8 => (k13 v7 v8)))))) else none) else none))
def F_X2_countPairs (b1 : Nat) (p2 : Int32) (p3 : Int32) (M : Mw) : Option (Int32 × Mw) :=
  ((F_X2_tallyAnswers b1 p2 p3 M).bind (fun M1 => (it (fun _ _ => none) (B_X2_countPairs_13 b1 M1) FU 0 0)))
set_option maxRecDepth 100000 in
set_option maxHeartbeats 4000000 in
theorem t_X2_countPairs_13 {g : Gw} {x : Xw} (C : Cw g x cX2_countPairs RX2 6 (some .int) 3) (hm : x.2.2.2.2.2.2.2.2.2.2.2 = (0, 0)) {b1 : Nat} (hb1 : b1 < 8) (M : Mw) (k13 : Int32 → Int32 → Option (Int32 × Mw)) (hk13 : ∀ (l4 : Int32) (l5 : Int32), Sw g x (fun q : Int32 × Mw => (some (.int q.1), q.2)) M 0 0 13 [(0, .ref (gA g 17 0 0)), (4, .int l4), (5, .int l5)] [] (k13 l4 l5)) (l4 : Int32) (l5 : Int32) : Sw g x (fun q : Int32 × Mw => (some (.int q.1), q.2)) M 0 0 13 [(0, .ref (gA g 17 0 0)), (4, .int l4), (5, .int l5)] [] (B_X2_countPairs_13 b1 M k13 l4 l5) := by
  unfold B_X2_countPairs_13
  refine r_iload C 2 dX2_countPairs_13 rfl ?_
  refine r_bipush (v := 64) C dX2_countPairs_15 (by decide) ?_
  refine r_icmp_ge (tgt := 50) C dX2_countPairs_17 (by decide) (fun h3 => ?_) (fun h3 => ?_)
  · refine r_iload C 1 dX2_countPairs_50 rfl ?_
    exact r_iret C dX2_countPairs_52 rfl rfl (xk0 hm) (xn0 hm)
  · refine r_iload C 1 dX2_countPairs_20 rfl ?_
    refine r_aload_n C 0 dX2_countPairs_22 rfl rfl ?_
    refine gf_17_1 C dX2_countPairs_23 u_256 in_17 ?_
    refine r_iload C 2 dX2_countPairs_26 rfl ?_
    refine r_iald C dX2_countPairs_28 in_20 (contW_20 g _ _ _ _ _) (fun h4 => ?_)
    refine r_aload_n C 0 dX2_countPairs_29 rfl rfl ?_
    refine gf_17_1 C dX2_countPairs_30 u_256 in_17 ?_
    refine r_iload C 2 dX2_countPairs_33 rfl ?_
    refine r_iald C dX2_countPairs_35 in_20 (contW_20 g _ _ _ _ _) (fun h5 => ?_)
    refine r_iconst (v := 1) C dX2_countPairs_36 (by decide) ?_
    refine r_isub C dX2_countPairs_37 ?_
    refine r_imul C dX2_countPairs_38 ?_
    refine r_iconst (v := 2) C dX2_countPairs_39 (by decide) ?_
    refine r_idiv C dX2_countPairs_40 (fun h6 => ?_)
    refine r_iadd C dX2_countPairs_41 ?_
    refine r_istore (lv' := fun v7 => [(4, .int v7), (0, .ref (gA g 17 0 0)), (5, .int l5)]) C dX2_countPairs_42 (by decide) (fun _ => rfl) (fun v7 => ?_)
    refine r_iinc (c := 1) (lv' := fun v8 => [(5, .int v8), (4, .int v7), (0, .ref (gA g 17 0 0))]) C 2 dX2_countPairs_44 rfl (by decide) (by decide) (fun _ => rfl) (fun v8 => ?_)
    refine r_goto (tgt := 13) C dX2_countPairs_47 (by decide) ?_
    refine r_lv [2, 1, 0] rfl ?_
    exact hk13 v7 v8
set_option maxRecDepth 100000 in
set_option maxHeartbeats 4000000 in
theorem tl_X2_countPairs_13 {g : Gw} {x : Xw} (C : Cw g x cX2_countPairs RX2 6 (some .int) 3) (hm : x.2.2.2.2.2.2.2.2.2.2.2 = (0, 0)) {b1 : Nat} (hb1 : b1 < 8) (M : Mw) (n : Nat) : ∀ (l4 : Int32) (l5 : Int32), Sw g x (fun q : Int32 × Mw => (some (.int q.1), q.2)) M 0 0 13 [(0, .ref (gA g 17 0 0)), (4, .int l4), (5, .int l5)] [] (it (fun _ _ => none) (B_X2_countPairs_13 b1 M) n l4 l5) := by
  induction n with
  | zero =>
    intro l4 l5
    exact r_none
  | succ n ih =>
    intro l4 l5
    exact t_X2_countPairs_13 C hm hb1 M _ ih l4 l5
set_option maxRecDepth 100000 in
set_option maxHeartbeats 4000000 in
theorem c_X2_countPairs {g : Gw} {l : Launch} {b1 : Nat} (hb1 : b1 < 8) (p2 : Int32) (p3 : Int32) (M : Mw) : Kw g l yX2_countPairs cX2_countPairs 6 (some .int) 3 0 0 [.ref (gA g 17 0 0), .ref (gA g 0 b1 0), .int p2, .int p3] M (fun q : Int32 × Mw => (some (.int q.1), q.2)) (F_X2_countPairs b1 p2 p3 M) := by
  refine Kw.of (own := RX2) (lv0 := [(0, .ref (gA g 17 0 0)), (1, .ref (gA g 0 b1 0)), (2, .int p2), (3, .int p3)]) (by decide +kernel) rfl (Nat.le_of_ble_eq_true rfl) rfl (fun x C hl hm => ?_)
  subst hl
  unfold F_X2_countPairs
  refine r_aload_n C 0 dX2_countPairs_0 rfl rfl ?_
  refine r_aload_n C 1 dX2_countPairs_1 rfl rfl ?_
  refine r_iload_n C 2 dX2_countPairs_2 rfl rfl ?_
  refine r_iload_n C 3 dX2_countPairs_3 rfl rfl ?_
  refine r_callVU (rest := []) C (c_X2_tallyAnswers hb1 p2 p3 M) dX2_countPairs_4 u_733 in_17 (contW_17 g _ _ _ _ _) rfl u_734 u_36 mi_X2_tallyAnswers (by decide) rfl rfl (Nat.le_of_ble_eq_true rfl) (xk1 hm (by decide)) (xn1 hm (by decide)) (fun M1 h2 => ?_)
  refine r_iconst (v := 0) C dX2_countPairs_7 (by decide) ?_
  refine r_istore0 (lv' := [(4, .int 0), (0, .ref (gA g 17 0 0)), (1, .ref (gA g 0 b1 0)), (2, .int p2), (3, .int p3)]) C dX2_countPairs_8 (by decide) rfl ?_
  refine r_iconst (v := 0) C dX2_countPairs_10 (by decide) ?_
  refine r_istore0 (lv' := [(5, .int 0), (4, .int 0), (0, .ref (gA g 17 0 0)), (1, .ref (gA g 0 b1 0)), (2, .int p2), (3, .int p3)]) C dX2_countPairs_11 (by decide) rfl ?_
  refine r_lv [2, 1, 0] rfl ?_
  exact tl_X2_countPairs_13 C hm hb1 M1 FU 0 0
def F_X9_alike (p1 : Int32) (p2 : Int32) (M : Mw) : Option (Int32 × Mw) :=
  ((F_X0_hasTask 1 p1 M).bind (fun v1 => (if v1 = 0 then some ((-2), M) else ((F_X9_isQuestion p2 M).bind (fun v4 => (if v4 = 0 then some ((-2), M) else ((F_X2_countPairs 1 p1 p2 M).bind (fun q7 => some (q7.1, q7.2)))))))))
set_option maxRecDepth 100000 in
set_option maxHeartbeats 4000000 in
theorem c_X9_alike {g : Gw} {l : Launch} (p1 : Int32) (p2 : Int32) (M : Mw) : Kw g l yX9_alike cX9_alike 3 (some .int) 4 0 0 [.ref (gA g 41 0 0), .int p1, .int p2] M (fun q : Int32 × Mw => (some (.int q.1), q.2)) (F_X9_alike p1 p2 M) := by
  refine Kw.of (own := RX9) (lv0 := [(0, .ref (gA g 41 0 0)), (1, .int p1), (2, .int p2)]) (by decide +kernel) rfl (Nat.le_of_ble_eq_true rfl) rfl (fun x C hl hm => ?_)
  subst hl
  unfold F_X9_alike
  refine r_aload_n C 0 dX9_alike_0 rfl rfl ?_
  refine gf_41_1 C dX9_alike_1 u_365 in_41 ?_
  refine r_iload_n C 1 dX9_alike_4 rfl rfl ?_
  refine r_callVRi (rest := []) C (c_X0_hasTask (by decide) p1 M) dX9_alike_5 u_699 (in_0 (by decide)) (contW_0 g _ _ _ _ _) rfl u_510 u_511 mi_X0_hasTask (by decide) rfl rfl (Nat.le_of_ble_eq_true rfl) (xk1 hm (by decide)) (xn1 hm (by decide)) (fun v1 h2 => ?_)
  refine r_if_eq (tgt := 18) C dX9_alike_8 (by decide) (fun h3 => ?_) (fun h3 => ?_)
  · refine r_bipush (v := (-2)) C dX9_alike_18 (by decide) ?_
    exact r_iret C dX9_alike_20 rfl rfl (xk0 hm) (xn0 hm)
  · refine r_iload_n C 2 dX9_alike_11 rfl rfl ?_
    refine r_callSRi (rest := []) C (c_X9_isQuestion p2 M) dX9_alike_12 u_831 u_832 mi_X9_isQuestion (by decide) rfl rfl (Nat.le_of_ble_eq_true rfl) (xk1 hm (by decide)) (xn1 hm (by decide)) (fun v4 h5 => ?_)
    refine r_if_ne (tgt := 21) C dX9_alike_15 (by decide) (fun h6 => ?_) (fun h6 => ?_)
    · refine r_bipush (v := (-2)) C dX9_alike_18 (by decide) ?_
      exact r_iret C dX9_alike_20 rfl rfl (xk0 hm) (xn0 hm)
    · refine r_aload_n C 0 dX9_alike_21 rfl rfl ?_
      refine gf_41_4 C dX9_alike_22 u_368 in_41 ?_
      refine r_aload_n C 0 dX9_alike_25 rfl rfl ?_
      refine gf_41_1 C dX9_alike_26 u_365 in_41 ?_
      refine r_iload_n C 1 dX9_alike_29 rfl rfl ?_
      refine r_iload_n C 2 dX9_alike_30 rfl rfl ?_
      refine r_callVWi (rest := []) C (c_X2_countPairs (by decide) p1 p2 M) dX9_alike_31 u_841 in_17 (contW_17 g _ _ _ _ _) rfl u_842 u_843 mi_X2_countPairs (by decide) rfl rfl (Nat.le_of_ble_eq_true rfl) (xk1 hm (by decide)) (xn1 hm (by decide)) (fun q7 h8 => ?_)
      exact r_iret C dX9_alike_34 rfl rfl (xk0 hm) (xn0 hm)
def F_X9_lawful (M : Mw) : Option (Int32 × Mw) :=
  (if (M.1 0 1 0 3) = 0 then some ((-2), M) else ((F_X3_lawfulBits 1 M).bind (fun q2 => some (q2.1, q2.2))))
set_option maxRecDepth 100000 in
set_option maxHeartbeats 4000000 in
theorem c_X9_lawful {g : Gw} {l : Launch} (M : Mw) : Kw g l yX9_lawful cX9_lawful 1 (some .int) 6 0 0 [.ref (gA g 41 0 0)] M (fun q : Int32 × Mw => (some (.int q.1), q.2)) (F_X9_lawful M) := by
  refine Kw.of (own := RX9) (lv0 := [(0, .ref (gA g 41 0 0))]) (by decide +kernel) rfl (Nat.le_of_ble_eq_true rfl) rfl (fun x C hl hm => ?_)
  subst hl
  unfold F_X9_lawful
  refine r_aload_n C 0 dX9_lawful_0 rfl rfl ?_
  refine gf_41_1 C dX9_lawful_1 u_365 in_41 ?_
  refine gf_0_3 C dX9_lawful_4 u_195 (in_0 (by decide)) ?_
  refine r_if_ne (tgt := 15) C dX9_lawful_7 (by decide) (fun h1 => ?_) (fun h1 => ?_)
  · refine r_bipush (v := (-2)) C dX9_lawful_10 (by decide) ?_
    refine r_goto (tgt := 26) C dX9_lawful_12 (by decide) ?_
    exact r_iret C dX9_lawful_26 rfl rfl (xk0 hm) (xn0 hm)
  · refine r_aload_n C 0 dX9_lawful_15 rfl rfl ?_
    refine gf_41_5 C dX9_lawful_16 u_369 in_41 ?_
    refine r_aload_n C 0 dX9_lawful_19 rfl rfl ?_
    refine gf_41_1 C dX9_lawful_20 u_365 in_41 ?_
    refine r_callVWi (rest := []) C (c_X3_lawfulBits (by decide) M) dX9_lawful_23 u_849 in_21 (contW_21 g _ _ _ _ _) rfl u_782 u_783 mi_X3_lawfulBits (by decide) rfl rfl (Nat.le_of_ble_eq_true rfl) (xk1 hm (by decide)) (xn1 hm (by decide)) (fun q2 h3 => ?_)
    exact r_iret C dX9_lawful_26 rfl rfl (xk0 hm) (xn0 hm)
def B_X3_loadOf_4 (b1 : Nat) (M : Mw) (k4 : UInt32 → Int32 → Option (UInt32)) (l1 : UInt32) (l2 : Int32) : Option (UInt32) :=
  (if (M.1 0 b1 0 5) ≤ l2 then some l1 else (if inb l2 5 then (bd (M.1 4 b1 l2.toNatClampNeg 1) (fun v4 => (if v4 ≤ 0 then (bd (l2 + 1) (fun v6 => (k4 l1 v6))) else (if inb l2 5 then (if nf (FP.fdiv (FP.i2f (M.1 10 b1 l2.toNatClampNeg 1)) (FP.i2f v4)) then (if nf (FP.fadd l1 (FP.fdiv (FP.i2f (M.1 10 b1 l2.toNatClampNeg 1)) (FP.i2f v4))) then (bd (FP.fadd l1 (FP.fdiv (FP.i2f (M.1 10 b1 l2.toNatClampNeg 1)) (FP.i2f v4))) (fun v8 => (bd (l2 + 1) (fun v9 => (k4 v8 v9))))) else none) else none) else none)))) else none))
def F_X3_loadOf (b1 : Nat) (M : Mw) : Option (UInt32) :=
  (bd FP.fconst0 (fun v1 => (it (fun _ _ => none) (B_X3_loadOf_4 b1 M) FU v1 0)))
set_option maxRecDepth 100000 in
set_option maxHeartbeats 4000000 in
theorem t_X3_loadOf_4 {g : Gw} {x : Xw} (C : Cw g x cX3_loadOf RX3 4 (some .float) 1) (hm : x.2.2.2.2.2.2.2.2.2.2.2 = (0, 0)) {b1 : Nat} (hb1 : b1 < 8) (M : Mw) (k4 : UInt32 → Int32 → Option (UInt32)) (hk4 : ∀ (l1 : UInt32) (l2 : Int32), Sw g x (fun v : UInt32 => (some (.float v), M)) M 0 0 4 [(0, .ref (gA g 0 b1 0)), (1, .float l1), (2, .int l2)] [] (k4 l1 l2)) (l1 : UInt32) (l2 : Int32) : Sw g x (fun v : UInt32 => (some (.float v), M)) M 0 0 4 [(0, .ref (gA g 0 b1 0)), (1, .float l1), (2, .int l2)] [] (B_X3_loadOf_4 b1 M k4 l1 l2) := by
  unfold B_X3_loadOf_4
  refine r_iload_n C 2 dX3_loadOf_4 rfl rfl ?_
  refine r_aload_n C 0 dX3_loadOf_5 rfl rfl ?_
  refine gf_0_5 C dX3_loadOf_6 u_203 (in_0 hb1) ?_
  refine r_icmp_ge (tgt := 46) C dX3_loadOf_9 (by decide) (fun h2 => ?_) (fun h2 => ?_)
  · refine r_fload_n C 1 dX3_loadOf_46 rfl rfl ?_
    exact r_fret C dX3_loadOf_47 rfl rfl (xk0 hm) (xn0 hm)
  · refine r_aload_n C 0 dX3_loadOf_12 rfl rfl ?_
    refine gf_0_10 C dX3_loadOf_13 u_219 (in_0 hb1) ?_
    refine r_iload_n C 2 dX3_loadOf_16 rfl rfl ?_
    refine r_aald (t0 := 5) (ty := .array .int) C dX3_loadOf_17 (in_3 hb1) (contW_3 g _ _ _ _ _) rfl rfl (fun h3 => ?_)
    refine r_iconst (v := 1) C dX3_loadOf_18 (by decide) ?_
    refine r_ialdc C dX3_loadOf_19 (in_4 hb1 (inb_lt h3)) (contW_4 g _ _ _ _ _) (by decide) (j := 1) (by decide) ?_
    refine r_istore_n (lv' := fun v4 => [(3, .int v4), (0, .ref (gA g 0 b1 0)), (1, .float l1), (2, .int l2)]) C dX3_loadOf_20 rfl (by decide) (fun _ => rfl) (fun v4 => ?_)
    refine r_iload_n C 0 dX3_loadOf_21 rfl rfl ?_
    refine r_if_le (tgt := 40) C dX3_loadOf_22 (by decide) (fun h5 => ?_) (fun h5 => ?_)
    · refine r_iinc (c := 1) (lv' := fun v6 => [(2, .int v6), (3, .int v4), (0, .ref (gA g 0 b1 0)), (1, .float l1)]) C 3 dX3_loadOf_40 rfl (by decide) (by decide) (fun _ => rfl) (fun v6 => ?_)
      refine r_goto (tgt := 4) C dX3_loadOf_43 (by decide) ?_
      refine r_lv [2, 3, 0] rfl ?_
      exact hk4 l1 v6
    · refine r_fload_n C 2 dX3_loadOf_25 rfl rfl ?_
      refine r_aload_n C 1 dX3_loadOf_26 rfl rfl ?_
      refine gf_0_13 C dX3_loadOf_27 u_234 (in_0 hb1) ?_
      refine r_iload_n C 3 dX3_loadOf_30 rfl rfl ?_
      refine r_aald (t0 := 5) (ty := .array .int) C dX3_loadOf_31 (in_9 hb1) (contW_9 g _ _ _ _ _) rfl rfl (fun h7 => ?_)
      refine r_iconst (v := 1) C dX3_loadOf_32 (by decide) ?_
      refine r_ialdc C dX3_loadOf_33 (in_10 hb1 (inb_lt h7)) (contW_10 g _ _ _ _ _) (by decide) (j := 1) (by decide) ?_
      refine r_i2f C dX3_loadOf_34 ?_
      refine r_iload_n C 0 dX3_loadOf_35 rfl rfl ?_
      refine r_i2f C dX3_loadOf_36 ?_
      refine r_fdiv C dX3_loadOf_37 ?_
      refine r_fadd C dX3_loadOf_38 ?_
      refine r_fstore_n (lv' := fun v8 => [(1, .float v8), (3, .int v4), (0, .ref (gA g 0 b1 0)), (2, .int l2)]) C dX3_loadOf_39 rfl (by decide) (fun _ => rfl) (fun v8 => ?_)
      refine r_iinc (c := 1) (lv' := fun v9 => [(2, .int v9), (1, .float v8), (3, .int v4), (0, .ref (gA g 0 b1 0))]) C 3 dX3_loadOf_40 rfl (by decide) (by decide) (fun _ => rfl) (fun v9 => ?_)
      refine r_goto (tgt := 4) C dX3_loadOf_43 (by decide) ?_
      refine r_lv [3, 1, 0] rfl ?_
      exact hk4 v8 v9
set_option maxRecDepth 100000 in
set_option maxHeartbeats 4000000 in
theorem tl_X3_loadOf_4 {g : Gw} {x : Xw} (C : Cw g x cX3_loadOf RX3 4 (some .float) 1) (hm : x.2.2.2.2.2.2.2.2.2.2.2 = (0, 0)) {b1 : Nat} (hb1 : b1 < 8) (M : Mw) (n : Nat) : ∀ (l1 : UInt32) (l2 : Int32), Sw g x (fun v : UInt32 => (some (.float v), M)) M 0 0 4 [(0, .ref (gA g 0 b1 0)), (1, .float l1), (2, .int l2)] [] (it (fun _ _ => none) (B_X3_loadOf_4 b1 M) n l1 l2) := by
  induction n with
  | zero =>
    intro l1 l2
    exact r_none
  | succ n ih =>
    intro l1 l2
    exact t_X3_loadOf_4 C hm hb1 M _ ih l1 l2
set_option maxRecDepth 100000 in
set_option maxHeartbeats 4000000 in
theorem c_X3_loadOf {g : Gw} {l : Launch} {b1 : Nat} (hb1 : b1 < 8) (M : Mw) : Kw g l yX3_loadOf cX3_loadOf 4 (some .float) 1 0 0 [.ref (gA g 0 b1 0)] M (fun v : UInt32 => (some (.float v), M)) (F_X3_loadOf b1 M) := by
  refine Kw.of (own := RX3) (lv0 := [(0, .ref (gA g 0 b1 0))]) (by decide +kernel) rfl (Nat.le_of_ble_eq_true rfl) rfl (fun x C hl hm => ?_)
  subst hl
  unfold F_X3_loadOf
  refine r_fconst0 C dX3_loadOf_0 ?_
  refine r_fstore_n (lv' := fun v1 => [(1, .float v1), (0, .ref (gA g 0 b1 0))]) C dX3_loadOf_1 rfl (by decide) (fun _ => rfl) (fun v1 => ?_)
  refine r_iconst (v := 0) C dX3_loadOf_2 (by decide) ?_
  refine r_istore_n0 (lv' := [(2, .int 0), (1, .float v1), (0, .ref (gA g 0 b1 0))]) C dX3_loadOf_3 rfl (by decide) rfl ?_
  refine r_lv [2, 1, 0] rfl ?_
  exact tl_X3_loadOf_4 C hm hb1 M FU v1 0
def B_X9_bitsOfFloat_68 (l1 : UInt32) (l2 : Int32) (M : Mw) : Option (Int32) :=
  (if 0 ≤ (Op.cmpValue (FP.fcmp l1 FP.fconst1) .g) then (if nf (FP.fsub l1 FP.fconst1) then (if nf (FP.fmul (FP.fsub l1 FP.fconst1) 1258291200) then some ((l2 <<< (23 &&& 31)) + (FP.f2i (FP.fmul (FP.fsub l1 FP.fconst1) 1258291200))) else none) else none) else (if nf (FP.fmul l1 1258291200) then some (FP.f2i (FP.fmul l1 1258291200)) else none))
def B_X9_bitsOfFloat_43 (M : Mw) (k43 : UInt32 → Int32 → Int32 → Option (Int32)) (l1 : UInt32) (l2 : Int32) (l3 : Int32) : Option (Int32) :=
  (if 126 ≤ l3 then (B_X9_bitsOfFloat_68 l1 l2 M) else (if 0 ≤ (Op.cmpValue (FP.fcmp l1 FP.fconst1) .g) then (B_X9_bitsOfFloat_68 l1 l2 M) else (if nf (FP.fmul l1 FP.fconst2) then (bd (FP.fmul l1 FP.fconst2) (fun v7 => (bd (l2 + (-1)) (fun v8 => (bd (l3 + 1) (fun v9 => (k43 v7 v8 v9))))))) else none)))
def B_X9_bitsOfFloat_41 (l1 : UInt32) (l2 : Int32) (M : Mw) : Option (Int32) :=
  (it (fun _ _ _ => none) (B_X9_bitsOfFloat_43 M) FU l1 l2 0)
def B_X9_bitsOfFloat_15 (M : Mw) (k15 : UInt32 → Int32 → Int32 → Option (Int32)) (l1 : UInt32) (l2 : Int32) (l3 : Int32) : Option (Int32) :=
  (if 128 ≤ l3 then (B_X9_bitsOfFloat_41 l1 l2 M) else (if (Op.cmpValue (FP.fcmp l1 FP.fconst2) .l) < 0 then (B_X9_bitsOfFloat_41 l1 l2 M) else (if nf (FP.fdiv l1 FP.fconst2) then (bd (FP.fdiv l1 FP.fconst2) (fun v11 => (bd (l2 + 1) (fun v12 => (bd (l3 + 1) (fun v13 => (k15 v11 v12 v13))))))) else none)))
def F_X9_bitsOfFloat (p1 : UInt32) (M : Mw) : Option (Int32) :=
  (if 0 < (Op.cmpValue (FP.fcmp p1 FP.fconst0) .l) then (bd p1 (fun v2 => (it (fun _ _ _ => none) (B_X9_bitsOfFloat_15 M) FU v2 127 0))) else some 0)
set_option maxRecDepth 100000 in
set_option maxHeartbeats 4000000 in
theorem t_X9_bitsOfFloat_68 {g : Gw} {x : Xw} (C : Cw g x cX9_bitsOfFloat RX9 4 (some .int) 1) (hm : x.2.2.2.2.2.2.2.2.2.2.2 = (0, 0)) (M : Mw) (l1 : UInt32) (l2 : Int32) : Sw g x (fun v : Int32 => (some (.int v), M)) M 0 0 68 [(1, .float l1), (2, .int l2)] [] (B_X9_bitsOfFloat_68 l1 l2 M) := by
  unfold B_X9_bitsOfFloat_68
  refine r_fload_n C 0 dX9_bitsOfFloat_68 rfl rfl ?_
  refine r_fconst1 C dX9_bitsOfFloat_69 ?_
  refine r_fcmp C dX9_bitsOfFloat_70 ?_
  refine r_if_ge (tgt := 81) C dX9_bitsOfFloat_71 (by decide) (fun h5 => ?_) (fun h5 => ?_)
  · refine r_iload_n C 1 dX9_bitsOfFloat_81 rfl rfl ?_
    refine r_bipush (v := 23) C dX9_bitsOfFloat_82 (by decide) ?_
    refine r_ishl C dX9_bitsOfFloat_84 ?_
    refine r_fload_n C 0 dX9_bitsOfFloat_85 rfl rfl ?_
    refine r_fconst1 C dX9_bitsOfFloat_86 ?_
    refine r_fsub C dX9_bitsOfFloat_87 ?_
    refine r_ldcfw (v := 1258291200) C u_860 dX9_bitsOfFloat_88 ?_
    refine r_fmul C dX9_bitsOfFloat_91 ?_
    refine r_f2i C dX9_bitsOfFloat_92 ?_
    refine r_iadd C dX9_bitsOfFloat_93 ?_
    exact r_iret C dX9_bitsOfFloat_94 rfl rfl (xk0 hm) (xn0 hm)
  · refine r_fload_n C 0 dX9_bitsOfFloat_74 rfl rfl ?_
    refine r_ldcfw (v := 1258291200) C u_860 dX9_bitsOfFloat_75 ?_
    refine r_fmul C dX9_bitsOfFloat_78 ?_
    refine r_f2i C dX9_bitsOfFloat_79 ?_
    exact r_iret C dX9_bitsOfFloat_80 rfl rfl (xk0 hm) (xn0 hm)
set_option maxRecDepth 100000 in
set_option maxHeartbeats 4000000 in
theorem t_X9_bitsOfFloat_43 {g : Gw} {x : Xw} (C : Cw g x cX9_bitsOfFloat RX9 4 (some .int) 1) (hm : x.2.2.2.2.2.2.2.2.2.2.2 = (0, 0)) (M : Mw) (k43 : UInt32 → Int32 → Int32 → Option (Int32)) (hk43 : ∀ (l1 : UInt32) (l2 : Int32) (l3 : Int32), Sw g x (fun v : Int32 => (some (.int v), M)) M 0 0 43 [(1, .float l1), (2, .int l2), (3, .int l3)] [] (k43 l1 l2 l3)) (l1 : UInt32) (l2 : Int32) (l3 : Int32) : Sw g x (fun v : Int32 => (some (.int v), M)) M 0 0 43 [(1, .float l1), (2, .int l2), (3, .int l3)] [] (B_X9_bitsOfFloat_43 M k43 l1 l2 l3) := by
  unfold B_X9_bitsOfFloat_43
  refine r_iload_n C 2 dX9_bitsOfFloat_43 rfl rfl ?_
  refine r_bipush (v := 126) C dX9_bitsOfFloat_44 (by decide) ?_
  refine r_icmp_ge (tgt := 68) C dX9_bitsOfFloat_46 (by decide) (fun h4 => ?_) (fun h4 => ?_)
  · refine r_lv [0, 1] rfl ?_
    exact t_X9_bitsOfFloat_68 C hm M l1 l2
  · refine r_fload_n C 0 dX9_bitsOfFloat_49 rfl rfl ?_
    refine r_fconst1 C dX9_bitsOfFloat_50 ?_
    refine r_fcmp C dX9_bitsOfFloat_51 ?_
    refine r_if_ge (tgt := 68) C dX9_bitsOfFloat_52 (by decide) (fun h6 => ?_) (fun h6 => ?_)
    · refine r_lv [0, 1] rfl ?_
      exact t_X9_bitsOfFloat_68 C hm M l1 l2
    · refine r_fload_n C 0 dX9_bitsOfFloat_55 rfl rfl ?_
      refine r_fconst2 C dX9_bitsOfFloat_56 ?_
      refine r_fmul C dX9_bitsOfFloat_57 ?_
      refine r_fstore_n (lv' := fun v7 => [(1, .float v7), (2, .int l2), (3, .int l3)]) C dX9_bitsOfFloat_58 rfl (by decide) (fun _ => rfl) (fun v7 => ?_)
      refine r_iinc (c := (-1)) (lv' := fun v8 => [(2, .int v8), (1, .float v7), (3, .int l3)]) C 1 dX9_bitsOfFloat_59 rfl (by decide) (by decide) (fun _ => rfl) (fun v8 => ?_)
      refine r_iinc (c := 1) (lv' := fun v9 => [(3, .int v9), (2, .int v8), (1, .float v7)]) C 2 dX9_bitsOfFloat_62 rfl (by decide) (by decide) (fun _ => rfl) (fun v9 => ?_)
      refine r_goto (tgt := 43) C dX9_bitsOfFloat_65 (by decide) ?_
      refine r_lv [2, 1, 0] rfl ?_
      exact hk43 v7 v8 v9
set_option maxRecDepth 100000 in
set_option maxHeartbeats 4000000 in
theorem tl_X9_bitsOfFloat_43 {g : Gw} {x : Xw} (C : Cw g x cX9_bitsOfFloat RX9 4 (some .int) 1) (hm : x.2.2.2.2.2.2.2.2.2.2.2 = (0, 0)) (M : Mw) (n : Nat) : ∀ (l1 : UInt32) (l2 : Int32) (l3 : Int32), Sw g x (fun v : Int32 => (some (.int v), M)) M 0 0 43 [(1, .float l1), (2, .int l2), (3, .int l3)] [] (it (fun _ _ _ => none) (B_X9_bitsOfFloat_43 M) n l1 l2 l3) := by
  induction n with
  | zero =>
    intro l1 l2 l3
    exact r_none
  | succ n ih =>
    intro l1 l2 l3
    exact t_X9_bitsOfFloat_43 C hm M _ ih l1 l2 l3
set_option maxRecDepth 100000 in
set_option maxHeartbeats 4000000 in
theorem t_X9_bitsOfFloat_41 {g : Gw} {x : Xw} (C : Cw g x cX9_bitsOfFloat RX9 4 (some .int) 1) (hm : x.2.2.2.2.2.2.2.2.2.2.2 = (0, 0)) (M : Mw) (l1 : UInt32) (l2 : Int32) : Sw g x (fun v : Int32 => (some (.int v), M)) M 0 0 41 [(1, .float l1), (2, .int l2)] [] (B_X9_bitsOfFloat_41 l1 l2 M) := by
  unfold B_X9_bitsOfFloat_41
  refine r_iconst (v := 0) C dX9_bitsOfFloat_41 (by decide) ?_
  refine r_istore_n0 (lv' := [(3, .int 0), (1, .float l1), (2, .int l2)]) C dX9_bitsOfFloat_42 rfl (by decide) rfl ?_
  refine r_lv [1, 2, 0] rfl ?_
  exact tl_X9_bitsOfFloat_43 C hm M FU l1 l2 0
set_option maxRecDepth 100000 in
set_option maxHeartbeats 4000000 in
theorem t_X9_bitsOfFloat_15 {g : Gw} {x : Xw} (C : Cw g x cX9_bitsOfFloat RX9 4 (some .int) 1) (hm : x.2.2.2.2.2.2.2.2.2.2.2 = (0, 0)) (M : Mw) (k15 : UInt32 → Int32 → Int32 → Option (Int32)) (hk15 : ∀ (l1 : UInt32) (l2 : Int32) (l3 : Int32), Sw g x (fun v : Int32 => (some (.int v), M)) M 0 0 15 [(1, .float l1), (2, .int l2), (3, .int l3)] [] (k15 l1 l2 l3)) (l1 : UInt32) (l2 : Int32) (l3 : Int32) : Sw g x (fun v : Int32 => (some (.int v), M)) M 0 0 15 [(1, .float l1), (2, .int l2), (3, .int l3)] [] (B_X9_bitsOfFloat_15 M k15 l1 l2 l3) := by
  unfold B_X9_bitsOfFloat_15
  refine r_iload_n C 2 dX9_bitsOfFloat_15 rfl rfl ?_
  refine r_sipush (v := 128) C dX9_bitsOfFloat_16 (by decide) ?_
  refine r_icmp_ge (tgt := 41) C dX9_bitsOfFloat_19 (by decide) (fun h3 => ?_) (fun h3 => ?_)
  · refine r_lv [0, 1] rfl ?_
    exact t_X9_bitsOfFloat_41 C hm M l1 l2
  · refine r_fload_n C 0 dX9_bitsOfFloat_22 rfl rfl ?_
    refine r_fconst2 C dX9_bitsOfFloat_23 ?_
    refine r_fcmp C dX9_bitsOfFloat_24 ?_
    refine r_if_lt (tgt := 41) C dX9_bitsOfFloat_25 (by decide) (fun h10 => ?_) (fun h10 => ?_)
    · refine r_lv [0, 1] rfl ?_
      exact t_X9_bitsOfFloat_41 C hm M l1 l2
    · refine r_fload_n C 0 dX9_bitsOfFloat_28 rfl rfl ?_
      refine r_fconst2 C dX9_bitsOfFloat_29 ?_
      refine r_fdiv C dX9_bitsOfFloat_30 ?_
      refine r_fstore_n (lv' := fun v11 => [(1, .float v11), (2, .int l2), (3, .int l3)]) C dX9_bitsOfFloat_31 rfl (by decide) (fun _ => rfl) (fun v11 => ?_)
      refine r_iinc (c := 1) (lv' := fun v12 => [(2, .int v12), (1, .float v11), (3, .int l3)]) C 1 dX9_bitsOfFloat_32 rfl (by decide) (by decide) (fun _ => rfl) (fun v12 => ?_)
      refine r_iinc (c := 1) (lv' := fun v13 => [(3, .int v13), (2, .int v12), (1, .float v11)]) C 2 dX9_bitsOfFloat_35 rfl (by decide) (by decide) (fun _ => rfl) (fun v13 => ?_)
      refine r_goto (tgt := 15) C dX9_bitsOfFloat_38 (by decide) ?_
      refine r_lv [2, 1, 0] rfl ?_
      exact hk15 v11 v12 v13
set_option maxRecDepth 100000 in
set_option maxHeartbeats 4000000 in
theorem tl_X9_bitsOfFloat_15 {g : Gw} {x : Xw} (C : Cw g x cX9_bitsOfFloat RX9 4 (some .int) 1) (hm : x.2.2.2.2.2.2.2.2.2.2.2 = (0, 0)) (M : Mw) (n : Nat) : ∀ (l1 : UInt32) (l2 : Int32) (l3 : Int32), Sw g x (fun v : Int32 => (some (.int v), M)) M 0 0 15 [(1, .float l1), (2, .int l2), (3, .int l3)] [] (it (fun _ _ _ => none) (B_X9_bitsOfFloat_15 M) n l1 l2 l3) := by
  induction n with
  | zero =>
    intro l1 l2 l3
    exact r_none
  | succ n ih =>
    intro l1 l2 l3
    exact t_X9_bitsOfFloat_15 C hm M _ ih l1 l2 l3
set_option maxRecDepth 100000 in
set_option maxHeartbeats 4000000 in
theorem c_X9_bitsOfFloat {g : Gw} {l : Launch} (p1 : UInt32) (M : Mw) : Kw g l yX9_bitsOfFloat cX9_bitsOfFloat 4 (some .int) 1 0 0 [.float p1] M (fun v : Int32 => (some (.int v), M)) (F_X9_bitsOfFloat p1 M) := by
  refine Kw.of (own := RX9) (lv0 := [(0, .float p1)]) (by decide +kernel) rfl (Nat.le_of_ble_eq_true rfl) rfl (fun x C hl hm => ?_)
  subst hl
  unfold F_X9_bitsOfFloat
  refine r_fload_n C 0 dX9_bitsOfFloat_0 rfl rfl ?_
  refine r_fconst0 C dX9_bitsOfFloat_1 ?_
  refine r_fcmp C dX9_bitsOfFloat_2 ?_
  refine r_if_gt (tgt := 8) C dX9_bitsOfFloat_3 (by decide) (fun h1 => ?_) (fun h1 => ?_)
  · refine r_fload_n C 0 dX9_bitsOfFloat_8 rfl rfl ?_
    refine r_fstore_n (lv' := fun v2 => [(1, .float v2), (0, .float p1)]) C dX9_bitsOfFloat_9 rfl (by decide) (fun _ => rfl) (fun v2 => ?_)
    refine r_bipush (v := 127) C dX9_bitsOfFloat_10 (by decide) ?_
    refine r_istore_n0 (lv' := [(2, .int 127), (1, .float v2), (0, .float p1)]) C dX9_bitsOfFloat_12 rfl (by decide) rfl ?_
    refine r_iconst (v := 0) C dX9_bitsOfFloat_13 (by decide) ?_
    refine r_istore_n0 (lv' := [(3, .int 0), (2, .int 127), (1, .float v2), (0, .float p1)]) C dX9_bitsOfFloat_14 rfl (by decide) rfl ?_
    refine r_lv [2, 1, 0] rfl ?_
    exact tl_X9_bitsOfFloat_15 C hm M FU v2 127 0
  · refine r_iconst (v := 0) C dX9_bitsOfFloat_6 (by decide) ?_
    exact r_iret C dX9_bitsOfFloat_7 rfl rfl (xk0 hm) (xn0 hm)
def F_X9_load (M : Mw) : Option (Int32) :=
  (if (M.1 0 1 0 3) = 0 then some (-2) else ((F_X3_loadOf 1 M).bind (fun v2 => ((F_X9_bitsOfFloat v2 M).bind (fun v4 => some v4)))))
set_option maxRecDepth 100000 in
set_option maxHeartbeats 4000000 in
theorem c_X9_load {g : Gw} {l : Launch} (M : Mw) : Kw g l yX9_load cX9_load 1 (some .int) 2 0 0 [.ref (gA g 41 0 0)] M (fun v : Int32 => (some (.int v), M)) (F_X9_load M) := by
  refine Kw.of (own := RX9) (lv0 := [(0, .ref (gA g 41 0 0))]) (by decide +kernel) rfl (Nat.le_of_ble_eq_true rfl) rfl (fun x C hl hm => ?_)
  subst hl
  unfold F_X9_load
  refine r_aload_n C 0 dX9_load_0 rfl rfl ?_
  refine gf_41_1 C dX9_load_1 u_365 in_41 ?_
  refine gf_0_3 C dX9_load_4 u_195 (in_0 (by decide)) ?_
  refine r_if_ne (tgt := 15) C dX9_load_7 (by decide) (fun h1 => ?_) (fun h1 => ?_)
  · refine r_bipush (v := (-2)) C dX9_load_10 (by decide) ?_
    refine r_goto (tgt := 25) C dX9_load_12 (by decide) ?_
    exact r_iret C dX9_load_25 rfl rfl (xk0 hm) (xn0 hm)
  · refine r_aload_n C 0 dX9_load_15 rfl rfl ?_
    refine gf_41_1 C dX9_load_16 u_365 in_41 ?_
    refine r_callSRf (rest := []) C (c_X3_loadOf (by decide) M) dX9_load_19 u_854 u_855 mi_X3_loadOf (by decide) rfl rfl (Nat.le_of_ble_eq_true rfl) (xk1 hm (by decide)) (xn1 hm (by decide)) (fun v2 h3 => ?_)
    refine r_callSRi (rest := []) C (c_X9_bitsOfFloat v2 M) dX9_load_22 u_857 u_858 mi_X9_bitsOfFloat (by decide) rfl rfl (Nat.le_of_ble_eq_true rfl) (xk1 hm (by decide)) (xn1 hm (by decide)) (fun v4 h5 => ?_)
    exact r_iret C dX9_load_25 rfl rfl (xk0 hm) (xn0 hm)
