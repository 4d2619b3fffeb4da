def B_X10_image_17 (l1 : Int32) (k17 : Int32 → Mw → Option (Int32 × Mw)) (l2 : Int32) (M : Mw) : Option (Int32 × Mw) :=
  (if 201 ≤ l2 then (if inb l1 3 then (bd (uIw M 53 0 0 l1.toNatClampNeg (vp_nar .boolean 1)) (fun M5 => some (0, M5))) else none) else (if inb l2 201 then (if inb ((201 * l1) + l2) 603 then (bd (uIw M 52 0 0 ((201 * l1) + l2).toNatClampNeg (M.1 51 0 0 l2.toNatClampNeg)) (fun M8 => (bd (l2 + 1) (fun v10 => (k17 v10 M8))))) else none) else none))
def F_X10_image (p1 : Int32) (M : Mw) : Option (Int32 × Mw) :=
  ((F_X10_in ((p1).toInt64) 0 2 M).bind (fun v1 => (if v1 = 0 then some ((-2), M) else (it (fun _ _ => none) (B_X10_image_17 p1) FU 0 M))))
set_option maxRecDepth 100000 in
set_option maxHeartbeats 4000000 in
theorem t_X10_image_17 {g : Gw} {x : Xw} (C : Cw g x cX10_image RX10 3 (some .int) 2) (hm : x.2.2.2.2.2.2.2.2.2.2.2 = (0, 0)) (l1 : Int32) (k17 : Int32 → Mw → Option (Int32 × Mw)) (hk17 : ∀ (l2 : Int32) (M : Mw), Sw g x (fun q : Int32 × Mw => (some (.int q.1), q.2)) M 0 0 17 [(0, .ref (gA g 50 0 0)), (1, .int l1), (2, .int l2)] [] (k17 l2 M)) (l2 : Int32) (M : Mw) : Sw g x (fun q : Int32 × Mw => (some (.int q.1), q.2)) M 0 0 17 [(0, .ref (gA g 50 0 0)), (1, .int l1), (2, .int l2)] [] (B_X10_image_17 l1 k17 l2 M) := by
  unfold B_X10_image_17
  refine r_iload_n C 2 dX10_image_17 rfl rfl ?_
  refine r_sipush (v := 201) C dX10_image_18 (by decide) ?_
  refine r_icmp_ge (tgt := 48) C dX10_image_21 (by decide) (fun h4 => ?_) (fun h4 => ?_)
  · refine r_aload_n C 0 dX10_image_48 rfl rfl ?_
    refine gf_50_3 C dX10_image_49 u_1108 in_50 ?_
    refine r_iload_n C 1 dX10_image_52 rfl rfl ?_
    refine r_iconst (v := 1) C dX10_image_53 (by decide) ?_
    refine r_zast C dX10_image_54 in_53 (contW_53 g _ _) (fun M5 h6 => ?_)
    refine r_iconst (v := 0) C dX10_image_55 (by decide) ?_
    exact r_iret C dX10_image_56 rfl rfl (xk0 hm) (xn0 hm)
  · refine r_aload_n C 0 dX10_image_24 rfl rfl ?_
    refine gf_50_2 C dX10_image_25 u_1107 in_50 ?_
    refine r_sipush (v := 201) C dX10_image_28 (by decide) ?_
    refine r_iload_n C 1 dX10_image_31 rfl rfl ?_
    refine r_imul C dX10_image_32 ?_
    refine r_iload_n C 2 dX10_image_33 rfl rfl ?_
    refine r_iadd C dX10_image_34 ?_
    refine r_aload_n C 0 dX10_image_35 rfl rfl ?_
    refine gf_50_1 C dX10_image_36 u_1106 in_50 ?_
    refine r_iload_n C 2 dX10_image_39 rfl rfl ?_
    refine r_iald C dX10_image_40 in_51 (contW_51 g _ _ _ _ _) (fun h7 => ?_)
    refine r_iast C dX10_image_41 in_52 (contW_52 g _ _) (fun M8 h9 => ?_)
    refine r_iinc (c := 1) (lv' := fun v10 => [(2, .int v10), (0, .ref (gA g 50 0 0)), (1, .int l1)]) C 2 dX10_image_42 rfl (by decide) (by decide) (fun _ => rfl) (fun v10 => ?_)
    refine r_goto (tgt := 17) C dX10_image_45 (by decide) ?_
    refine r_lv [1, 2, 0] rfl ?_
    exact hk17 v10 M8
set_option maxRecDepth 100000 in
set_option maxHeartbeats 4000000 in
theorem tl_X10_image_17 {g : Gw} {x : Xw} (C : Cw g x cX10_image RX10 3 (some .int) 2) (hm : x.2.2.2.2.2.2.2.2.2.2.2 = (0, 0)) (l1 : Int32) (n : Nat) : ∀ (l2 : Int32) (M : Mw), Sw g x (fun q : Int32 × Mw => (some (.int q.1), q.2)) M 0 0 17 [(0, .ref (gA g 50 0 0)), (1, .int l1), (2, .int l2)] [] (it (fun _ _ => none) (B_X10_image_17 l1) n l2 M) := by
  induction n with
  | zero =>
    intro l2 M
    exact r_none
  | succ n ih =>
    intro l2 M
    exact t_X10_image_17 C hm l1 _ ih l2 M
set_option maxRecDepth 100000 in
set_option maxHeartbeats 4000000 in
theorem c_X10_image {g : Gw} {l : Launch} (p1 : Int32) (M : Mw) : Kw g l yX10_image cX10_image 3 (some .int) 2 0 0 [.ref (gA g 50 0 0), .int p1] M (fun q : Int32 × Mw => (some (.int q.1), q.2)) (F_X10_image p1 M) := by
  refine Kw.of (own := RX10) (lv0 := [(0, .ref (gA g 50 0 0)), (1, .int p1)]) (by decide +kernel) rfl (Nat.le_of_ble_eq_true rfl) rfl (fun x C hl hm => ?_)
  subst hl
  unfold F_X10_image
  refine r_iload_n C 1 dX10_image_0 rfl rfl ?_
  refine r_i2l C dX10_image_1 ?_
  refine r_lconst (v := 0) C dX10_image_2 (by decide) ?_
  refine r_ldc2 (v := 2) C u_1173 dX10_image_3 ?_
  refine r_callSRi (rest := []) C (c_X10_in ((p1).toInt64) 0 2 M) dX10_image_6 u_1174 u_1175 mi_X10_in (by decide) rfl rfl (Nat.le_of_ble_eq_true rfl) (xk1 hm (by decide)) (xn1 hm (by decide)) (fun v1 h2 => ?_)
  refine r_if_ne (tgt := 15) C dX10_image_9 (by decide) (fun h3 => ?_) (fun h3 => ?_)
  · refine r_bipush (v := (-2)) C dX10_image_12 (by decide) ?_
    exact r_iret C dX10_image_14 rfl rfl (xk0 hm) (xn0 hm)
  · refine r_iconst (v := 0) C dX10_image_15 (by decide) ?_
    refine r_istore_n0 (lv' := [(2, .int 0), (0, .ref (gA g 50 0 0)), (1, .int p1)]) C dX10_image_16 rfl (by decide) rfl ?_
    refine r_lv [1, 2, 0] rfl ?_
    exact tl_X10_image_17 C hm p1 FU 0 M
def B_X10_back_29 (l1 : Int32) (k29 : Int32 → Mw → Option (Int32 × Mw)) (l2 : Int32) (M : Mw) : Option (Int32 × Mw) :=
  (if 201 ≤ l2 then some (0, M) else (if inb ((201 * l1) + l2) 603 then (if inb l2 201 then (bd (uIw M 51 0 0 l2.toNatClampNeg (M.1 52 0 0 ((201 * l1) + l2).toNatClampNeg)) (fun M8 => (bd (l2 + 1) (fun v10 => (k29 v10 M8))))) else none) else none))
def F_X10_back (p1 : Int32) (M : Mw) : Option (Int32 × Mw) :=
  ((F_X10_in ((p1).toInt64) 0 2 M).bind (fun v1 => (if v1 = 0 then some ((-2), M) else (if inb p1 3 then (if (M.1 53 0 0 p1.toNatClampNeg) = 0 then some ((-6), M) else (it (fun _ _ => none) (B_X10_back_29 p1) FU 0 M)) else none))))
set_option maxRecDepth 100000 in
set_option maxHeartbeats 4000000 in
theorem t_X10_back_29 {g : Gw} {x : Xw} (C : Cw g x cX10_back RX10 3 (some .int) 2) (hm : x.2.2.2.2.2.2.2.2.2.2.2 = (0, 0)) (l1 : Int32) (k29 : Int32 → Mw → Option (Int32 × Mw)) (hk29 : ∀ (l2 : Int32) (M : Mw), Sw g x (fun q : Int32 × Mw => (some (.int q.1), q.2)) M 0 0 29 [(0, .ref (gA g 50 0 0)), (1, .int l1), (2, .int l2)] [] (k29 l2 M)) (l2 : Int32) (M : Mw) : Sw g x (fun q : Int32 × Mw => (some (.int q.1), q.2)) M 0 0 29 [(0, .ref (gA g 50 0 0)), (1, .int l1), (2, .int l2)] [] (B_X10_back_29 l1 k29 l2 M) := by
  unfold B_X10_back_29
  refine r_iload_n C 2 dX10_back_29 rfl rfl ?_
  refine r_sipush (v := 201) C dX10_back_30 (by decide) ?_
  refine r_icmp_ge (tgt := 60) C dX10_back_33 (by decide) (fun h6 => ?_) (fun h6 => ?_)
  · refine r_iconst (v := 0) C dX10_back_60 (by decide) ?_
    exact r_iret C dX10_back_61 rfl rfl (xk0 hm) (xn0 hm)
  · refine r_aload_n C 0 dX10_back_36 rfl rfl ?_
    refine gf_50_1 C dX10_back_37 u_1106 in_50 ?_
    refine r_iload_n C 2 dX10_back_40 rfl rfl ?_
    refine r_aload_n C 0 dX10_back_41 rfl rfl ?_
    refine gf_50_2 C dX10_back_42 u_1107 in_50 ?_
    refine r_sipush (v := 201) C dX10_back_45 (by decide) ?_
    refine r_iload_n C 1 dX10_back_48 rfl rfl ?_
    refine r_imul C dX10_back_49 ?_
    refine r_iload_n C 2 dX10_back_50 rfl rfl ?_
    refine r_iadd C dX10_back_51 ?_
    refine r_iald C dX10_back_52 in_52 (contW_52 g _ _ _ _ _) (fun h7 => ?_)
    refine r_iast C dX10_back_53 in_51 (contW_51 g _ _) (fun M8 h9 => ?_)
    refine r_iinc (c := 1) (lv' := fun v10 => [(2, .int v10), (0, .ref (gA g 50 0 0)), (1, .int l1)]) C 2 dX10_back_54 rfl (by decide) (by decide) (fun _ => rfl) (fun v10 => ?_)
    refine r_goto (tgt := 29) C dX10_back_57 (by decide) ?_
    refine r_lv [1, 2, 0] rfl ?_
    exact hk29 v10 M8
set_option maxRecDepth 100000 in
set_option maxHeartbeats 4000000 in
theorem tl_X10_back_29 {g : Gw} {x : Xw} (C : Cw g x cX10_back RX10 3 (some .int) 2) (hm : x.2.2.2.2.2.2.2.2.2.2.2 = (0, 0)) (l1 : Int32) (n : Nat) : ∀ (l2 : Int32) (M : Mw), Sw g x (fun q : Int32 × Mw => (some (.int q.1), q.2)) M 0 0 29 [(0, .ref (gA g 50 0 0)), (1, .int l1), (2, .int l2)] [] (it (fun _ _ => none) (B_X10_back_29 l1) n l2 M) := by
  induction n with
  | zero =>
    intro l2 M
    exact r_none
  | succ n ih =>
    intro l2 M
    exact t_X10_back_29 C hm l1 _ ih l2 M
set_option maxRecDepth 100000 in
set_option maxHeartbeats 4000000 in
theorem c_X10_back {g : Gw} {l : Launch} (p1 : Int32) (M : Mw) : Kw g l yX10_back cX10_back 3 (some .int) 2 0 0 [.ref (gA g 50 0 0), .int p1] M (fun q : Int32 × Mw => (some (.int q.1), q.2)) (F_X10_back p1 M) := by
  refine Kw.of (own := RX10) (lv0 := [(0, .ref (gA g 50 0 0)), (1, .int p1)]) (by decide +kernel) rfl (Nat.le_of_ble_eq_true rfl) rfl (fun x C hl hm => ?_)
  subst hl
  unfold F_X10_back
  refine r_iload_n C 1 dX10_back_0 rfl rfl ?_
  refine r_i2l C dX10_back_1 ?_
  refine r_lconst (v := 0) C dX10_back_2 (by decide) ?_
  refine r_ldc2 (v := 2) C u_1173 dX10_back_3 ?_
  refine r_callSRi (rest := []) C (c_X10_in ((p1).toInt64) 0 2 M) dX10_back_6 u_1174 u_1175 mi_X10_in (by decide) rfl rfl (Nat.le_of_ble_eq_true rfl) (xk1 hm (by decide)) (xn1 hm (by decide)) (fun v1 h2 => ?_)
  refine r_if_ne (tgt := 15) C dX10_back_9 (by decide) (fun h3 => ?_) (fun h3 => ?_)
  · refine r_bipush (v := (-2)) C dX10_back_12 (by decide) ?_
    exact r_iret C dX10_back_14 rfl rfl (xk0 hm) (xn0 hm)
  · refine r_aload_n C 0 dX10_back_15 rfl rfl ?_
    refine gf_50_3 C dX10_back_16 u_1108 in_50 ?_
    refine r_iload_n C 1 dX10_back_19 rfl rfl ?_
    refine r_zald C dX10_back_20 in_53 (contW_53 g _ _ _ _ _) (fun h4 => ?_)
    refine r_if_ne (tgt := 27) C dX10_back_21 (by decide) (fun h5 => ?_) (fun h5 => ?_)
    · refine r_bipush (v := (-6)) C dX10_back_24 (by decide) ?_
      exact r_iret C dX10_back_26 rfl rfl (xk0 hm) (xn0 hm)
    · refine r_iconst (v := 0) C dX10_back_27 (by decide) ?_
      refine r_istore_n0 (lv' := [(2, .int 0), (0, .ref (gA g 50 0 0)), (1, .int p1)]) C dX10_back_28 rfl (by decide) rfl ?_
      refine r_lv [1, 2, 0] rfl ?_
      exact tl_X10_back_29 C hm p1 FU 0 M
def B_X10_feed_55 (k55 : Int32 → Mw → Option (Int32 × Mw)) (l6 : Int32) (M : Mw) : Option (Int32 × Mw) :=
  (if 20 ≤ l6 then (bd (uIw M 50 0 0 5 ((M.1 50 0 0 5) + 20)) (fun M8 => some ((M8.1 50 0 0 5), M8))) else (if 4 = 0 then none else (if inb (l6 / 4) 5 then (if 4 = 0 then none else (if inb ((M.1 50 0 0 5) + l6) 1000 then (bd (uIw M 54 0 0 ((M.1 50 0 0 5) + l6).toNatClampNeg (vp_nar .byte (((M.1 55 0 0 (l6 / 4).toNatClampNeg) >>> ((24 - (8 * (l6 - l6 / 4 * 4))) &&& 31)).toInt8.toInt32))) (fun M12 => (bd (l6 + 1) (fun v14 => (k55 v14 M12))))) else none)) else none)))
def F_X10_feed (p1 : Int32) (p2 : Int32) (p3 : Int32) (p4 : Int32) (p5 : Int32) (M : Mw) : Option (Int32 × Mw) :=
  (if ((M.1 50 0 0 5) + 20) ≤ 1000 then (bd (uIw M 55 0 0 0 p1) (fun M2 => (bd (uIw M2 55 0 0 1 p2) (fun M3 => (bd (uIw M3 55 0 0 2 p3) (fun M4 => (bd (uIw M4 55 0 0 3 p4) (fun M5 => (bd (uIw M5 55 0 0 4 p5) (fun M6 => (it (fun _ _ => none) (B_X10_feed_55) FU 0 M6))))))))))) else some ((-1), M))
set_option maxRecDepth 100000 in
set_option maxHeartbeats 4000000 in
theorem t_X10_feed_55 {g : Gw} {x : Xw} (C : Cw g x cX10_feed RX10 7 (some .int) 1) (hm : x.2.2.2.2.2.2.2.2.2.2.2 = (0, 0)) (k55 : Int32 → Mw → Option (Int32 × Mw)) (hk55 : ∀ (l6 : Int32) (M : Mw), Sw g x (fun q : Int32 × Mw => (some (.int q.1), q.2)) M 0 0 55 [(0, .ref (gA g 50 0 0)), (6, .int l6)] [] (k55 l6 M)) (l6 : Int32) (M : Mw) : Sw g x (fun q : Int32 × Mw => (some (.int q.1), q.2)) M 0 0 55 [(0, .ref (gA g 50 0 0)), (6, .int l6)] [] (B_X10_feed_55 k55 l6 M) := by
  unfold B_X10_feed_55
  refine r_iload C 1 dX10_feed_55 rfl ?_
  refine r_bipush (v := 20) C dX10_feed_57 (by decide) ?_
  refine r_icmp_ge (tgt := 101) C dX10_feed_59 (by decide) (fun h7 => ?_) (fun h7 => ?_)
  · refine r_aload_n C 0 dX10_feed_101 rfl rfl ?_
    refine r_dup C rfl dX10_feed_102 ?_
    refine gf_50_5 C dX10_feed_103 u_1110 in_50 ?_
    refine r_bipush (v := 20) C dX10_feed_106 (by decide) ?_
    refine r_iadd C dX10_feed_108 ?_
    refine pf_50_5 C dX10_feed_109 u_1110 in_50 (fun M8 => ?_)
    refine r_aload_n C 0 dX10_feed_112 rfl rfl ?_
    refine gf_50_5 C dX10_feed_113 u_1110 in_50 ?_
    exact r_iret C dX10_feed_116 rfl rfl (xk0 hm) (xn0 hm)
  · refine r_aload_n C 0 dX10_feed_62 rfl rfl ?_
    refine gf_50_4 C dX10_feed_63 u_1109 in_50 ?_
    refine r_aload_n C 0 dX10_feed_66 rfl rfl ?_
    refine gf_50_5 C dX10_feed_67 u_1110 in_50 ?_
    refine r_iload C 1 dX10_feed_70 rfl ?_
    refine r_iadd C dX10_feed_72 ?_
    refine r_aload_n C 0 dX10_feed_73 rfl rfl ?_
    refine gf_50_6 C dX10_feed_74 u_1111 in_50 ?_
    refine r_iload C 1 dX10_feed_77 rfl ?_
    refine r_iconst (v := 4) C dX10_feed_79 (by decide) ?_
    refine r_idiv C dX10_feed_80 (fun h9 => ?_)
    refine r_iald C dX10_feed_81 in_55 (contW_55 g _ _ _ _ _) (fun h10 => ?_)
    refine r_bipush (v := 24) C dX10_feed_82 (by decide) ?_
    refine r_bipush (v := 8) C dX10_feed_84 (by decide) ?_
    refine r_iload C 1 dX10_feed_86 rfl ?_
    refine r_iconst (v := 4) C dX10_feed_88 (by decide) ?_
    refine r_irem C dX10_feed_89 (fun h11 => ?_)
    refine r_imul C dX10_feed_90 ?_
    refine r_isub C dX10_feed_91 ?_
    refine r_ishr C dX10_feed_92 ?_
    refine r_i2b C dX10_feed_93 ?_
    refine r_bast C dX10_feed_94 in_54 (contW_54 g _ _) (fun M12 h13 => ?_)
    refine r_iinc (c := 1) (lv' := fun v14 => [(6, .int v14), (0, .ref (gA g 50 0 0))]) C 1 dX10_feed_95 rfl (by decide) (by decide) (fun _ => rfl) (fun v14 => ?_)
    refine r_goto (tgt := 55) C dX10_feed_98 (by decide) ?_
    refine r_lv [1, 0] rfl ?_
    exact hk55 v14 M12
set_option maxRecDepth 100000 in
set_option maxHeartbeats 4000000 in
theorem tl_X10_feed_55 {g : Gw} {x : Xw} (C : Cw g x cX10_feed RX10 7 (some .int) 1) (hm : x.2.2.2.2.2.2.2.2.2.2.2 = (0, 0)) (n : Nat) : ∀ (l6 : Int32) (M : Mw), Sw g x (fun q : Int32 × Mw => (some (.int q.1), q.2)) M 0 0 55 [(0, .ref (gA g 50 0 0)), (6, .int l6)] [] (it (fun _ _ => none) (B_X10_feed_55) n l6 M) := by
  induction n with
  | zero =>
    intro l6 M
    exact r_none
  | succ n ih =>
    intro l6 M
    exact t_X10_feed_55 C hm _ ih l6 M
set_option maxRecDepth 100000 in
set_option maxHeartbeats 4000000 in
theorem c_X10_feed {g : Gw} {l : Launch} (p1 : Int32) (p2 : Int32) (p3 : Int32) (p4 : Int32) (p5 : Int32) (M : Mw) : Kw g l yX10_feed cX10_feed 7 (some .int) 1 0 0 [.ref (gA g 50 0 0), .int p1, .int p2, .int p3, .int p4, .int p5] M (fun q : Int32 × Mw => (some (.int q.1), q.2)) (F_X10_feed p1 p2 p3 p4 p5 M) := by
  refine Kw.of (own := RX10) (lv0 := [(0, .ref (gA g 50 0 0)), (1, .int p1), (2, .int p2), (3, .int p3), (4, .int p4), (5, .int p5)]) (by decide +kernel) rfl (Nat.le_of_ble_eq_true rfl) rfl (fun x C hl hm => ?_)
  subst hl
  unfold F_X10_feed
  refine r_aload_n C 0 dX10_feed_0 rfl rfl ?_
  refine gf_50_5 C dX10_feed_1 u_1110 in_50 ?_
  refine r_bipush (v := 20) C dX10_feed_4 (by decide) ?_
  refine r_iadd C dX10_feed_6 ?_
  refine r_sipush (v := 1000) C dX10_feed_7 (by decide) ?_
  refine r_icmp_le (tgt := 15) C dX10_feed_10 (by decide) (fun h1 => ?_) (fun h1 => ?_)
  · refine r_aload_n C 0 dX10_feed_15 rfl rfl ?_
    refine gf_50_6 C dX10_feed_16 u_1111 in_50 ?_
    refine r_iconst (v := 0) C dX10_feed_19 (by decide) ?_
    refine r_iload_n C 1 dX10_feed_20 rfl rfl ?_
    refine r_iastc C dX10_feed_21 in_55 (contW_55 g _ _) (by decide) (j := 0) (by decide) (fun M2 => ?_)
    refine r_aload_n C 0 dX10_feed_22 rfl rfl ?_
    refine gf_50_6 C dX10_feed_23 u_1111 in_50 ?_
    refine r_iconst (v := 1) C dX10_feed_26 (by decide) ?_
    refine r_iload_n C 2 dX10_feed_27 rfl rfl ?_
    refine r_iastc C dX10_feed_28 in_55 (contW_55 g _ _) (by decide) (j := 1) (by decide) (fun M3 => ?_)
    refine r_aload_n C 0 dX10_feed_29 rfl rfl ?_
    refine gf_50_6 C dX10_feed_30 u_1111 in_50 ?_
    refine r_iconst (v := 2) C dX10_feed_33 (by decide) ?_
    refine r_iload_n C 3 dX10_feed_34 rfl rfl ?_
    refine r_iastc C dX10_feed_35 in_55 (contW_55 g _ _) (by decide) (j := 2) (by decide) (fun M4 => ?_)
    refine r_aload_n C 0 dX10_feed_36 rfl rfl ?_
    refine gf_50_6 C dX10_feed_37 u_1111 in_50 ?_
    refine r_iconst (v := 3) C dX10_feed_40 (by decide) ?_
    refine r_iload C 4 dX10_feed_41 rfl ?_
    refine r_iastc C dX10_feed_43 in_55 (contW_55 g _ _) (by decide) (j := 3) (by decide) (fun M5 => ?_)
    refine r_aload_n C 0 dX10_feed_44 rfl rfl ?_
    refine gf_50_6 C dX10_feed_45 u_1111 in_50 ?_
    refine r_iconst (v := 4) C dX10_feed_48 (by decide) ?_
    refine r_iload C 5 dX10_feed_49 rfl ?_
    refine r_iastc C dX10_feed_51 in_55 (contW_55 g _ _) (by decide) (j := 4) (by decide) (fun M6 => ?_)
    refine r_iconst (v := 0) C dX10_feed_52 (by decide) ?_
    refine r_istore0 (lv' := [(6, .int 0), (0, .ref (gA g 50 0 0)), (1, .int p1), (2, .int p2), (3, .int p3), (4, .int p4), (5, .int p5)]) C dX10_feed_53 (by decide) rfl ?_
    refine r_lv [1, 0] rfl ?_
    exact tl_X10_feed_55 C hm FU 0 M6
  · refine r_iconst (v := (-1)) C dX10_feed_13 (by decide) ?_
    exact r_iret C dX10_feed_14 rfl rfl (xk0 hm) (xn0 hm)
def F_X10_end (p1 : Int32) (M : Mw) : Option (Int32 × Mw) :=
  ((F_X10_in ((p1).toInt64) 0 (((M.1 50 0 0 5)).toInt64) M).bind (fun v1 => (if v1 = 0 then some ((-1), M) else (bd (uIw M 50 0 0 5 p1) (fun M4 => some (p1, M4))))))
set_option maxRecDepth 100000 in
set_option maxHeartbeats 4000000 in
theorem c_X10_end {g : Gw} {l : Launch} (p1 : Int32) (M : Mw) : Kw g l yX10_end cX10_end 2 (some .int) 2 0 0 [.ref (gA g 50 0 0), .int p1] M (fun q : Int32 × Mw => (some (.int q.1), q.2)) (F_X10_end p1 M) := by
  refine Kw.of (own := RX10) (lv0 := [(0, .ref (gA g 50 0 0)), (1, .int p1)]) (by decide +kernel) rfl (Nat.le_of_ble_eq_true rfl) rfl (fun x C hl hm => ?_)
  subst hl
  unfold F_X10_end
  refine r_iload_n C 1 dX10_end_0 rfl rfl ?_
  refine r_i2l C dX10_end_1 ?_
  refine r_lconst (v := 0) C dX10_end_2 (by decide) ?_
  refine r_aload_n C 0 dX10_end_3 rfl rfl ?_
  refine gf_50_5 C dX10_end_4 u_1110 in_50 ?_
  refine r_i2l C dX10_end_7 ?_
  refine r_callSRi (rest := []) C (c_X10_in ((p1).toInt64) 0 (((M.1 50 0 0 5)).toInt64) M) dX10_end_8 u_1174 u_1175 mi_X10_in (by decide) rfl rfl (Nat.le_of_ble_eq_true rfl) (xk1 hm (by decide)) (xn1 hm (by decide)) (fun v1 h2 => ?_)
  refine r_if_ne (tgt := 16) C dX10_end_11 (by decide) (fun h3 => ?_) (fun h3 => ?_)
  · refine r_iconst (v := (-1)) C dX10_end_14 (by decide) ?_
    exact r_iret C dX10_end_15 rfl rfl (xk0 hm) (xn0 hm)
  · refine r_aload_n C 0 dX10_end_16 rfl rfl ?_
    refine r_iload_n C 1 dX10_end_17 rfl rfl ?_
    refine pf_50_5 C dX10_end_18 u_1110 in_50 (fun M4 => ?_)
    refine r_iload_n C 1 dX10_end_21 rfl rfl ?_
    exact r_iret C dX10_end_22 rfl rfl (xk0 hm) (xn0 hm)
def F_X10_fault (p1 : Int32) (M : Mw) : Option (Int32) :=
  (if p1 = 0 then some (M.1 50 0 0 12) else (if p1 = 1 then some (M.1 50 0 0 13) else some (-1)))
set_option maxRecDepth 100000 in
set_option maxHeartbeats 4000000 in
theorem c_X10_fault {g : Gw} {l : Launch} (p1 : Int32) (M : Mw) : Kw g l yX10_fault cX10_fault 2 (some .int) 1 0 0 [.ref (gA g 50 0 0), .int p1] M (fun v : Int32 => (some (.int v), M)) (F_X10_fault p1 M) := by
  refine Kw.of (own := RX10) (lv0 := [(0, .ref (gA g 50 0 0)), (1, .int p1)]) (by decide +kernel) rfl (Nat.le_of_ble_eq_true rfl) rfl (fun x C hl hm => ?_)
  subst hl
  unfold F_X10_fault
  refine r_iload_n C 1 dX10_fault_0 rfl rfl ?_
  refine r_if_ne (tgt := 11) C dX10_fault_1 (by decide) (fun h1 => ?_) (fun h1 => ?_)
  · refine r_aload_n C 0 dX10_fault_4 rfl rfl ?_
    refine gf_50_12 C dX10_fault_5 u_1117 in_50 ?_
    refine r_goto (tgt := 24) C dX10_fault_8 (by decide) ?_
    exact r_iret C dX10_fault_24 rfl rfl (xk0 hm) (xn0 hm)
  · refine r_iload_n C 1 dX10_fault_11 rfl rfl ?_
    refine r_iconst (v := 1) C dX10_fault_12 (by decide) ?_
    refine r_icmp_ne (tgt := 23) C dX10_fault_13 (by decide) (fun h2 => ?_) (fun h2 => ?_)
    · refine r_aload_n C 0 dX10_fault_16 rfl rfl ?_
      refine gf_50_13 C dX10_fault_17 u_1118 in_50 ?_
      refine r_goto (tgt := 24) C dX10_fault_20 (by decide) ?_
      exact r_iret C dX10_fault_24 rfl rfl (xk0 hm) (xn0 hm)
    · refine r_iconst (v := (-1)) C dX10_fault_23 (by decide) ?_
      exact r_iret C dX10_fault_24 rfl rfl (xk0 hm) (xn0 hm)
def F_X10_see (p1 : Int32) (M : Mw) : Option (Int32) :=
  (if (M.1 50 0 0 7) ≤ p1 then some (-1) else (if inb p1 1000 then some ((M.1 54 0 0 p1.toNatClampNeg) &&& 255) else none))
set_option maxRecDepth 100000 in
set_option maxHeartbeats 4000000 in
theorem c_X10_see {g : Gw} {l : Launch} (p1 : Int32) (M : Mw) : Kw g l yX10_see cX10_see 2 (some .int) 1 0 0 [.ref (gA g 50 0 0), .int p1] M (fun v : Int32 => (some (.int v), M)) (F_X10_see p1 M) := by
  refine Kw.of (own := RX10) (lv0 := [(0, .ref (gA g 50 0 0)), (1, .int p1)]) (by decide +kernel) rfl (Nat.le_of_ble_eq_true rfl) rfl (fun x C hl hm => ?_)
  subst hl
  unfold F_X10_see
  refine r_iload_n C 1 dX10_see_0 rfl rfl ?_
  refine r_aload_n C 0 dX10_see_1 rfl rfl ?_
  refine gf_50_7 C dX10_see_2 u_1112 in_50 ?_
  refine r_icmp_ge (tgt := 21) C dX10_see_5 (by decide) (fun h1 => ?_) (fun h1 => ?_)
  · refine r_iconst (v := (-1)) C dX10_see_21 (by decide) ?_
    exact r_iret C dX10_see_22 rfl rfl (xk0 hm) (xn0 hm)
  · refine r_aload_n C 0 dX10_see_8 rfl rfl ?_
    refine gf_50_4 C dX10_see_9 u_1109 in_50 ?_
    refine r_iload_n C 1 dX10_see_12 rfl rfl ?_
    refine r_bald C dX10_see_13 in_54 (contW_54 g _ _ _ _ _) (fun h2 => ?_)
    refine r_sipush (v := 255) C dX10_see_14 (by decide) ?_
    refine r_iand C dX10_see_17 ?_
    refine r_goto (tgt := 22) C dX10_see_18 (by decide) ?_
    exact r_iret C dX10_see_22 rfl rfl (xk0 hm) (xn0 hm)
def B_X10_advance_226 (s0 : Int32) (M : Mw) : Option (Mw) :=
  (bd (uIw M 50 0 0 10 s0) (fun M19 => (bd (uIw M19 50 0 0 8 ((M19.1 50 0 0 8) + 1)) (fun M20 => some M20))))
def B_X10_advance_144 (k144 : Mw → Option (Mw)) (M : Mw) : Option (Mw) :=
  ((F_X10_see (M.1 50 0 0 8) M).bind (fun v22 => ((F_X10_in ((v22).toInt64) 48 57 M).bind (fun v24 => (if v24 = 0 then (bd (uIw M 50 0 0 10 2) (fun M27 => some M27)) else ((F_X10_see (M.1 50 0 0 8) M).bind (fun v28 => (bd (uIw M 50 0 0 11 (if (((10 * (M.1 50 0 0 11)) + v28) - 48) < 99999 then (((10 * (M.1 50 0 0 11)) + v28) - 48) else 99999)) (fun M30 => (bd (uIw M30 50 0 0 8 ((M30.1 50 0 0 8) + 1)) (fun M31 => (k144 M31))))))))))))
def B_X10_advance_83 (k83 : Mw → Option (Mw)) (M : Mw) : Option (Mw) :=
  ((F_X10_see (M.1 50 0 0 8) M).bind (fun v32 => ((F_X10_in ((v32).toInt64) 97 122 M).bind (fun v34 => (if v34 = 0 then (bd (uIw M 50 0 0 10 1) (fun M37 => some M37)) else (bd (uIw M 50 0 0 8 ((M.1 50 0 0 8) + 1)) (fun M38 => (k83 M38))))))))
def B_X10_advance_0 (k0 : Mw → Option (Mw)) (M : Mw) : Option (Mw) :=
  ((F_X10_see (M.1 50 0 0 8) M).bind (fun v1 => (if v1 = 32 then (bd (uIw M 50 0 0 8 ((M.1 50 0 0 8) + 1)) (fun M4 => (k0 M4))) else ((F_X10_see (M.1 50 0 0 8) M).bind (fun v5 => (if v5 = 10 then (bd (uIw M 50 0 0 8 ((M.1 50 0 0 8) + 1)) (fun M40 => (k0 M40))) else (bd (uIw M 50 0 0 9 (M.1 50 0 0 8)) (fun M8 => ((F_X10_see (M8.1 50 0 0 8) M8).bind (fun v9 => (if v9 = (-1) then (bd (uIw M8 50 0 0 10 0) (fun M39 => some M39)) else ((F_X10_in ((v9).toInt64) 97 122 M8).bind (fun v12 => (if v12 = 0 then ((F_X10_in ((v9).toInt64) 48 57 M8).bind (fun v15 => (if v15 = 0 then (if v9 = 59 then (B_X10_advance_226 3 M8) else (B_X10_advance_226 4 M8)) else (bd (uIw M8 50 0 0 11 0) (fun M21 => (it (fun _ => none) (B_X10_advance_144) FU M21)))))) else (it (fun _ => none) (B_X10_advance_83) FU M8)))))))))))))))
def F_X10_advance (M : Mw) : Option (Mw) :=
  (it (fun _ => none) (B_X10_advance_0) FU M)
set_option maxRecDepth 100000 in
set_option maxHeartbeats 4000000 in
theorem t_X10_advance_226 {g : Gw} {x : Xw} (C : Cw g x cX10_advance RX10 2 none 2) (hm : x.2.2.2.2.2.2.2.2.2.2.2 = (0, 0)) (s0 : Int32) (M : Mw) : Sw g x (fun M : Mw => (none, M)) M 0 0 226 [(0, .ref (gA g 50 0 0))] [.int s0, .ref (gA g 50 0 0)] (B_X10_advance_226 s0 M) := by
  unfold B_X10_advance_226
  refine pf_50_10 C dX10_advance_226 u_1115 in_50 (fun M19 => ?_)
  refine r_aload_n C 0 dX10_advance_229 rfl rfl ?_
  refine r_dup C rfl dX10_advance_230 ?_
  refine gf_50_8 C dX10_advance_231 u_1113 in_50 ?_
  refine r_iconst (v := 1) C dX10_advance_234 (by decide) ?_
  refine r_iadd C dX10_advance_235 ?_
  refine pf_50_8 C dX10_advance_236 u_1113 in_50 (fun M20 => ?_)
  exact r_vret C dX10_advance_239 rfl rfl (xk0 hm) (xn0 hm)
set_option maxRecDepth 100000 in
set_option maxHeartbeats 4000000 in
theorem t_X10_advance_144 {g : Gw} {x : Xw} (C : Cw g x cX10_advance RX10 2 none 2) (hm : x.2.2.2.2.2.2.2.2.2.2.2 = (0, 0)) (k144 : Mw → Option (Mw)) (hk144 : ∀ (M : Mw), Sw g x (fun M : Mw => (none, M)) M 0 0 144 [(0, .ref (gA g 50 0 0))] [] (k144 M)) (M : Mw) : Sw g x (fun M : Mw => (none, M)) M 0 0 144 [(0, .ref (gA g 50 0 0))] [] (B_X10_advance_144 k144 M) := by
  unfold B_X10_advance_144
  refine r_aload_n C 0 dX10_advance_144 rfl rfl ?_
  refine r_aload_n C 0 dX10_advance_145 rfl rfl ?_
  refine gf_50_8 C dX10_advance_146 u_1113 in_50 ?_
  refine r_callVRi (rest := []) C (c_X10_see (M.1 50 0 0 8) M) dX10_advance_149 u_1200 in_50 (contW_50 g _ _ _ _ _) rfl u_1201 u_49 mi_X10_see (by decide) rfl rfl (Nat.le_of_ble_eq_true rfl) (xk1 hm (by decide)) (xn1 hm (by decide)) (fun v22 h23 => ?_)
  refine r_i2l C dX10_advance_152 ?_
  refine r_ldc2 (v := 48) C u_1205 dX10_advance_153 ?_
  refine r_ldc2 (v := 57) C u_1206 dX10_advance_156 ?_
  refine r_callSRi (rest := []) C (c_X10_in ((v22).toInt64) 48 57 M) dX10_advance_159 u_1174 u_1175 mi_X10_in (by decide) rfl rfl (Nat.le_of_ble_eq_true rfl) (xk1 hm (by decide)) (xn1 hm (by decide)) (fun v24 h25 => ?_)
  refine r_if_eq (tgt := 206) C dX10_advance_162 (by decide) (fun h26 => ?_) (fun h26 => ?_)
  · refine r_aload_n C 0 dX10_advance_206 rfl rfl ?_
    refine r_iconst (v := 2) C dX10_advance_207 (by decide) ?_
    refine pf_50_10 C dX10_advance_208 u_1115 in_50 (fun M27 => ?_)
    refine r_goto (tgt := 239) C dX10_advance_211 (by decide) ?_
    exact r_vret C dX10_advance_239 rfl rfl (xk0 hm) (xn0 hm)
  · refine r_aload_n C 0 dX10_advance_165 rfl rfl ?_
    refine r_ldc (v := 99999) C u_1207 dX10_advance_166 ?_
    refine r_bipush (v := 10) C dX10_advance_168 (by decide) ?_
    refine r_aload_n C 0 dX10_advance_170 rfl rfl ?_
    refine gf_50_11 C dX10_advance_171 u_1116 in_50 ?_
    refine r_imul C dX10_advance_174 ?_
    refine r_aload_n C 0 dX10_advance_175 rfl rfl ?_
    refine r_aload_n C 0 dX10_advance_176 rfl rfl ?_
    refine gf_50_8 C dX10_advance_177 u_1113 in_50 ?_
    refine r_callVRi (rest := [.int (10 * (M.1 50 0 0 11)), .int 99999, .ref (gA g 50 0 0)]) C (c_X10_see (M.1 50 0 0 8) M) dX10_advance_180 u_1200 in_50 (contW_50 g _ _ _ _ _) rfl u_1201 u_49 mi_X10_see (by decide) rfl rfl (Nat.le_of_ble_eq_true rfl) (xk1 hm (by decide)) (xn1 hm (by decide)) (fun v28 h29 => ?_)
    refine r_iadd C dX10_advance_183 ?_
    refine r_bipush (v := 48) C dX10_advance_184 (by decide) ?_
    refine r_isub C dX10_advance_186 ?_
    refine r_mmin C u_1208 u_539 u_140 u_540 dX10_advance_187 (by decide) (Nat.le_of_ble_eq_true rfl) (xk1 hm (by decide)) (xn1 hm (by decide)) ?_
    refine pf_50_11 C dX10_advance_190 u_1116 in_50 (fun M30 => ?_)
    refine r_aload_n C 0 dX10_advance_193 rfl rfl ?_
    refine r_dup C rfl dX10_advance_194 ?_
    refine gf_50_8 C dX10_advance_195 u_1113 in_50 ?_
    refine r_iconst (v := 1) C dX10_advance_198 (by decide) ?_
    refine r_iadd C dX10_advance_199 ?_
    refine pf_50_8 C dX10_advance_200 u_1113 in_50 (fun M31 => ?_)
    refine r_goto (tgt := 144) C dX10_advance_203 (by decide) ?_
    exact hk144 M31
set_option maxRecDepth 100000 in
set_option maxHeartbeats 4000000 in
theorem tl_X10_advance_144 {g : Gw} {x : Xw} (C : Cw g x cX10_advance RX10 2 none 2) (hm : x.2.2.2.2.2.2.2.2.2.2.2 = (0, 0)) (n : Nat) : ∀ (M : Mw), Sw g x (fun M : Mw => (none, M)) M 0 0 144 [(0, .ref (gA g 50 0 0))] [] (it (fun _ => none) (B_X10_advance_144) n M) := by
  induction n with
  | zero =>
    intro M
    exact r_none
  | succ n ih =>
    intro M
    exact t_X10_advance_144 C hm _ ih M
set_option maxRecDepth 100000 in
set_option maxHeartbeats 4000000 in
theorem t_X10_advance_83 {g : Gw} {x : Xw} (C : Cw g x cX10_advance RX10 2 none 2) (hm : x.2.2.2.2.2.2.2.2.2.2.2 = (0, 0)) (k83 : Mw → Option (Mw)) (hk83 : ∀ (M : Mw), Sw g x (fun M : Mw => (none, M)) M 0 0 83 [(0, .ref (gA g 50 0 0))] [] (k83 M)) (M : Mw) : Sw g x (fun M : Mw => (none, M)) M 0 0 83 [(0, .ref (gA g 50 0 0))] [] (B_X10_advance_83 k83 M) := by
  unfold B_X10_advance_83
  refine r_aload_n C 0 dX10_advance_83 rfl rfl ?_
  refine r_aload_n C 0 dX10_advance_84 rfl rfl ?_
  refine gf_50_8 C dX10_advance_85 u_1113 in_50 ?_
  refine r_callVRi (rest := []) C (c_X10_see (M.1 50 0 0 8) M) dX10_advance_88 u_1200 in_50 (contW_50 g _ _ _ _ _) rfl u_1201 u_49 mi_X10_see (by decide) rfl rfl (Nat.le_of_ble_eq_true rfl) (xk1 hm (by decide)) (xn1 hm (by decide)) (fun v32 h33 => ?_)
  refine r_i2l C dX10_advance_91 ?_
  refine r_ldc2 (v := 97) C u_1203 dX10_advance_92 ?_
  refine r_ldc2 (v := 122) C u_1204 dX10_advance_95 ?_
  refine r_callSRi (rest := []) C (c_X10_in ((v32).toInt64) 97 122 M) dX10_advance_98 u_1174 u_1175 mi_X10_in (by decide) rfl rfl (Nat.le_of_ble_eq_true rfl) (xk1 hm (by decide)) (xn1 hm (by decide)) (fun v34 h35 => ?_)
  refine r_if_eq (tgt := 117) C dX10_advance_101 (by decide) (fun h36 => ?_) (fun h36 => ?_)
  · refine r_aload_n C 0 dX10_advance_117 rfl rfl ?_
    refine r_iconst (v := 1) C dX10_advance_118 (by decide) ?_
    refine pf_50_10 C dX10_advance_119 u_1115 in_50 (fun M37 => ?_)
    refine r_goto (tgt := 239) C dX10_advance_122 (by decide) ?_
    exact r_vret C dX10_advance_239 rfl rfl (xk0 hm) (xn0 hm)
  · refine r_aload_n C 0 dX10_advance_104 rfl rfl ?_
    refine r_dup C rfl dX10_advance_105 ?_
    refine gf_50_8 C dX10_advance_106 u_1113 in_50 ?_
    refine r_iconst (v := 1) C dX10_advance_109 (by decide) ?_
    refine r_iadd C dX10_advance_110 ?_
    refine pf_50_8 C dX10_advance_111 u_1113 in_50 (fun M38 => ?_)
    refine r_goto (tgt := 83) C dX10_advance_114 (by decide) ?_
    exact hk83 M38
set_option maxRecDepth 100000 in
set_option maxHeartbeats 4000000 in
theorem tl_X10_advance_83 {g : Gw} {x : Xw} (C : Cw g x cX10_advance RX10 2 none 2) (hm : x.2.2.2.2.2.2.2.2.2.2.2 = (0, 0)) (n : Nat) : ∀ (M : Mw), Sw g x (fun M : Mw => (none, M)) M 0 0 83 [(0, .ref (gA g 50 0 0))] [] (it (fun _ => none) (B_X10_advance_83) n M) := by
  induction n with
  | zero =>
    intro M
    exact r_none
  | succ n ih =>
    intro M
    exact t_X10_advance_83 C hm _ ih M
set_option maxRecDepth 100000 in
set_option maxHeartbeats 4000000 in
theorem t_X10_advance_0 {g : Gw} {x : Xw} (C : Cw g x cX10_advance RX10 2 none 2) (hm : x.2.2.2.2.2.2.2.2.2.2.2 = (0, 0)) (k0 : Mw → Option (Mw)) (hk0 : ∀ (M : Mw), Sw g x (fun M : Mw => (none, M)) M 0 0 0 [(0, .ref (gA g 50 0 0))] [] (k0 M)) (M : Mw) : Sw g x (fun M : Mw => (none, M)) M 0 0 0 [(0, .ref (gA g 50 0 0))] [] (B_X10_advance_0 k0 M) := by
  unfold B_X10_advance_0
  refine r_aload_n C 0 dX10_advance_0 rfl rfl ?_
  refine r_aload_n C 0 dX10_advance_1 rfl rfl ?_
  refine gf_50_8 C dX10_advance_2 u_1113 in_50 ?_
  refine r_callVRi (rest := []) C (c_X10_see (M.1 50 0 0 8) M) dX10_advance_5 u_1200 in_50 (contW_50 g _ _ _ _ _) rfl u_1201 u_49 mi_X10_see (by decide) rfl rfl (Nat.le_of_ble_eq_true rfl) (xk1 hm (by decide)) (xn1 hm (by decide)) (fun v1 h2 => ?_)
  refine r_bipush (v := 32) C dX10_advance_8 (by decide) ?_
  refine r_icmp_eq (tgt := 26) C dX10_advance_10 (by decide) (fun h3 => ?_) (fun h3 => ?_)
  · refine r_aload_n C 0 dX10_advance_26 rfl rfl ?_
    refine r_dup C rfl dX10_advance_27 ?_
    refine gf_50_8 C dX10_advance_28 u_1113 in_50 ?_
    refine r_iconst (v := 1) C dX10_advance_31 (by decide) ?_
    refine r_iadd C dX10_advance_32 ?_
    refine pf_50_8 C dX10_advance_33 u_1113 in_50 (fun M4 => ?_)
    refine r_goto (tgt := 0) C dX10_advance_36 (by decide) ?_
    exact hk0 M4
  · refine r_aload_n C 0 dX10_advance_13 rfl rfl ?_
    refine r_aload_n C 0 dX10_advance_14 rfl rfl ?_
    refine gf_50_8 C dX10_advance_15 u_1113 in_50 ?_
    refine r_callVRi (rest := []) C (c_X10_see (M.1 50 0 0 8) M) dX10_advance_18 u_1200 in_50 (contW_50 g _ _ _ _ _) rfl u_1201 u_49 mi_X10_see (by decide) rfl rfl (Nat.le_of_ble_eq_true rfl) (xk1 hm (by decide)) (xn1 hm (by decide)) (fun v5 h6 => ?_)
    refine r_bipush (v := 10) C dX10_advance_21 (by decide) ?_
    refine r_icmp_ne (tgt := 39) C dX10_advance_23 (by decide) (fun h7 => ?_) (fun h7 => ?_)
    · refine r_aload_n C 0 dX10_advance_26 rfl rfl ?_
      refine r_dup C rfl dX10_advance_27 ?_
      refine gf_50_8 C dX10_advance_28 u_1113 in_50 ?_
      refine r_iconst (v := 1) C dX10_advance_31 (by decide) ?_
      refine r_iadd C dX10_advance_32 ?_
      refine pf_50_8 C dX10_advance_33 u_1113 in_50 (fun M40 => ?_)
      refine r_goto (tgt := 0) C dX10_advance_36 (by decide) ?_
      exact hk0 M40
    · refine r_aload_n C 0 dX10_advance_39 rfl rfl ?_
      refine r_aload_n C 0 dX10_advance_40 rfl rfl ?_
      refine gf_50_8 C dX10_advance_41 u_1113 in_50 ?_
      refine pf_50_9 C dX10_advance_44 u_1114 in_50 (fun M8 => ?_)
      refine r_aload_n C 0 dX10_advance_47 rfl rfl ?_
      refine r_aload_n C 0 dX10_advance_48 rfl rfl ?_
      refine gf_50_8 C dX10_advance_49 u_1113 in_50 ?_
      refine r_callVRi (rest := []) C (c_X10_see (M8.1 50 0 0 8) M8) dX10_advance_52 u_1200 in_50 (contW_50 g _ _ _ _ _) rfl u_1201 u_49 mi_X10_see (by decide) rfl rfl (Nat.le_of_ble_eq_true rfl) (xk1 hm (by decide)) (xn1 hm (by decide)) (fun v9 h10 => ?_)
      refine r_istore_n0 (lv' := [(1, .int v9), (0, .ref (gA g 50 0 0))]) C dX10_advance_55 rfl (by decide) rfl ?_
      refine r_iload_n C 0 dX10_advance_56 rfl rfl ?_
      refine r_iconst (v := (-1)) C dX10_advance_57 (by decide) ?_
      refine r_icmp_ne (tgt := 69) C dX10_advance_58 (by decide) (fun h11 => ?_) (fun h11 => ?_)
      · refine r_aload_n C 1 dX10_advance_61 rfl rfl ?_
        refine r_iconst (v := 0) C dX10_advance_62 (by decide) ?_
        refine pf_50_10 C dX10_advance_63 u_1115 in_50 (fun M39 => ?_)
        refine r_goto (tgt := 239) C dX10_advance_66 (by decide) ?_
        exact r_vret C dX10_advance_239 rfl rfl (xk0 hm) (xn0 hm)
      · refine r_iload_n C 0 dX10_advance_69 rfl rfl ?_
        refine r_i2l C dX10_advance_70 ?_
        refine r_ldc2 (v := 97) C u_1203 dX10_advance_71 ?_
        refine r_ldc2 (v := 122) C u_1204 dX10_advance_74 ?_
        refine r_callSRi (rest := []) C (c_X10_in ((v9).toInt64) 97 122 M8) dX10_advance_77 u_1174 u_1175 mi_X10_in (by decide) rfl rfl (Nat.le_of_ble_eq_true rfl) (xk1 hm (by decide)) (xn1 hm (by decide)) (fun v12 h13 => ?_)
        refine r_if_eq (tgt := 125) C dX10_advance_80 (by decide) (fun h14 => ?_) (fun h14 => ?_)
        · refine r_iload_n C 0 dX10_advance_125 rfl rfl ?_
          refine r_i2l C dX10_advance_126 ?_
          refine r_ldc2 (v := 48) C u_1205 dX10_advance_127 ?_
          refine r_ldc2 (v := 57) C u_1206 dX10_advance_130 ?_
          refine r_callSRi (rest := []) C (c_X10_in ((v9).toInt64) 48 57 M8) dX10_advance_133 u_1174 u_1175 mi_X10_in (by decide) rfl rfl (Nat.le_of_ble_eq_true rfl) (xk1 hm (by decide)) (xn1 hm (by decide)) (fun v15 h16 => ?_)
          refine r_if_eq (tgt := 214) C dX10_advance_136 (by decide) (fun h17 => ?_) (fun h17 => ?_)
          · refine r_aload_n C 1 dX10_advance_214 rfl rfl ?_
            refine r_iload_n C 0 dX10_advance_215 rfl rfl ?_
            refine r_bipush (v := 59) C dX10_advance_216 (by decide) ?_
            refine r_icmp_ne (tgt := 225) C dX10_advance_218 (by decide) (fun h18 => ?_) (fun h18 => ?_)
            · refine r_iconst (v := 3) C dX10_advance_221 (by decide) ?_
              refine r_goto (tgt := 226) C dX10_advance_222 (by decide) ?_
              refine r_lv [1] rfl ?_
              exact t_X10_advance_226 C hm 3 M8
            · refine r_iconst (v := 4) C dX10_advance_225 (by decide) ?_
              refine r_lv [1] rfl ?_
              exact t_X10_advance_226 C hm 4 M8
          · refine r_aload_n C 1 dX10_advance_139 rfl rfl ?_
            refine r_iconst (v := 0) C dX10_advance_140 (by decide) ?_
            refine pf_50_11 C dX10_advance_141 u_1116 in_50 (fun M21 => ?_)
            refine r_lv [1] rfl ?_
            exact tl_X10_advance_144 C hm FU M21
        · refine r_lv [1] rfl ?_
          exact tl_X10_advance_83 C hm FU M8
set_option maxRecDepth 100000 in
set_option maxHeartbeats 4000000 in
theorem tl_X10_advance_0 {g : Gw} {x : Xw} (C : Cw g x cX10_advance RX10 2 none 2) (hm : x.2.2.2.2.2.2.2.2.2.2.2 = (0, 0)) (n : Nat) : ∀ (M : Mw), Sw g x (fun M : Mw => (none, M)) M 0 0 0 [(0, .ref (gA g 50 0 0))] [] (it (fun _ => none) (B_X10_advance_0) n M) := by
  induction n with
  | zero =>
    intro M
    exact r_none
  | succ n ih =>
    intro M
    exact t_X10_advance_0 C hm _ ih M
set_option maxRecDepth 100000 in
set_option maxHeartbeats 4000000 in
theorem c_X10_advance {g : Gw} {l : Launch} (M : Mw) : Kw g l yX10_advance cX10_advance 2 none 2 0 0 [.ref (gA g 50 0 0)] M (fun M : Mw => (none, M)) (F_X10_advance M) := by
  refine Kw.of (own := RX10) (lv0 := [(0, .ref (gA g 50 0 0))]) (by decide +kernel) rfl (Nat.le_of_ble_eq_true rfl) rfl (fun x C hl hm => ?_)
  subst hl
  unfold F_X10_advance
  exact tl_X10_advance_0 C hm FU M
def F_X10_good (M : Mw) : Option (Int32) :=
  (if (M.1 50 0 0 12) = 0 then some 1 else some 0)
set_option maxRecDepth 100000 in
set_option maxHeartbeats 4000000 in
theorem c_X10_good {g : Gw} {l : Launch} (M : Mw) : Kw g l yX10_good cX10_good 1 (some .boolean) 1 0 0 [.ref (gA g 50 0 0)] M (fun v : Int32 => (some (.int v), M)) (F_X10_good M) := by
  refine Kw.of (own := RX10) (lv0 := [(0, .ref (gA g 50 0 0))]) (by decide +kernel) rfl (Nat.le_of_ble_eq_true rfl) rfl (fun x C hl hm => ?_)
  subst hl
  unfold F_X10_good
  refine r_aload_n C 0 dX10_good_0 rfl rfl ?_
  refine gf_50_12 C dX10_good_1 u_1117 in_50 ?_
  refine r_if_ne (tgt := 11) C dX10_good_4 (by decide) (fun h1 => ?_) (fun h1 => ?_)
  · refine r_iconst (v := 1) C dX10_good_7 (by decide) ?_
    refine r_goto (tgt := 12) C dX10_good_8 (by decide) ?_
    exact r_zretc C dX10_good_12 rfl bz1 rfl (xk0 hm) (xn0 hm)
  · refine r_iconst (v := 0) C dX10_good_11 (by decide) ?_
    exact r_zretc C dX10_good_12 rfl bz0 rfl (xk0 hm) (xn0 hm)
def F_X10_wordOf (p1 : Int32) (M : Mw) : Option (Nat) :=
  (if p1 = 0 then some 4 else (if p1 = 1 then some 16 else (if p1 = 2 then some 13 else (if p1 = 3 then some 15 else (if p1 = 4 then some 23 else some 14)))))
theorem wordOf_in {p1 : Int32} {M : Mw} {j : Nat} (h : F_X10_wordOf p1 M = some j) : j < nStW := by
  unfold F_X10_wordOf at h
  repeat' split at h
  all_goals (cases h; decide)
set_option maxRecDepth 100000 in
set_option maxHeartbeats 4000000 in
theorem c_X10_wordOf {g : Gw} {l : Launch} (p1 : Int32) (M : Mw) : Kw g l yX10_wordOf cX10_wordOf 1 (some (.object "java/lang/String")) 1 0 0 [.int p1] M (fun j : Nat => (some (.ref (gK g j)), M)) (F_X10_wordOf p1 M) := by
  refine Kw.of (own := RX10) (lv0 := [(0, .int p1)]) (by decide +kernel) rfl (Nat.le_of_ble_eq_true rfl) rfl (fun x C hl hm => ?_)
  subst hl
  unfold F_X10_wordOf
  refine r_iload_n C 0 dX10_wordOf_0 rfl rfl ?_
  refine r_ite (fun h1 => ?_) (fun h1 => ?_)
  · refine r_tsIn (v := 0) (tgt := 36) C dX10_wordOf_1 h1 (by decide) (by decide) rfl (by decide) ?_
    refine r_ldcSw (i := 4) (tx := "hang") C (by decide) dX10_wordOf_36 ?_
    exact r_aret (rt := .object "java/lang/String") C (Or.inl ⟨_, rfl⟩) dX10_wordOf_39 rfl rfl (xk0 hm) (xn0 hm)
  refine r_ite (fun h2 => ?_) (fun h2 => ?_)
  · refine r_tsIn (v := 1) (tgt := 40) C dX10_wordOf_1 h2 (by decide) (by decide) rfl (by decide) ?_
    refine r_ldcSw (i := 16) (tx := "stop") C (by decide) dX10_wordOf_40 ?_
    exact r_aret (rt := .object "java/lang/String") C (Or.inl ⟨_, rfl⟩) dX10_wordOf_43 rfl rfl (xk0 hm) (xn0 hm)
  refine r_ite (fun h3 => ?_) (fun h3 => ?_)
  · refine r_tsIn (v := 2) (tgt := 44) C dX10_wordOf_1 h3 (by decide) (by decide) rfl (by decide) ?_
    refine r_ldcSw (i := 13) (tx := "skip") C (by decide) dX10_wordOf_44 ?_
    exact r_aret (rt := .object "java/lang/String") C (Or.inl ⟨_, rfl⟩) dX10_wordOf_47 rfl rfl (xk0 hm) (xn0 hm)
  refine r_ite (fun h4 => ?_) (fun h4 => ?_)
  · refine r_tsIn (v := 3) (tgt := 48) C dX10_wordOf_1 h4 (by decide) (by decide) rfl (by decide) ?_
    refine r_ldcSw (i := 15) (tx := "slow") C (by decide) dX10_wordOf_48 ?_
    exact r_aret (rt := .object "java/lang/String") C (Or.inl ⟨_, rfl⟩) dX10_wordOf_51 rfl rfl (xk0 hm) (xn0 hm)
  refine r_ite (fun h5 => ?_) (fun h5 => ?_)
  · refine r_tsIn (v := 4) (tgt := 52) C dX10_wordOf_1 h5 (by decide) (by decide) rfl (by decide) ?_
    refine r_ldcSw (i := 23) (tx := "wrong") C (by decide) dX10_wordOf_52 ?_
    exact r_aret (rt := .object "java/lang/String") C (Or.inl ⟨_, rfl⟩) dX10_wordOf_55 rfl rfl (xk0 hm) (xn0 hm)
  refine r_tsOut (tgt := 56) C dX10_wordOf_1 (ts_out (fun z hz1 hz2 => ?_)) (by decide) ?_
  · have hz : z = 0 ∨ z = 1 ∨ z = 2 ∨ z = 3 ∨ z = 4 := by omega
    rcases hz with rfl | rfl | rfl | rfl | rfl
    · exact h1
    · exact h2
    · exact h3
    · exact h4
    · exact h5
  refine r_ldcSw (i := 14) (tx := "sleep") C (by decide) dX10_wordOf_56 ?_
  exact r_aret (rt := .object "java/lang/String") C (Or.inl ⟨_, rfl⟩) dX10_wordOf_59 rfl rfl (xk0 hm) (xn0 hm)
def B_X10_is_39 (t1 : Nat) (M : Mw) (k39 : Int32 → Int32 → Option (Int32)) (l2 : Int32) (l3 : Int32) : Option (Int32) :=
  ((F_J0_length_8abf5 t1 M).bind (fun v4 => (if v4 ≤ l3 then (if bz l2 then some l2 else none) else (if l2 = 0 then (if bz l2 then some l2 else none) else (if inb ((M.1 50 0 0 9) + l3) 1000 then ((F_J0_charAt_5068e t1 l3 M).bind (fun v9 => (if (M.1 54 0 0 ((M.1 50 0 0 9) + l3).toNatClampNeg) = v9 then (bd (l3 + 1) (fun v13 => (k39 1 v13))) else (bd (l3 + 1) (fun v12 => (k39 0 v12)))))) else none)))))
def B_X10_is_36 (t1 : Nat) (s0 : Int32) (M : Mw) : Option (Int32) :=
  (it (fun _ _ => none) (B_X10_is_39 t1 M) FU s0 0)
def B_X10_is_35 (t1 : Nat) (M : Mw) : Option (Int32) :=
  (B_X10_is_36 t1 0 M)
def F_X10_is (t1 : Nat) (M : Mw) : Option (Int32) :=
  ((F_X10_good M).bind (fun v1 => (if v1 = 0 then (B_X10_is_35 t1 M) else (if (M.1 50 0 0 10) = 1 then ((F_J0_length_8abf5 t1 M).bind (fun v15 => (if ((M.1 50 0 0 8) - (M.1 50 0 0 9)) = v15 then (B_X10_is_36 t1 1 M) else (B_X10_is_35 t1 M)))) else (B_X10_is_35 t1 M)))))
set_option maxRecDepth 100000 in
set_option maxHeartbeats 4000000 in
theorem t_X10_is_39 {g : Gw} {x : Xw} (C : Cw g x cX10_is RX10 4 (some .boolean) 7) (hm : x.2.2.2.2.2.2.2.2.2.2.2 = (0, 0)) {t1 : Nat} (ht1 : t1 < nStW) (M : Mw) (k39 : Int32 → Int32 → Option (Int32)) (hk39 : ∀ (l2 : Int32) (l3 : Int32), Sw g x (fun v : Int32 => (some (.int v), M)) M 0 0 39 [(0, .ref (gA g 50 0 0)), (1, .ref (gK g t1)), (2, .int l2), (3, .int l3)] [] (k39 l2 l3)) (l2 : Int32) (l3 : Int32) : Sw g x (fun v : Int32 => (some (.int v), M)) M 0 0 39 [(0, .ref (gA g 50 0 0)), (1, .ref (gK g t1)), (2, .int l2), (3, .int l3)] [] (B_X10_is_39 t1 M k39 l2 l3) := by
  unfold B_X10_is_39
  refine r_iload_n C 3 dX10_is_39 rfl rfl ?_
  refine r_aload_n C 1 dX10_is_40 rfl rfl ?_
  refine r_callTRi (rest := [.int l3]) C (c_J0_length_8abf5 ht1 M) dX10_is_41 u_1224 ht1 u_424 u_425 mi_J0_length_8abf5 (by decide) rfl rfl (Nat.le_of_ble_eq_true rfl) (xk1 hm (by decide)) (xn1 hm (by decide)) (fun v4 h5 => ?_)
  refine r_icmp_ge (tgt := 82) C dX10_is_44 (by decide) (fun h6 => ?_) (fun h6 => ?_)
  · refine r_iload_n C 2 dX10_is_82 rfl rfl ?_
    exact r_zret C dX10_is_83 rfl rfl (xk0 hm) (xn0 hm)
  · refine r_iload_n C 2 dX10_is_47 rfl rfl ?_
    refine r_if_eq (tgt := 82) C dX10_is_48 (by decide) (fun h7 => ?_) (fun h7 => ?_)
    · refine r_iload_n C 2 dX10_is_82 rfl rfl ?_
      exact r_zret C dX10_is_83 rfl rfl (xk0 hm) (xn0 hm)
    · refine r_aload_n C 0 dX10_is_51 rfl rfl ?_
      refine gf_50_4 C dX10_is_52 u_1109 in_50 ?_
      refine r_aload_n C 0 dX10_is_55 rfl rfl ?_
      refine gf_50_9 C dX10_is_56 u_1114 in_50 ?_
      refine r_iload_n C 3 dX10_is_59 rfl rfl ?_
      refine r_iadd C dX10_is_60 ?_
      refine r_bald C dX10_is_61 in_54 (contW_54 g _ _ _ _ _) (fun h8 => ?_)
      refine r_aload_n C 1 dX10_is_62 rfl rfl ?_
      refine r_iload_n C 3 dX10_is_63 rfl rfl ?_
      refine r_callTRi (rest := [.int (M.1 54 0 0 ((M.1 50 0 0 9) + l3).toNatClampNeg)]) C (c_J0_charAt_5068e ht1 l3 M) dX10_is_64 u_1225 ht1 u_433 u_434 mi_J0_charAt_5068e (by decide) rfl rfl (Nat.le_of_ble_eq_true rfl) (xk1 hm (by decide)) (xn1 hm (by decide)) (fun v9 h10 => ?_)
      refine r_icmp_ne (tgt := 74) C dX10_is_67 (by decide) (fun h11 => ?_) (fun h11 => ?_)
      · refine r_iconst (v := 1) C dX10_is_70 (by decide) ?_
        refine r_goto (tgt := 75) C dX10_is_71 (by decide) ?_
        refine r_istore_n0 (lv' := [(2, .int 1), (0, .ref (gA g 50 0 0)), (1, .ref (gK g t1)), (3, .int l3)]) C dX10_is_75 rfl (by decide) rfl ?_
        refine r_iinc (c := 1) (lv' := fun v13 => [(3, .int v13), (2, .int 1), (0, .ref (gA g 50 0 0)), (1, .ref (gK g t1))]) C 3 dX10_is_76 rfl (by decide) (by decide) (fun _ => rfl) (fun v13 => ?_)
        refine r_goto (tgt := 39) C dX10_is_79 (by decide) ?_
        refine r_lv [2, 3, 1, 0] rfl ?_
        exact hk39 1 v13
      · refine r_iconst (v := 0) C dX10_is_74 (by decide) ?_
        refine r_istore_n0 (lv' := [(2, .int 0), (0, .ref (gA g 50 0 0)), (1, .ref (gK g t1)), (3, .int l3)]) C dX10_is_75 rfl (by decide) rfl ?_
        refine r_iinc (c := 1) (lv' := fun v12 => [(3, .int v12), (2, .int 0), (0, .ref (gA g 50 0 0)), (1, .ref (gK g t1))]) C 3 dX10_is_76 rfl (by decide) (by decide) (fun _ => rfl) (fun v12 => ?_)
        refine r_goto (tgt := 39) C dX10_is_79 (by decide) ?_
        refine r_lv [2, 3, 1, 0] rfl ?_
        exact hk39 0 v12
set_option maxRecDepth 100000 in
set_option maxHeartbeats 4000000 in
theorem tl_X10_is_39 {g : Gw} {x : Xw} (C : Cw g x cX10_is RX10 4 (some .boolean) 7) (hm : x.2.2.2.2.2.2.2.2.2.2.2 = (0, 0)) {t1 : Nat} (ht1 : t1 < nStW) (M : Mw) (n : Nat) : ∀ (l2 : Int32) (l3 : Int32), Sw g x (fun v : Int32 => (some (.int v), M)) M 0 0 39 [(0, .ref (gA g 50 0 0)), (1, .ref (gK g t1)), (2, .int l2), (3, .int l3)] [] (it (fun _ _ => none) (B_X10_is_39 t1 M) n l2 l3) := by
  induction n with
  | zero =>
    intro l2 l3
    exact r_none
  | succ n ih =>
    intro l2 l3
    exact t_X10_is_39 C hm ht1 M _ ih l2 l3
set_option maxRecDepth 100000 in
set_option maxHeartbeats 4000000 in
theorem t_X10_is_36 {g : Gw} {x : Xw} (C : Cw g x cX10_is RX10 4 (some .boolean) 7) (hm : x.2.2.2.2.2.2.2.2.2.2.2 = (0, 0)) {t1 : Nat} (ht1 : t1 < nStW) (M : Mw) (s0 : Int32) : Sw g x (fun v : Int32 => (some (.int v), M)) M 0 0 36 [(0, .ref (gA g 50 0 0)), (1, .ref (gK g t1))] [.int s0] (B_X10_is_36 t1 s0 M) := by
  unfold B_X10_is_36
  refine r_istore_n0 (lv' := [(2, .int s0), (0, .ref (gA g 50 0 0)), (1, .ref (gK g t1))]) C dX10_is_36 rfl (by decide) rfl ?_
  refine r_iconst (v := 0) C dX10_is_37 (by decide) ?_
  refine r_istore_n0 (lv' := [(3, .int 0), (2, .int s0), (0, .ref (gA g 50 0 0)), (1, .ref (gK g t1))]) C dX10_is_38 rfl (by decide) rfl ?_
  refine r_lv [2, 3, 1, 0] rfl ?_
  exact tl_X10_is_39 C hm ht1 M FU s0 0
set_option maxRecDepth 100000 in
set_option maxHeartbeats 4000000 in
theorem t_X10_is_35 {g : Gw} {x : Xw} (C : Cw g x cX10_is RX10 4 (some .boolean) 7) (hm : x.2.2.2.2.2.2.2.2.2.2.2 = (0, 0)) {t1 : Nat} (ht1 : t1 < nStW) (M : Mw) : Sw g x (fun v : Int32 => (some (.int v), M)) M 0 0 35 [(0, .ref (gA g 50 0 0)), (1, .ref (gK g t1))] [] (B_X10_is_35 t1 M) := by
  unfold B_X10_is_35
  refine r_iconst (v := 0) C dX10_is_35 (by decide) ?_
  exact t_X10_is_36 C hm ht1 M 0
set_option maxRecDepth 100000 in
set_option maxHeartbeats 4000000 in
theorem c_X10_is {g : Gw} {l : Launch} {t1 : Nat} (ht1 : t1 < nStW) (M : Mw) : Kw g l yX10_is cX10_is 4 (some .boolean) 7 0 0 [.ref (gA g 50 0 0), .ref (gK g t1)] M (fun v : Int32 => (some (.int v), M)) (F_X10_is t1 M) := by
  refine Kw.of (own := RX10) (lv0 := [(0, .ref (gA g 50 0 0)), (1, .ref (gK g t1))]) (by decide +kernel) rfl (Nat.le_of_ble_eq_true rfl) rfl (fun x C hl hm => ?_)
  subst hl
  unfold F_X10_is
  refine r_aload_n C 0 dX10_is_0 rfl rfl ?_
  refine r_callVRi (rest := []) C (c_X10_good M) dX10_is_1 u_1209 in_50 (contW_50 g _ _ _ _ _) rfl u_1210 u_50 mi_X10_good (by decide) rfl rfl (Nat.le_of_ble_eq_true rfl) (xk1 hm (by decide)) (xn1 hm (by decide)) (fun v1 h2 => ?_)
  refine r_if_eq (tgt := 35) C dX10_is_4 (by decide) (fun h3 => ?_) (fun h3 => ?_)
  · exact t_X10_is_35 C hm ht1 M
  · refine r_aload_n C 0 dX10_is_7 rfl rfl ?_
    refine gf_50_10 C dX10_is_8 u_1115 in_50 ?_
    refine r_iconst (v := 1) C dX10_is_11 (by decide) ?_
    refine r_icmp_ne (tgt := 35) C dX10_is_12 (by decide) (fun h14 => ?_) (fun h14 => ?_)
    · refine r_aload_n C 0 dX10_is_15 rfl rfl ?_
      refine gf_50_8 C dX10_is_16 u_1113 in_50 ?_
      refine r_aload_n C 0 dX10_is_19 rfl rfl ?_
      refine gf_50_9 C dX10_is_20 u_1114 in_50 ?_
      refine r_isub C dX10_is_23 ?_
      refine r_aload_n C 1 dX10_is_24 rfl rfl ?_
      refine r_callTRi (rest := [.int ((M.1 50 0 0 8) - (M.1 50 0 0 9))]) C (c_J0_length_8abf5 ht1 M) dX10_is_25 u_1224 ht1 u_424 u_425 mi_J0_length_8abf5 (by decide) rfl rfl (Nat.le_of_ble_eq_true rfl) (xk1 hm (by decide)) (xn1 hm (by decide)) (fun v15 h16 => ?_)
      refine r_icmp_ne (tgt := 35) C dX10_is_28 (by decide) (fun h17 => ?_) (fun h17 => ?_)
      · refine r_iconst (v := 1) C dX10_is_31 (by decide) ?_
        refine r_goto (tgt := 36) C dX10_is_32 (by decide) ?_
        exact t_X10_is_36 C hm ht1 M 1
      · exact t_X10_is_35 C hm ht1 M
    · exact t_X10_is_35 C hm ht1 M
def B_X10_kindRead_2 (M : Mw) (k2 : Int32 → Option (Int32)) (l1 : Int32) : Option (Int32) :=
  (if 5 < l1 then some (-1) else ((F_X10_wordOf l1 M).bind (fun v2 => ((F_X10_is v2 M).bind (fun v4 => (if v4 = 0 then (bd (l1 + 1) (fun v7 => (k2 v7))) else some l1))))))
def F_X10_kindRead (M : Mw) : Option (Int32) :=
  (it (fun _ => none) (B_X10_kindRead_2 M) FU 0)
set_option maxRecDepth 100000 in
set_option maxHeartbeats 4000000 in
theorem t_X10_kindRead_2 {g : Gw} {x : Xw} (C : Cw g x cX10_kindRead RX10 2 (some .int) 8) (hm : x.2.2.2.2.2.2.2.2.2.2.2 = (0, 0)) (M : Mw) (k2 : Int32 → Option (Int32)) (hk2 : ∀ (l1 : Int32), Sw g x (fun v : Int32 => (some (.int v), M)) M 0 0 2 [(0, .ref (gA g 50 0 0)), (1, .int l1)] [] (k2 l1)) (l1 : Int32) : Sw g x (fun v : Int32 => (some (.int v), M)) M 0 0 2 [(0, .ref (gA g 50 0 0)), (1, .int l1)] [] (B_X10_kindRead_2 M k2 l1) := by
  unfold B_X10_kindRead_2
  refine r_iload_n C 1 dX10_kindRead_2 rfl rfl ?_
  refine r_iconst (v := 5) C dX10_kindRead_3 (by decide) ?_
  refine r_icmp_gt (tgt := 26) C dX10_kindRead_4 (by decide) (fun h1 => ?_) (fun h1 => ?_)
  · refine r_iconst (v := (-1)) C dX10_kindRead_26 (by decide) ?_
    exact r_iret C dX10_kindRead_27 rfl rfl (xk0 hm) (xn0 hm)
  · refine r_aload_n C 0 dX10_kindRead_7 rfl rfl ?_
    refine r_iload_n C 1 dX10_kindRead_8 rfl rfl ?_
    refine r_callST (rest := [.ref (gA g 50 0 0)]) C (c_X10_wordOf l1 M) dX10_kindRead_9 u_1218 u_1219 mi_X10_wordOf (by decide) rfl rfl (Nat.le_of_ble_eq_true rfl) (xk1 hm (by decide)) (xn1 hm (by decide)) (fun v2 h3 => ?_)
    refine r_callVRi (rest := []) C (c_X10_is (wordOf_in h3) M) dX10_kindRead_12 u_1221 in_50 (contW_50 g _ _ _ _ _) rfl u_1222 u_53 mi_X10_is (by decide) rfl rfl (Nat.le_of_ble_eq_true rfl) (xk1 hm (by decide)) (xn1 hm (by decide)) (fun v4 h5 => ?_)
    refine r_if_eq (tgt := 20) C dX10_kindRead_15 (by decide) (fun h6 => ?_) (fun h6 => ?_)
    · refine r_iinc (c := 1) (lv' := fun v7 => [(1, .int v7), (0, .ref (gA g 50 0 0))]) C 1 dX10_kindRead_20 rfl (by decide) (by decide) (fun _ => rfl) (fun v7 => ?_)
      refine r_goto (tgt := 2) C dX10_kindRead_23 (by decide) ?_
      refine r_lv [1, 0] rfl ?_
      exact hk2 v7
    · refine r_iload_n C 1 dX10_kindRead_18 rfl rfl ?_
      exact r_iret C dX10_kindRead_19 rfl rfl (xk0 hm) (xn0 hm)
set_option maxRecDepth 100000 in
set_option maxHeartbeats 4000000 in
theorem tl_X10_kindRead_2 {g : Gw} {x : Xw} (C : Cw g x cX10_kindRead RX10 2 (some .int) 8) (hm : x.2.2.2.2.2.2.2.2.2.2.2 = (0, 0)) (M : Mw) (n : Nat) : ∀ (l1 : Int32), Sw g x (fun v : Int32 => (some (.int v), M)) M 0 0 2 [(0, .ref (gA g 50 0 0)), (1, .int l1)] [] (it (fun _ => none) (B_X10_kindRead_2 M) n l1) := by
  induction n with
  | zero =>
    intro l1
    exact r_none
  | succ n ih =>
    intro l1
    exact t_X10_kindRead_2 C hm M _ ih l1
set_option maxRecDepth 100000 in
set_option maxHeartbeats 4000000 in
theorem c_X10_kindRead {g : Gw} {l : Launch} (M : Mw) : Kw g l yX10_kindRead cX10_kindRead 2 (some .int) 8 0 0 [.ref (gA g 50 0 0)] M (fun v : Int32 => (some (.int v), M)) (F_X10_kindRead M) := by
  refine Kw.of (own := RX10) (lv0 := [(0, .ref (gA g 50 0 0))]) (by decide +kernel) rfl (Nat.le_of_ble_eq_true rfl) rfl (fun x C hl hm => ?_)
  subst hl
  unfold F_X10_kindRead
  refine r_iconst (v := 0) C dX10_kindRead_0 (by decide) ?_
  refine r_istore_n0 (lv' := [(1, .int 0), (0, .ref (gA g 50 0 0))]) C dX10_kindRead_1 rfl (by decide) rfl ?_
  refine r_lv [1, 0] rfl ?_
  exact tl_X10_kindRead_2 C hm M FU 0
def F_X10_errs (p1 : Int32) (M : Mw) : Option (Mw) :=
  ((F_X10_good M).bind (fun v1 => (if v1 = 0 then some M else (bd (uIw M 50 0 0 12 p1) (fun M4 => (bd (uIw M4 50 0 0 13 (M4.1 50 0 0 9)) (fun M5 => some M5)))))))
set_option maxRecDepth 100000 in
set_option maxHeartbeats 4000000 in
theorem c_X10_errs {g : Gw} {l : Launch} (p1 : Int32) (M : Mw) : Kw g l yX10_errs cX10_errs 2 none 2 0 0 [.ref (gA g 50 0 0), .int p1] M (fun M : Mw => (none, M)) (F_X10_errs p1 M) := by
  refine Kw.of (own := RX10) (lv0 := [(0, .ref (gA g 50 0 0)), (1, .int p1)]) (by decide +kernel) rfl (Nat.le_of_ble_eq_true rfl) rfl (fun x C hl hm => ?_)
  subst hl
  unfold F_X10_errs
  refine r_aload_n C 0 dX10_errs_0 rfl rfl ?_
  refine r_callVRi (rest := []) C (c_X10_good M) dX10_errs_1 u_1209 in_50 (contW_50 g _ _ _ _ _) rfl u_1210 u_50 mi_X10_good (by decide) rfl rfl (Nat.le_of_ble_eq_true rfl) (xk1 hm (by decide)) (xn1 hm (by decide)) (fun v1 h2 => ?_)
  refine r_if_ne (tgt := 8) C dX10_errs_4 (by decide) (fun h3 => ?_) (fun h3 => ?_)
  · exact r_vret C dX10_errs_7 rfl rfl (xk0 hm) (xn0 hm)
  · refine r_aload_n C 0 dX10_errs_8 rfl rfl ?_
    refine r_iload_n C 1 dX10_errs_9 rfl rfl ?_
    refine pf_50_12 C dX10_errs_10 u_1117 in_50 (fun M4 => ?_)
    refine r_aload_n C 0 dX10_errs_13 rfl rfl ?_
    refine r_aload_n C 0 dX10_errs_14 rfl rfl ?_
    refine gf_50_9 C dX10_errs_15 u_1114 in_50 ?_
    refine pf_50_13 C dX10_errs_18 u_1118 in_50 (fun M5 => ?_)
    exact r_vret C dX10_errs_21 rfl rfl (xk0 hm) (xn0 hm)
def F_X10_expects (t1 : Nat) (M : Mw) : Option (Mw) :=
  ((F_X10_is t1 M).bind (fun v1 => (if v1 = 0 then ((F_X10_errs 1 M).bind (fun M4 => some M4)) else ((F_X10_advance M).bind (fun M6 => some M6)))))
set_option maxRecDepth 100000 in
set_option maxHeartbeats 4000000 in
theorem c_X10_expects {g : Gw} {l : Launch} {t1 : Nat} (ht1 : t1 < nStW) (M : Mw) : Kw g l yX10_expects cX10_expects 2 none 8 0 0 [.ref (gA g 50 0 0), .ref (gK g t1)] M (fun M : Mw => (none, M)) (F_X10_expects t1 M) := by
  refine Kw.of (own := RX10) (lv0 := [(0, .ref (gA g 50 0 0)), (1, .ref (gK g t1))]) (by decide +kernel) rfl (Nat.le_of_ble_eq_true rfl) rfl (fun x C hl hm => ?_)
  subst hl
  unfold F_X10_expects
  refine r_aload_n C 0 dX10_expects_0 rfl rfl ?_
  refine r_aload_n C 1 dX10_expects_1 rfl rfl ?_
  refine r_callVRi (rest := []) C (c_X10_is ht1 M) dX10_expects_2 u_1221 in_50 (contW_50 g _ _ _ _ _) rfl u_1222 u_53 mi_X10_is (by decide) rfl rfl (Nat.le_of_ble_eq_true rfl) (xk1 hm (by decide)) (xn1 hm (by decide)) (fun v1 h2 => ?_)
  refine r_if_eq (tgt := 15) C dX10_expects_5 (by decide) (fun h3 => ?_) (fun h3 => ?_)
  · refine r_aload_n C 0 dX10_expects_15 rfl rfl ?_
    refine r_iconst (v := 1) C dX10_expects_16 (by decide) ?_
    refine r_callVU (rest := []) C (c_X10_errs 1 M) dX10_expects_17 u_1232 in_50 (contW_50 g _ _ _ _ _) rfl u_1233 u_56 mi_X10_errs (by decide) rfl rfl (Nat.le_of_ble_eq_true rfl) (xk1 hm (by decide)) (xn1 hm (by decide)) (fun M4 h5 => ?_)
    exact r_vret C dX10_expects_20 rfl rfl (xk0 hm) (xn0 hm)
  · refine r_aload_n C 0 dX10_expects_8 rfl rfl ?_
    refine r_callVU (rest := []) C (c_X10_advance M) dX10_expects_9 u_1197 in_50 (contW_50 g _ _ _ _ _) rfl u_1198 u_48 mi_X10_advance (by decide) rfl rfl (Nat.le_of_ble_eq_true rfl) (xk1 hm (by decide)) (xn1 hm (by decide)) (fun M6 h7 => ?_)
    refine r_goto (tgt := 20) C dX10_expects_12 (by decide) ?_
    exact r_vret C dX10_expects_20 rfl rfl (xk0 hm) (xn0 hm)
def B_X10_takes_47 (M : Mw) : Option (Int32 × Mw) :=
  ((F_X10_good M).bind (fun v7 => (if v7 = 0 then some (0, M) else (bd (M.1 50 0 0 11) (fun v10 => ((F_X10_advance M).bind (fun M11 => some (v10, M11))))))))
def B_X10_takes_20 (l1 : Int32) (l2 : Int32) (M : Mw) : Option (Int32 × Mw) :=
  ((F_X10_good M).bind (fun v4 => (if v4 = 0 then (B_X10_takes_47 M) else ((F_X10_in (((M.1 50 0 0 11)).toInt64) ((l1).toInt64) ((l2).toInt64) M).bind (fun v13 => (if v13 = 0 then ((F_X10_errs 2 M).bind (fun M16 => (B_X10_takes_47 M16))) else (B_X10_takes_47 M)))))))
def F_X10_takes (p1 : Int32) (p2 : Int32) (M : Mw) : Option (Int32 × Mw) :=
  ((F_X10_good M).bind (fun v1 => (if v1 = 0 then (B_X10_takes_20 p1 p2 M) else (if (M.1 50 0 0 10) = 2 then (B_X10_takes_20 p1 p2 M) else ((F_X10_errs 1 M).bind (fun M19 => (B_X10_takes_20 p1 p2 M19)))))))
set_option maxRecDepth 100000 in
set_option maxHeartbeats 4000000 in
theorem t_X10_takes_47 {g : Gw} {x : Xw} (C : Cw g x cX10_takes RX10 4 (some .int) 3) (hm : x.2.2.2.2.2.2.2.2.2.2.2 = (0, 0)) (M : Mw) : Sw g x (fun q : Int32 × Mw => (some (.int q.1), q.2)) M 0 0 47 [(0, .ref (gA g 50 0 0))] [] (B_X10_takes_47 M) := by
  unfold B_X10_takes_47
  refine r_aload_n C 0 dX10_takes_47 rfl rfl ?_
  refine r_callVRi (rest := []) C (c_X10_good M) dX10_takes_48 u_1209 in_50 (contW_50 g _ _ _ _ _) rfl u_1210 u_50 mi_X10_good (by decide) rfl rfl (Nat.le_of_ble_eq_true rfl) (xk1 hm (by decide)) (xn1 hm (by decide)) (fun v7 h8 => ?_)
  refine r_if_ne (tgt := 56) C dX10_takes_51 (by decide) (fun h9 => ?_) (fun h9 => ?_)
  · refine r_iconst (v := 0) C dX10_takes_54 (by decide) ?_
    exact r_iret C dX10_takes_55 rfl rfl (xk0 hm) (xn0 hm)
  · refine r_aload_n C 0 dX10_takes_56 rfl rfl ?_
    refine gf_50_11 C dX10_takes_57 u_1116 in_50 ?_
    refine r_istore_n (lv' := fun v10 => [(3, .int v10), (0, .ref (gA g 50 0 0))]) C dX10_takes_60 rfl (by decide) (fun _ => rfl) (fun v10 => ?_)
    refine r_aload_n C 1 dX10_takes_61 rfl rfl ?_
    refine r_callVU (rest := []) C (c_X10_advance M) dX10_takes_62 u_1197 in_50 (contW_50 g _ _ _ _ _) rfl u_1198 u_48 mi_X10_advance (by decide) rfl rfl (Nat.le_of_ble_eq_true rfl) (xk1 hm (by decide)) (xn1 hm (by decide)) (fun M11 h12 => ?_)
    refine r_iload_n C 0 dX10_takes_65 rfl rfl ?_
    exact r_iret C dX10_takes_66 rfl rfl (xk0 hm) (xn0 hm)
set_option maxRecDepth 100000 in
set_option maxHeartbeats 4000000 in
theorem t_X10_takes_20 {g : Gw} {x : Xw} (C : Cw g x cX10_takes RX10 4 (some .int) 3) (hm : x.2.2.2.2.2.2.2.2.2.2.2 = (0, 0)) (l1 : Int32) (l2 : Int32) (M : Mw) : Sw g x (fun q : Int32 × Mw => (some (.int q.1), q.2)) M 0 0 20 [(0, .ref (gA g 50 0 0)), (1, .int l1), (2, .int l2)] [] (B_X10_takes_20 l1 l2 M) := by
  unfold B_X10_takes_20
  refine r_aload_n C 0 dX10_takes_20 rfl rfl ?_
  refine r_callVRi (rest := []) C (c_X10_good M) dX10_takes_21 u_1209 in_50 (contW_50 g _ _ _ _ _) rfl u_1210 u_50 mi_X10_good (by decide) rfl rfl (Nat.le_of_ble_eq_true rfl) (xk1 hm (by decide)) (xn1 hm (by decide)) (fun v4 h5 => ?_)
  refine r_if_eq (tgt := 47) C dX10_takes_24 (by decide) (fun h6 => ?_) (fun h6 => ?_)
  · refine r_lv [0] rfl ?_
    exact t_X10_takes_47 C hm M
  · refine r_aload_n C 0 dX10_takes_27 rfl rfl ?_
    refine gf_50_11 C dX10_takes_28 u_1116 in_50 ?_
    refine r_i2l C dX10_takes_31 ?_
    refine r_iload_n C 1 dX10_takes_32 rfl rfl ?_
    refine r_i2l C dX10_takes_33 ?_
    refine r_iload_n C 2 dX10_takes_34 rfl rfl ?_
    refine r_i2l C dX10_takes_35 ?_
    refine r_callSRi (rest := []) C (c_X10_in (((M.1 50 0 0 11)).toInt64) ((l1).toInt64) ((l2).toInt64) M) dX10_takes_36 u_1174 u_1175 mi_X10_in (by decide) rfl rfl (Nat.le_of_ble_eq_true rfl) (xk1 hm (by decide)) (xn1 hm (by decide)) (fun v13 h14 => ?_)
    refine r_if_ne (tgt := 47) C dX10_takes_39 (by decide) (fun h15 => ?_) (fun h15 => ?_)
    · refine r_aload_n C 0 dX10_takes_42 rfl rfl ?_
      refine r_iconst (v := 2) C dX10_takes_43 (by decide) ?_
      refine r_callVU (rest := []) C (c_X10_errs 2 M) dX10_takes_44 u_1232 in_50 (contW_50 g _ _ _ _ _) rfl u_1233 u_56 mi_X10_errs (by decide) rfl rfl (Nat.le_of_ble_eq_true rfl) (xk1 hm (by decide)) (xn1 hm (by decide)) (fun M16 h17 => ?_)
      refine r_lv [0] rfl ?_
      exact t_X10_takes_47 C hm M16
    · refine r_lv [0] rfl ?_
      exact t_X10_takes_47 C hm M
set_option maxRecDepth 100000 in
set_option maxHeartbeats 4000000 in
theorem c_X10_takes {g : Gw} {l : Launch} (p1 : Int32) (p2 : Int32) (M : Mw) : Kw g l yX10_takes cX10_takes 4 (some .int) 3 0 0 [.ref (gA g 50 0 0), .int p1, .int p2] M (fun q : Int32 × Mw => (some (.int q.1), q.2)) (F_X10_takes p1 p2 M) := by
  refine Kw.of (own := RX10) (lv0 := [(0, .ref (gA g 50 0 0)), (1, .int p1), (2, .int p2)]) (by decide +kernel) rfl (Nat.le_of_ble_eq_true rfl) rfl (fun x C hl hm => ?_)
  subst hl
  unfold F_X10_takes
  refine r_aload_n C 0 dX10_takes_0 rfl rfl ?_
  refine r_callVRi (rest := []) C (c_X10_good M) dX10_takes_1 u_1209 in_50 (contW_50 g _ _ _ _ _) rfl u_1210 u_50 mi_X10_good (by decide) rfl rfl (Nat.le_of_ble_eq_true rfl) (xk1 hm (by decide)) (xn1 hm (by decide)) (fun v1 h2 => ?_)
  refine r_if_eq (tgt := 20) C dX10_takes_4 (by decide) (fun h3 => ?_) (fun h3 => ?_)
  · exact t_X10_takes_20 C hm p1 p2 M
  · refine r_aload_n C 0 dX10_takes_7 rfl rfl ?_
    refine gf_50_10 C dX10_takes_8 u_1115 in_50 ?_
    refine r_iconst (v := 2) C dX10_takes_11 (by decide) ?_
    refine r_icmp_eq (tgt := 20) C dX10_takes_12 (by decide) (fun h18 => ?_) (fun h18 => ?_)
    · exact t_X10_takes_20 C hm p1 p2 M
    · refine r_aload_n C 0 dX10_takes_15 rfl rfl ?_
      refine r_iconst (v := 1) C dX10_takes_16 (by decide) ?_
      refine r_callVU (rest := []) C (c_X10_errs 1 M) dX10_takes_17 u_1232 in_50 (contW_50 g _ _ _ _ _) rfl u_1233 u_56 mi_X10_errs (by decide) rfl rfl (Nat.le_of_ble_eq_true rfl) (xk1 hm (by decide)) (xn1 hm (by decide)) (fun M19 h20 => ?_)
      exact t_X10_takes_20 C hm p1 p2 M19
