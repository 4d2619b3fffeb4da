def F_J6_bitCount_0f7a4 (p1 : Int32) (M : Mw) : Option (Int32) :=
  (bd (p1 - (((p1.toUInt32 >>> ((1 : Int32).toUInt32 &&& Int32.toUInt32 31)).toInt32) &&& 1431655765)) (fun v1 => (bd ((v1 &&& 858993459) + (((v1.toUInt32 >>> ((2 : Int32).toUInt32 &&& Int32.toUInt32 31)).toInt32) &&& 858993459)) (fun v2 => (bd ((v2 + ((v2.toUInt32 >>> ((4 : Int32).toUInt32 &&& Int32.toUInt32 31)).toInt32)) &&& 252645135) (fun v3 => (bd (v3 + ((v3.toUInt32 >>> ((8 : Int32).toUInt32 &&& Int32.toUInt32 31)).toInt32)) (fun v4 => (bd (v4 + ((v4.toUInt32 >>> ((16 : Int32).toUInt32 &&& Int32.toUInt32 31)).toInt32)) (fun v5 => some (v5 &&& 63)))))))))))
set_option maxRecDepth 100000 in
set_option maxHeartbeats 4000000 in
theorem c_J6_bitCount_0f7a4 {g : Gw} {l : Launch} (p1 : Int32) (M : Mw) : Kw g l yJ6_bitCount_0f7a4 cJ6_bitCount_0f7a4 1 (some .int) 1 0 0 [.int p1] M (fun v : Int32 => (some (.int v), M)) (F_J6_bitCount_0f7a4 p1 M) := by
  refine Kw.of (own := RJ6) (lv0 := [(0, .int p1)]) (by decide +kernel) rfl (Nat.le_of_ble_eq_true rfl) rfl (fun x C hl hm => ?_)
  subst hl
  unfold F_J6_bitCount_0f7a4
  refine r_iload_n C 0 dJ6_bitCount_0f7a4_0 rfl rfl ?_
  refine r_iload_n C 0 dJ6_bitCount_0f7a4_1 rfl rfl ?_
  refine r_iconst (v := 1) C dJ6_bitCount_0f7a4_2 (by decide) ?_
  refine r_iushr C dJ6_bitCount_0f7a4_3 ?_
  refine r_ldcw (v := 1431655765) C u_613 dJ6_bitCount_0f7a4_4 ?_
  refine r_iand C dJ6_bitCount_0f7a4_7 ?_
  refine r_isub C dJ6_bitCount_0f7a4_8 ?_
  refine r_istore_n (lv' := fun v1 => [(0, .int v1)]) C dJ6_bitCount_0f7a4_9 rfl (by decide) (fun _ => rfl) (fun v1 => ?_)
  refine r_iload_n C 0 dJ6_bitCount_0f7a4_10 rfl rfl ?_
  refine r_ldcw (v := 858993459) C u_614 dJ6_bitCount_0f7a4_11 ?_
  refine r_iand C dJ6_bitCount_0f7a4_14 ?_
  refine r_iload_n C 0 dJ6_bitCount_0f7a4_15 rfl rfl ?_
  refine r_iconst (v := 2) C dJ6_bitCount_0f7a4_16 (by decide) ?_
  refine r_iushr C dJ6_bitCount_0f7a4_17 ?_
  refine r_ldcw (v := 858993459) C u_614 dJ6_bitCount_0f7a4_18 ?_
  refine r_iand C dJ6_bitCount_0f7a4_21 ?_
  refine r_iadd C dJ6_bitCount_0f7a4_22 ?_
  refine r_istore_n (lv' := fun v2 => [(0, .int v2)]) C dJ6_bitCount_0f7a4_23 rfl (by decide) (fun _ => rfl) (fun v2 => ?_)
  refine r_iload_n C 0 dJ6_bitCount_0f7a4_24 rfl rfl ?_
  refine r_iload_n C 0 dJ6_bitCount_0f7a4_25 rfl rfl ?_
  refine r_iconst (v := 4) C dJ6_bitCount_0f7a4_26 (by decide) ?_
  refine r_iushr C dJ6_bitCount_0f7a4_27 ?_
  refine r_iadd C dJ6_bitCount_0f7a4_28 ?_
  refine r_ldcw (v := 252645135) C u_615 dJ6_bitCount_0f7a4_29 ?_
  refine r_iand C dJ6_bitCount_0f7a4_32 ?_
  refine r_istore_n (lv' := fun v3 => [(0, .int v3)]) C dJ6_bitCount_0f7a4_33 rfl (by decide) (fun _ => rfl) (fun v3 => ?_)
  refine r_iload_n C 0 dJ6_bitCount_0f7a4_34 rfl rfl ?_
  refine r_iload_n C 0 dJ6_bitCount_0f7a4_35 rfl rfl ?_
  refine r_bipush (v := 8) C dJ6_bitCount_0f7a4_36 (by decide) ?_
  refine r_iushr C dJ6_bitCount_0f7a4_38 ?_
  refine r_iadd C dJ6_bitCount_0f7a4_39 ?_
  refine r_istore_n (lv' := fun v4 => [(0, .int v4)]) C dJ6_bitCount_0f7a4_40 rfl (by decide) (fun _ => rfl) (fun v4 => ?_)
  refine r_iload_n C 0 dJ6_bitCount_0f7a4_41 rfl rfl ?_
  refine r_iload_n C 0 dJ6_bitCount_0f7a4_42 rfl rfl ?_
  refine r_bipush (v := 16) C dJ6_bitCount_0f7a4_43 (by decide) ?_
  refine r_iushr C dJ6_bitCount_0f7a4_45 ?_
  refine r_iadd C dJ6_bitCount_0f7a4_46 ?_
  refine r_istore_n (lv' := fun v5 => [(0, .int v5)]) C dJ6_bitCount_0f7a4_47 rfl (by decide) (fun _ => rfl) (fun v5 => ?_)
  refine r_iload_n C 0 dJ6_bitCount_0f7a4_48 rfl rfl ?_
  refine r_bipush (v := 63) C dJ6_bitCount_0f7a4_49 (by decide) ?_
  refine r_iand C dJ6_bitCount_0f7a4_51 ?_
  exact r_iret C dJ6_bitCount_0f7a4_52 rfl rfl (xk0 hm) (xn0 hm)
def B_X2_follower_44 (b1 : Nat) (l4 : Int32) (M : Mw) (k44 : Int32 → Int32 → Option (Int32)) (l6 : Int32) (l7 : Int32) : Option (Int32) :=
  (if 6 ≤ l7 then some (-1) else (if (l4 &&& (1 <<< (l7 &&& 31))) = 0 then (bd (l7 + 1) (fun v14 => (k44 l6 v14))) else (if l6 = 0 then some l7 else (bd (l6 + (-1)) (fun v16 => (bd (l7 + 1) (fun v17 => (k44 v16 v17))))))))
def F_X2_follower (b1 : Nat) (p2 : Int32) (p3 : Int32) (p4 : Int32) (M : Mw) : Option (Int32) :=
  ((F_X0_hasNode b1 p2 p3 M).bind (fun v1 => (if v1 = 0 then some (-1) else (if inb p2 5 then (if inb p3 6 then (bd (M.1 8 b1 p2.toNatClampNeg p3.toNatClampNeg) (fun v6 => ((F_J6_bitCount_0f7a4 v6 M).bind (fun v7 => (if v7 = 0 then some (-1) else (if v7 = 0 then none else (bd (p4 - p4 / v7 * v7) (fun v11 => (it (fun _ _ => none) (B_X2_follower_44 b1 v6 M) FU v11 0))))))))) else none) else none))))
set_option maxRecDepth 100000 in
set_option maxHeartbeats 4000000 in
theorem t_X2_follower_44 {g : Gw} {x : Xw} (C : Cw g x cX2_follower RX2 8 (some .int) 3) (hm : x.2.2.2.2.2.2.2.2.2.2.2 = (0, 0)) {b1 : Nat} (hb1 : b1 < 8) (M : Mw) (l4 : Int32) (k44 : Int32 → Int32 → Option (Int32)) (hk44 : ∀ (l6 : Int32) (l7 : Int32), Sw g x (fun v : Int32 => (some (.int v), M)) M 0 0 44 [(4, .int l4), (6, .int l6), (7, .int l7)] [] (k44 l6 l7)) (l6 : Int32) (l7 : Int32) : Sw g x (fun v : Int32 => (some (.int v), M)) M 0 0 44 [(4, .int l4), (6, .int l6), (7, .int l7)] [] (B_X2_follower_44 b1 l4 M k44 l6 l7) := by
  unfold B_X2_follower_44
  refine r_iload C 2 dX2_follower_44 rfl ?_
  refine r_bipush (v := 6) C dX2_follower_46 (by decide) ?_
  refine r_icmp_ge (tgt := 78) C dX2_follower_48 (by decide) (fun h12 => ?_) (fun h12 => ?_)
  · refine r_iconst (v := (-1)) C dX2_follower_78 (by decide) ?_
    exact r_iret C dX2_follower_79 rfl rfl (xk0 hm) (xn0 hm)
  · refine r_iload C 0 dX2_follower_51 rfl ?_
    refine r_iconst (v := 1) C dX2_follower_53 (by decide) ?_
    refine r_iload C 2 dX2_follower_54 rfl ?_
    refine r_ishl C dX2_follower_56 ?_
    refine r_iand C dX2_follower_57 ?_
    refine r_if_eq (tgt := 72) C dX2_follower_58 (by decide) (fun h13 => ?_) (fun h13 => ?_)
    · refine r_iinc (c := 1) (lv' := fun v14 => [(7, .int v14), (4, .int l4), (6, .int l6)]) C 2 dX2_follower_72 rfl (by decide) (by decide) (fun _ => rfl) (fun v14 => ?_)
      refine r_goto (tgt := 44) C dX2_follower_75 (by decide) ?_
      refine r_lv [1, 2, 0] rfl ?_
      exact hk44 l6 v14
    · refine r_iload C 1 dX2_follower_61 rfl ?_
      refine r_if_ne (tgt := 69) C dX2_follower_63 (by decide) (fun h15 => ?_) (fun h15 => ?_)
      · refine r_iload C 2 dX2_follower_66 rfl ?_
        exact r_iret C dX2_follower_68 rfl rfl (xk0 hm) (xn0 hm)
      · refine r_iinc (c := (-1)) (lv' := fun v16 => [(6, .int v16), (4, .int l4), (7, .int l7)]) C 1 dX2_follower_69 rfl (by decide) (by decide) (fun _ => rfl) (fun v16 => ?_)
        refine r_iinc (c := 1) (lv' := fun v17 => [(7, .int v17), (6, .int v16), (4, .int l4)]) C 2 dX2_follower_72 rfl (by decide) (by decide) (fun _ => rfl) (fun v17 => ?_)
        refine r_goto (tgt := 44) C dX2_follower_75 (by decide) ?_
        refine r_lv [2, 1, 0] rfl ?_
        exact hk44 v16 v17
set_option maxRecDepth 100000 in
set_option maxHeartbeats 4000000 in
theorem tl_X2_follower_44 {g : Gw} {x : Xw} (C : Cw g x cX2_follower RX2 8 (some .int) 3) (hm : x.2.2.2.2.2.2.2.2.2.2.2 = (0, 0)) {b1 : Nat} (hb1 : b1 < 8) (M : Mw) (l4 : Int32) (n : Nat) : ∀ (l6 : Int32) (l7 : Int32), Sw g x (fun v : Int32 => (some (.int v), M)) M 0 0 44 [(4, .int l4), (6, .int l6), (7, .int l7)] [] (it (fun _ _ => none) (B_X2_follower_44 b1 l4 M) n l6 l7) := by
  induction n with
  | zero =>
    intro l6 l7
    exact r_none
  | succ n ih =>
    intro l6 l7
    exact t_X2_follower_44 C hm hb1 M l4 _ ih l6 l7
set_option maxRecDepth 100000 in
set_option maxHeartbeats 4000000 in
theorem c_X2_follower {g : Gw} {l : Launch} {b1 : Nat} (hb1 : b1 < 8) (p2 : Int32) (p3 : Int32) (p4 : Int32) (M : Mw) : Kw g l yX2_follower cX2_follower 8 (some .int) 3 0 0 [.ref (gA g 0 b1 0), .int p2, .int p3, .int p4] M (fun v : Int32 => (some (.int v), M)) (F_X2_follower b1 p2 p3 p4 M) := by
  refine Kw.of (own := RX2) (lv0 := [(0, .ref (gA g 0 b1 0)), (1, .int p2), (2, .int p3), (3, .int p4)]) (by decide +kernel) rfl (Nat.le_of_ble_eq_true rfl) rfl (fun x C hl hm => ?_)
  subst hl
  unfold F_X2_follower
  refine r_aload_n C 0 dX2_follower_0 rfl rfl ?_
  refine r_iload_n C 1 dX2_follower_1 rfl rfl ?_
  refine r_iload_n C 2 dX2_follower_2 rfl rfl ?_
  refine r_callVRi (rest := []) C (c_X0_hasNode hb1 p2 p3 M) dX2_follower_3 u_609 (in_0 hb1) (contW_0 g _ _ _ _ _) rfl u_506 u_507 mi_X0_hasNode (by decide) rfl rfl (Nat.le_of_ble_eq_true rfl) (xk1 hm (by decide)) (xn1 hm (by decide)) (fun v1 h2 => ?_)
  refine r_if_ne (tgt := 11) C dX2_follower_6 (by decide) (fun h3 => ?_) (fun h3 => ?_)
  · refine r_iconst (v := (-1)) C dX2_follower_9 (by decide) ?_
    exact r_iret C dX2_follower_10 rfl rfl (xk0 hm) (xn0 hm)
  · refine r_aload_n C 0 dX2_follower_11 rfl rfl ?_
    refine gf_0_12 C dX2_follower_12 u_230 (in_0 hb1) ?_
    refine r_iload_n C 1 dX2_follower_15 rfl rfl ?_
    refine r_aald (t0 := 5) (ty := .array .int) C dX2_follower_16 (in_7 hb1) (contW_7 g _ _ _ _ _) rfl rfl (fun h4 => ?_)
    refine r_iload_n C 2 dX2_follower_17 rfl rfl ?_
    refine r_iald C dX2_follower_18 (in_8 hb1 (inb_lt h4)) (contW_8 g _ _ _ _ _) (fun h5 => ?_)
    refine r_istore (lv' := fun v6 => [(4, .int v6), (0, .ref (gA g 0 b1 0)), (1, .int p2), (2, .int p3), (3, .int p4)]) C dX2_follower_19 (by decide) (fun _ => rfl) (fun v6 => ?_)
    refine r_iload C 0 dX2_follower_21 rfl ?_
    refine r_callSRi (rest := []) C (c_J6_bitCount_0f7a4 v6 M) dX2_follower_23 u_610 u_611 mi_J6_bitCount_0f7a4 (by decide) rfl rfl (Nat.le_of_ble_eq_true rfl) (xk1 hm (by decide)) (xn1 hm (by decide)) (fun v7 h8 => ?_)
    refine r_istore0 (lv' := [(5, .int v7), (4, .int v6), (0, .ref (gA g 0 b1 0)), (1, .int p2), (2, .int p3), (3, .int p4)]) C dX2_follower_26 (by decide) rfl ?_
    refine r_iload C 0 dX2_follower_28 rfl ?_
    refine r_if_ne (tgt := 35) C dX2_follower_30 (by decide) (fun h9 => ?_) (fun h9 => ?_)
    · refine r_iconst (v := (-1)) C dX2_follower_33 (by decide) ?_
      exact r_iret C dX2_follower_34 rfl rfl (xk0 hm) (xn0 hm)
    · refine r_iload_n C 5 dX2_follower_35 rfl rfl ?_
      refine r_iload C 0 dX2_follower_36 rfl ?_
      refine r_irem C dX2_follower_38 (fun h10 => ?_)
      refine r_istore (lv' := fun v11 => [(6, .int v11), (5, .int v7), (4, .int v6), (0, .ref (gA g 0 b1 0)), (1, .int p2), (2, .int p3), (3, .int p4)]) C dX2_follower_39 (by decide) (fun _ => rfl) (fun v11 => ?_)
      refine r_iconst (v := 0) C dX2_follower_41 (by decide) ?_
      refine r_istore0 (lv' := [(7, .int 0), (6, .int v11), (5, .int v7), (4, .int v6), (0, .ref (gA g 0 b1 0)), (1, .int p2), (2, .int p3), (3, .int p4)]) C dX2_follower_42 (by decide) rfl ?_
      refine r_lv [3, 1, 0] rfl ?_
      exact tl_X2_follower_44 C hm hb1 M v6 FU v11 0
def F_X7_gapAt (b : Nat) (i : Nat) (p1 : Int32) (M : Mw) : Option (Int32) :=
  (if (M.1 25 b i 5) = (-1) then some ((p1 - (M.1 25 b i 0)) + 1) else some (p1 - (M.1 25 b i 5)))
set_option maxRecDepth 100000 in
set_option maxHeartbeats 4000000 in
theorem c_X7_gapAt {g : Gw} {l : Launch} {b : Nat} (hb : b < 3) {i : Nat} (hi : i < 5) (p1 : Int32) (M : Mw) : Kw g l yX7_gapAt cX7_gapAt 2 (some .int) 1 0 0 [.ref (gA g 25 b i), .int p1] M (fun v : Int32 => (some (.int v), M)) (F_X7_gapAt b i p1 M) := by
  refine Kw.of (own := RX7) (lv0 := [(0, .ref (gA g 25 b i)), (1, .int p1)]) (by decide +kernel) rfl (Nat.le_of_ble_eq_true rfl) rfl (fun x C hl hm => ?_)
  subst hl
  unfold F_X7_gapAt
  refine r_aload_n C 0 dX7_gapAt_0 rfl rfl ?_
  refine gf_25_5 C dX7_gapAt_1 u_304 (in_25 hb hi) ?_
  refine r_iconst (v := (-1)) C dX7_gapAt_4 (by decide) ?_
  refine r_icmp_ne (tgt := 19) C dX7_gapAt_5 (by decide) (fun h1 => ?_) (fun h1 => ?_)
  · refine r_iload_n C 1 dX7_gapAt_8 rfl rfl ?_
    refine r_aload_n C 0 dX7_gapAt_9 rfl rfl ?_
    refine gf_25_0 C dX7_gapAt_10 u_291 (in_25 hb hi) ?_
    refine r_isub C dX7_gapAt_13 ?_
    refine r_iconst (v := 1) C dX7_gapAt_14 (by decide) ?_
    refine r_iadd C dX7_gapAt_15 ?_
    refine r_goto (tgt := 25) C dX7_gapAt_16 (by decide) ?_
    exact r_iret C dX7_gapAt_25 rfl rfl (xk0 hm) (xn0 hm)
  · refine r_iload_n C 1 dX7_gapAt_19 rfl rfl ?_
    refine r_aload_n C 0 dX7_gapAt_20 rfl rfl ?_
    refine gf_25_5 C dX7_gapAt_21 u_304 (in_25 hb hi) ?_
    refine r_isub C dX7_gapAt_24 ?_
    exact r_iret C dX7_gapAt_25 rfl rfl (xk0 hm) (xn0 hm)
def B_X5_kindOfKick_59 (b : Nat) (l3i : Nat) (s0 : Int32) (M : Mw) : Option (Int32) :=
  (if s0 = 0 then some 0 else (if (M.1 25 b l3i 5) = (-1) then some 0 else some 1))
def F_X5_kindOfKick (b : Nat) (p1 : Int32) (p2 : Int32) (M : Mw) : Option (Int32) :=
  (if inb p1 5 then (if p2 = 0 then ((F_X7_job b p1.toNatClampNeg M).bind (fun v3 => ((F_X0_changeAt (b + 5) p1 v3 (-1) M).bind (fun v5 => (if v5 = 4 then some 4 else ((F_X7_gapAt b p1.toNatClampNeg (M.1 23 b 0 6) M).bind (fun v8 => (if inb p1 5 then (if (M.1 4 (b + 5) p1.toNatClampNeg 2) ≤ v8 then (B_X5_kindOfKick_59 b p1.toNatClampNeg 0 M) else (B_X5_kindOfKick_59 b p1.toNatClampNeg 1 M)) else none)))))))) else some 3) else none)
set_option maxRecDepth 100000 in
set_option maxHeartbeats 4000000 in
theorem t_X5_kindOfKick_59 {g : Gw} {x : Xw} (C : Cw g x cX5_kindOfKick RX5 5 (some .int) 2) (hm : x.2.2.2.2.2.2.2.2.2.2.2 = (0, 0)) {b : Nat} (hb : b < 3) (M : Mw) (l3i : Nat) (s0 : Int32) (hl3i : l3i < 5) : Sw g x (fun v : Int32 => (some (.int v), M)) M 0 0 59 [(3, .ref (gA g 25 b l3i))] [.int s0] (B_X5_kindOfKick_59 b l3i s0 M) := by
  unfold B_X5_kindOfKick_59
  refine r_istore0 (lv' := [(4, .int s0), (3, .ref (gA g 25 b l3i))]) C dX5_kindOfKick_59 (by decide) rfl ?_
  refine r_iload C 0 dX5_kindOfKick_61 rfl ?_
  refine r_if_eq (tgt := 78) C dX5_kindOfKick_63 (by decide) (fun h12 => ?_) (fun h12 => ?_)
  · refine r_iconst (v := 0) C dX5_kindOfKick_78 (by decide) ?_
    exact r_iret C dX5_kindOfKick_79 rfl rfl (xk0 hm) (xn0 hm)
  · refine r_aload_n C 1 dX5_kindOfKick_66 rfl rfl ?_
    refine gf_25_5 C dX5_kindOfKick_67 u_305 (in_25 hb hl3i) ?_
    refine r_iconst (v := (-1)) C dX5_kindOfKick_70 (by decide) ?_
    refine r_icmp_eq (tgt := 78) C dX5_kindOfKick_71 (by decide) (fun h13 => ?_) (fun h13 => ?_)
    · refine r_iconst (v := 0) C dX5_kindOfKick_78 (by decide) ?_
      exact r_iret C dX5_kindOfKick_79 rfl rfl (xk0 hm) (xn0 hm)
    · refine r_iconst (v := 1) C dX5_kindOfKick_74 (by decide) ?_
      refine r_goto (tgt := 79) C dX5_kindOfKick_75 (by decide) ?_
      exact r_iret C dX5_kindOfKick_79 rfl rfl (xk0 hm) (xn0 hm)
set_option maxRecDepth 100000 in
set_option maxHeartbeats 4000000 in
theorem c_X5_kindOfKick {g : Gw} {l : Launch} {b : Nat} (hb : b < 3) (p1 : Int32) (p2 : Int32) (M : Mw) : Kw g l yX5_kindOfKick cX5_kindOfKick 5 (some .int) 2 0 0 [.ref (gA g 23 b 0), .int p1, .int p2] M (fun v : Int32 => (some (.int v), M)) (F_X5_kindOfKick b p1 p2 M) := by
  refine Kw.of (own := RX5) (lv0 := [(0, .ref (gA g 23 b 0)), (1, .int p1), (2, .int p2)]) (by decide +kernel) rfl (Nat.le_of_ble_eq_true rfl) rfl (fun x C hl hm => ?_)
  subst hl
  unfold F_X5_kindOfKick
  refine r_aload_n C 0 dX5_kindOfKick_0 rfl rfl ?_
  refine gf_23_1 C dX5_kindOfKick_1 u_331 (in_23 hb) ?_
  refine r_iload_n C 1 dX5_kindOfKick_4 rfl rfl ?_
  refine r_aald (t0 := 7) (ty := .object "WatchStack$TaskState") C dX5_kindOfKick_5 (in_24 hb) (contW_24 g _ _ _ _ _) rfl rfl (fun h1 => ?_)
  refine r_astore_n (lv' := [(3, .ref (gA g 25 b p1.toNatClampNeg)), (0, .ref (gA g 23 b 0)), (1, .int p1), (2, .int p2)]) C dX5_kindOfKick_6 rfl (by decide) rfl ?_
  refine r_iload_n C 3 dX5_kindOfKick_7 rfl rfl ?_
  refine r_if_eq (tgt := 13) C dX5_kindOfKick_8 (by decide) (fun h2 => ?_) (fun h2 => ?_)
  · refine r_aload_n C 1 dX5_kindOfKick_13 rfl rfl ?_
    refine gf_23_0 C dX5_kindOfKick_14 u_328 (in_23 hb) ?_
    refine r_iload_n C 2 dX5_kindOfKick_17 rfl rfl ?_
    refine r_aload_n C 0 dX5_kindOfKick_18 rfl rfl ?_
    refine r_callVRi (rest := [.int p1, .ref (gA g 0 (b + 5) 0)]) C (c_X7_job hb (inb_lt h1) M) dX5_kindOfKick_19 u_587 (in_25 hb (inb_lt h1)) (contW_25 g _ _ _ _ _) rfl u_588 u_589 mi_X7_job (by decide) rfl rfl (Nat.le_of_ble_eq_true rfl) (xk1 hm (by decide)) (xn1 hm (by decide)) (fun v3 h4 => ?_)
    refine r_iconst (v := (-1)) C dX5_kindOfKick_22 (by decide) ?_
    refine r_callVRi (rest := []) C (c_X0_changeAt (lt85 hb) p1 v3 (-1) M) dX5_kindOfKick_23 u_591 (in_0 (lt85 hb)) (contW_0 g _ _ _ _ _) rfl u_592 u_593 mi_X0_changeAt (by decide) rfl rfl (Nat.le_of_ble_eq_true rfl) (xk1 hm (by decide)) (xn1 hm (by decide)) (fun v5 h6 => ?_)
    refine r_iconst (v := 4) C dX5_kindOfKick_26 (by decide) ?_
    refine r_icmp_ne (tgt := 32) C dX5_kindOfKick_27 (by decide) (fun h7 => ?_) (fun h7 => ?_)
    · refine r_iconst (v := 4) C dX5_kindOfKick_30 (by decide) ?_
      exact r_iret C dX5_kindOfKick_31 rfl rfl (xk0 hm) (xn0 hm)
    · refine r_aload_n C 0 dX5_kindOfKick_32 rfl rfl ?_
      refine r_aload_n C 1 dX5_kindOfKick_33 rfl rfl ?_
      refine gf_23_6 C dX5_kindOfKick_34 u_341 (in_23 hb) ?_
      refine r_callVRi (rest := []) C (c_X7_gapAt hb (inb_lt h1) (M.1 23 b 0 6) M) dX5_kindOfKick_37 u_619 (in_25 hb (inb_lt h1)) (contW_25 g _ _ _ _ _) rfl u_620 u_621 mi_X7_gapAt (by decide) rfl rfl (Nat.le_of_ble_eq_true rfl) (xk1 hm (by decide)) (xn1 hm (by decide)) (fun v8 h9 => ?_)
      refine r_aload_n C 1 dX5_kindOfKick_40 rfl rfl ?_
      refine gf_23_0 C dX5_kindOfKick_41 u_328 (in_23 hb) ?_
      refine gf_0_10 C dX5_kindOfKick_44 u_223 (in_0 (lt85 hb)) ?_
      refine r_iload_n C 2 dX5_kindOfKick_47 rfl rfl ?_
      refine r_aald (t0 := 5) (ty := .array .int) C dX5_kindOfKick_48 (in_3 (lt85 hb)) (contW_3 g _ _ _ _ _) rfl rfl (fun h10 => ?_)
      refine r_iconst (v := 2) C dX5_kindOfKick_49 (by decide) ?_
      refine r_ialdc C dX5_kindOfKick_50 (in_4 (lt85 hb) (inb_lt h10)) (contW_4 g _ _ _ _ _) (by decide) (j := 2) (by decide) ?_
      refine r_icmp_ge (tgt := 58) C dX5_kindOfKick_51 (by decide) (fun h11 => ?_) (fun h11 => ?_)
      · refine r_iconst (v := 0) C dX5_kindOfKick_58 (by decide) ?_
        refine r_lv [0] rfl ?_
        exact t_X5_kindOfKick_59 C hm hb M p1.toNatClampNeg 0 (inb_lt h1)
      · refine r_iconst (v := 1) C dX5_kindOfKick_54 (by decide) ?_
        refine r_goto (tgt := 59) C dX5_kindOfKick_55 (by decide) ?_
        refine r_lv [0] rfl ?_
        exact t_X5_kindOfKick_59 C hm hb M p1.toNatClampNeg 1 (inb_lt h1)
  · refine r_iconst (v := 3) C dX5_kindOfKick_11 (by decide) ?_
    exact r_iret C dX5_kindOfKick_12 rfl rfl (xk0 hm) (xn0 hm)
def F_X7_suffer (b : Nat) (i : Nat) (M : Mw) : Option (Mw) :=
  (bd (uIw M 25 b i 7 ((M.1 25 b i 7) + 1)) (fun M1 => (if nf (FP.fdiv (M1.2.1 25 b i 11) FP.fconst2) then (bd (uFw M1 25 b i 11 (FP.fdiv (M1.2.1 25 b i 11) FP.fconst2)) (fun M2 => (bd (uIw M2 25 b i 8 0) (fun M3 => (bd (uIw M3 25 b i 9 1) (fun M4 => some M4)))))) else none)))
set_option maxRecDepth 100000 in
set_option maxHeartbeats 4000000 in
theorem c_X7_suffer {g : Gw} {l : Launch} {b : Nat} (hb : b < 3) {i : Nat} (hi : i < 5) (M : Mw) : Kw g l yX7_suffer cX7_suffer 1 none 1 0 0 [.ref (gA g 25 b i)] M (fun M : Mw => (none, M)) (F_X7_suffer b i M) := by
  refine Kw.of (own := RX7) (lv0 := [(0, .ref (gA g 25 b i))]) (by decide +kernel) rfl (Nat.le_of_ble_eq_true rfl) rfl (fun x C hl hm => ?_)
  subst hl
  unfold F_X7_suffer
  refine r_aload_n C 0 dX7_suffer_0 rfl rfl ?_
  refine r_dup C rfl dX7_suffer_1 ?_
  refine gf_25_7 C dX7_suffer_2 u_308 (in_25 hb hi) ?_
  refine r_iconst (v := 1) C dX7_suffer_5 (by decide) ?_
  refine r_iadd C dX7_suffer_6 ?_
  refine pf_25_7 C dX7_suffer_7 u_308 (in_25 hb hi) (fun M1 => ?_)
  refine r_aload_n C 0 dX7_suffer_10 rfl rfl ?_
  refine r_aload_n C 0 dX7_suffer_11 rfl rfl ?_
  refine gf_25_11 C dX7_suffer_12 u_315 (in_25 hb hi) ?_
  refine r_fconst2 C dX7_suffer_15 ?_
  refine r_fdiv C dX7_suffer_16 ?_
  refine pf_25_11 C dX7_suffer_17 u_315 (in_25 hb hi) (fun M2 => ?_)
  refine r_aload_n C 0 dX7_suffer_20 rfl rfl ?_
  refine r_iconst (v := 0) C dX7_suffer_21 (by decide) ?_
  refine pf_25_8 C dX7_suffer_22 u_311 (in_25 hb hi) (fun M3 => ?_)
  refine r_aload_n C 0 dX7_suffer_25 rfl rfl ?_
  refine r_iconst (v := 1) C dX7_suffer_26 (by decide) ?_
  refine pc_25_9 C dX7_suffer_27 u_312 (in_25 hb hi) (by decide) (fun M4 => ?_)
  exact r_vret C dX7_suffer_30 rfl rfl (xk0 hm) (xn0 hm)
def F_X4_add (b : Nat) (p1 : Int32) (p2 : Int32) (p3 : Int32) (p4 : Int32) (M : Mw) : Option (Mw) :=
  (if (M.1 26 b 0 1) < 128 then (if inb (M.1 26 b 0 1) 128 then (bd (uIw M 28 b ((M.1 26 b 0 1).toNatClampNeg) 0 p1) (fun M3 => (bd (uIw M3 28 b ((M.1 26 b 0 1).toNatClampNeg) 1 p2) (fun M4 => (bd (uIw M4 28 b ((M.1 26 b 0 1).toNatClampNeg) 2 p3) (fun M5 => (bd (uIw M5 28 b ((M.1 26 b 0 1).toNatClampNeg) 3 p4) (fun M6 => (bd (uIw M6 26 b 0 1 ((M6.1 26 b 0 1) + 1)) (fun M7 => some M7)))))))))) else none) else some M)
set_option maxRecDepth 100000 in
set_option maxHeartbeats 4000000 in
theorem c_X4_add {g : Gw} {l : Launch} {b : Nat} (hb : b < 3) (p1 : Int32) (p2 : Int32) (p3 : Int32) (p4 : Int32) (M : Mw) : Kw g l yX4_add cX4_add 6 none 1 0 0 [.ref (gA g 26 b 0), .int p1, .int p2, .int p3, .int p4] M (fun M : Mw => (none, M)) (F_X4_add b p1 p2 p3 p4 M) := by
  refine Kw.of (own := RX4) (lv0 := [(0, .ref (gA g 26 b 0)), (1, .int p1), (2, .int p2), (3, .int p3), (4, .int p4)]) (by decide +kernel) rfl (Nat.le_of_ble_eq_true rfl) rfl (fun x C hl hm => ?_)
  subst hl
  unfold F_X4_add
  refine r_aload_n C 0 dX4_add_0 rfl rfl ?_
  refine gf_26_1 C dX4_add_1 u_283 (in_26 hb) ?_
  refine r_sipush (v := 128) C dX4_add_4 (by decide) ?_
  refine r_icmp_lt (tgt := 11) C dX4_add_7 (by decide) (fun h1 => ?_) (fun h1 => ?_)
  · refine r_aload_n C 0 dX4_add_11 rfl rfl ?_
    refine gf_26_0 C dX4_add_12 u_281 (in_26 hb) ?_
    refine r_aload_n C 0 dX4_add_15 rfl rfl ?_
    refine gf_26_1 C dX4_add_16 u_283 (in_26 hb) ?_
    refine r_aald (t0 := 5) (ty := .array .int) C dX4_add_19 (in_27 hb) (contW_27 g _ _ _ _ _) rfl rfl (fun h2 => ?_)
    refine r_astore (lv' := [(5, .ref (gA g 28 b ((M.1 26 b 0 1).toNatClampNeg))), (0, .ref (gA g 26 b 0)), (1, .int p1), (2, .int p2), (3, .int p3), (4, .int p4)]) C dX4_add_20 (by decide) rfl ?_
    refine r_aload C 0 dX4_add_22 rfl ?_
    refine r_iconst (v := 0) C dX4_add_24 (by decide) ?_
    refine r_iload_n C 2 dX4_add_25 rfl rfl ?_
    refine r_iastc C dX4_add_26 (in_28 hb (inb_lt h2)) (contW_28 g _ _) (by decide) (j := 0) (by decide) (fun M3 => ?_)
    refine r_aload C 0 dX4_add_27 rfl ?_
    refine r_iconst (v := 1) C dX4_add_29 (by decide) ?_
    refine r_iload_n C 3 dX4_add_30 rfl rfl ?_
    refine r_iastc C dX4_add_31 (in_28 hb (inb_lt h2)) (contW_28 g _ _) (by decide) (j := 1) (by decide) (fun M4 => ?_)
    refine r_aload C 0 dX4_add_32 rfl ?_
    refine r_iconst (v := 2) C dX4_add_34 (by decide) ?_
    refine r_iload_n C 4 dX4_add_35 rfl rfl ?_
    refine r_iastc C dX4_add_36 (in_28 hb (inb_lt h2)) (contW_28 g _ _) (by decide) (j := 2) (by decide) (fun M5 => ?_)
    refine r_aload C 0 dX4_add_37 rfl ?_
    refine r_iconst (v := 3) C dX4_add_39 (by decide) ?_
    refine r_iload C 5 dX4_add_40 rfl ?_
    refine r_iastc C dX4_add_42 (in_28 hb (inb_lt h2)) (contW_28 g _ _) (by decide) (j := 3) (by decide) (fun M6 => ?_)
    refine r_aload_n C 1 dX4_add_43 rfl rfl ?_
    refine r_dup C rfl dX4_add_44 ?_
    refine gf_26_1 C dX4_add_45 u_283 (in_26 hb) ?_
    refine r_iconst (v := 1) C dX4_add_48 (by decide) ?_
    refine r_iadd C dX4_add_49 ?_
    refine pf_26_1 C dX4_add_50 u_283 (in_26 hb) (fun M7 => ?_)
    exact r_vret C dX4_add_53 rfl rfl (xk0 hm) (xn0 hm)
  · exact r_vret C dX4_add_10 rfl rfl (xk0 hm) (xn0 hm)
def F_X0_isAtOrBelow (b : Nat) (p1 : Int32) (p2 : Int32) (M : Mw) : Option (Int32) :=
  (if inb p2 3 then (if ((M.1 2 b 0 p2.toNatClampNeg) &&& (1 <<< (p1 &&& 31))) = 0 then some 0 else some 1) else none)
set_option maxRecDepth 100000 in
set_option maxHeartbeats 4000000 in
theorem c_X0_isAtOrBelow {g : Gw} {l : Launch} {b : Nat} (hb : b < 8) (p1 : Int32) (p2 : Int32) (M : Mw) : Kw g l yX0_isAtOrBelow cX0_isAtOrBelow 3 (some .boolean) 1 0 0 [.ref (gA g 0 b 0), .int p1, .int p2] M (fun v : Int32 => (some (.int v), M)) (F_X0_isAtOrBelow b p1 p2 M) := by
  refine Kw.of (own := RX0) (lv0 := [(0, .ref (gA g 0 b 0)), (1, .int p1), (2, .int p2)]) (by decide +kernel) rfl (Nat.le_of_ble_eq_true rfl) rfl (fun x C hl hm => ?_)
  subst hl
  unfold F_X0_isAtOrBelow
  refine r_aload_n C 0 dX0_isAtOrBelow_0 rfl rfl ?_
  refine gf_0_9 C dX0_isAtOrBelow_1 u_217 (in_0 hb) ?_
  refine r_iload_n C 2 dX0_isAtOrBelow_4 rfl rfl ?_
  refine r_iald C dX0_isAtOrBelow_5 (in_2 hb) (contW_2 g _ _ _ _ _) (fun h1 => ?_)
  refine r_iconst (v := 1) C dX0_isAtOrBelow_6 (by decide) ?_
  refine r_iload_n C 1 dX0_isAtOrBelow_7 rfl rfl ?_
  refine r_ishl C dX0_isAtOrBelow_8 ?_
  refine r_iand C dX0_isAtOrBelow_9 ?_
  refine r_if_eq (tgt := 17) C dX0_isAtOrBelow_10 (by decide) (fun h2 => ?_) (fun h2 => ?_)
  · refine r_iconst (v := 0) C dX0_isAtOrBelow_17 (by decide) ?_
    exact r_zretc C dX0_isAtOrBelow_18 rfl bz0 rfl (xk0 hm) (xn0 hm)
  · refine r_iconst (v := 1) C dX0_isAtOrBelow_13 (by decide) ?_
    refine r_goto (tgt := 18) C dX0_isAtOrBelow_14 (by decide) ?_
    exact r_zretc C dX0_isAtOrBelow_18 rfl bz1 rfl (xk0 hm) (xn0 hm)
def F_X5_endTickByReset (b : Nat) (M : Mw) : Option (Mw) :=
  (bd (uIw M 23 b 0 8 1) (fun M1 => (bd (uIw M1 23 b 0 7 ((M1.1 23 b 0 7) + 1)) (fun M2 => (if (M2.1 23 b 0 7) = 3 then (bd (uIw M2 23 b 0 5 (M2.1 23 b 0 6)) (fun M4 => some M4)) else some M2)))))
set_option maxRecDepth 100000 in
set_option maxHeartbeats 4000000 in
theorem c_X5_endTickByReset {g : Gw} {l : Launch} {b : Nat} (hb : b < 3) (M : Mw) : Kw g l yX5_endTickByReset cX5_endTickByReset 1 none 1 0 0 [.ref (gA g 23 b 0)] M (fun M : Mw => (none, M)) (F_X5_endTickByReset b M) := by
  refine Kw.of (own := RX5) (lv0 := [(0, .ref (gA g 23 b 0))]) (by decide +kernel) rfl (Nat.le_of_ble_eq_true rfl) rfl (fun x C hl hm => ?_)
  subst hl
  unfold F_X5_endTickByReset
  refine r_aload_n C 0 dX5_endTickByReset_0 rfl rfl ?_
  refine r_iconst (v := 1) C dX5_endTickByReset_1 (by decide) ?_
  refine pc_23_8 C dX5_endTickByReset_2 u_343 (in_23 hb) (by decide) (fun M1 => ?_)
  refine r_aload_n C 0 dX5_endTickByReset_5 rfl rfl ?_
  refine r_dup C rfl dX5_endTickByReset_6 ?_
  refine gf_23_7 C dX5_endTickByReset_7 u_342 (in_23 hb) ?_
  refine r_iconst (v := 1) C dX5_endTickByReset_10 (by decide) ?_
  refine r_iadd C dX5_endTickByReset_11 ?_
  refine pf_23_7 C dX5_endTickByReset_12 u_342 (in_23 hb) (fun M2 => ?_)
  refine r_aload_n C 0 dX5_endTickByReset_15 rfl rfl ?_
  refine gf_23_7 C dX5_endTickByReset_16 u_342 (in_23 hb) ?_
  refine r_iconst (v := 3) C dX5_endTickByReset_19 (by decide) ?_
  refine r_icmp_ne (tgt := 31) C dX5_endTickByReset_20 (by decide) (fun h3 => ?_) (fun h3 => ?_)
  · refine r_aload_n C 0 dX5_endTickByReset_23 rfl rfl ?_
    refine r_aload_n C 0 dX5_endTickByReset_24 rfl rfl ?_
    refine gf_23_6 C dX5_endTickByReset_25 u_341 (in_23 hb) ?_
    refine pf_23_5 C dX5_endTickByReset_28 u_339 (in_23 hb) (fun M4 => ?_)
    exact r_vret C dX5_endTickByReset_31 rfl rfl (xk0 hm) (xn0 hm)
  · exact r_vret C dX5_endTickByReset_31 rfl rfl (xk0 hm) (xn0 hm)
def B_X5_climb_153 (b : Nat) (k118 : Int32 → Mw → Option (Mw)) (l1 : Int32) (l3 : Int32) (l4 : Int32) (M : Mw) : Option (Mw) :=
  (if inb l4 3 then (bd (uIw M 33 b 0 l4.toNatClampNeg (M.1 23 b 0 6)) (fun M7 => (bd (l4 + 1) (fun v9 => (k118 v9 M7))))) else none)
def B_X5_climb_118 (b : Nat) (l1 : Int32) (l3 : Int32) (k118 : Int32 → Mw → Option (Mw)) (l4 : Int32) (M : Mw) : Option (Mw) :=
  (if (M.1 0 (b + 5) 0 4) ≤ l4 then (if l1 = 3 then ((F_X5_endTickByReset b M).bind (fun M4 => some M4)) else some M) else (if l1 = 3 then (B_X5_climb_153 b k118 l1 l3 l4 M) else (if l1 = 2 then ((F_X0_isAtOrBelow (b + 5) l4 l3 M).bind (fun v12 => (if v12 = 0 then (bd (l4 + 1) (fun v15 => (k118 v15 M))) else (B_X5_climb_153 b k118 l1 l3 l4 M)))) else (bd (l4 + 1) (fun v11 => (k118 v11 M))))))
def B_X5_climb_69 (b : Nat) (k3 : Int32 → Mw → Option (Mw)) (l1 : Int32) (l2 : Int32) (l3 : Int32) (l4 : Int32) (M : Mw) : Option (Mw) :=
  (if inb l4 5 then (bd (if 1 < (M.1 4 (b + 5) l4.toNatClampNeg 1) then (M.1 4 (b + 5) l4.toNatClampNeg 1) else 1) (fun v20 => (if inb l4 5 then (if v20 = 0 then none else ((F_X7_restartAt b l4.toNatClampNeg ((((M.1 23 b 0 6) / v20) + 1) * v20) M).bind (fun M23 => (bd (l4 + 1) (fun v25 => (k3 v25 M23)))))) else none))) else none)
def B_X5_climb_63 (b : Nat) (k3 : Int32 → Mw → Option (Mw)) (l1 : Int32) (l2 : Int32) (l3 : Int32) (l4 : Int32) (M : Mw) : Option (Mw) :=
  (if l4 = l2 then (B_X5_climb_69 b k3 l1 l2 l3 l4 M) else (bd (l4 + 1) (fun v29 => (k3 v29 M))))
def B_X5_climb_52 (b : Nat) (k3 : Int32 → Mw → Option (Mw)) (l1 : Int32) (l2 : Int32) (l3 : Int32) (l4 : Int32) (l5 : Int32) (M : Mw) : Option (Mw) :=
  (if l1 = 1 then (if l5 = l3 then (B_X5_climb_69 b k3 l1 l2 l3 l4 M) else (B_X5_climb_63 b k3 l1 l2 l3 l4 M)) else (B_X5_climb_63 b k3 l1 l2 l3 l4 M))
def B_X5_climb_3 (b : Nat) (l1 : Int32) (l2 : Int32) (l3 : Int32) (k3 : Int32 → Mw → Option (Mw)) (l4 : Int32) (M : Mw) : Option (Mw) :=
  (if (M.1 0 (b + 5) 0 5) ≤ l4 then (it (fun _ _ => none) (B_X5_climb_118 b l1 l3) FU 0 M) else (if inb l4 5 then (bd (M.1 4 (b + 5) l4.toNatClampNeg 0) (fun v17 => (if l1 = 3 then (B_X5_climb_69 b k3 l1 l2 l3 l4 M) else (if l1 = 2 then ((F_X0_isAtOrBelow (b + 5) v17 l3 M).bind (fun v31 => (if v31 = 0 then (B_X5_climb_52 b k3 l1 l2 l3 l4 v17 M) else (B_X5_climb_69 b k3 l1 l2 l3 l4 M)))) else (B_X5_climb_52 b k3 l1 l2 l3 l4 v17 M))))) else none))
def F_X5_climb (b : Nat) (p1 : Int32) (p2 : Int32) (p3 : Int32) (M : Mw) : Option (Mw) :=
  (it (fun _ _ => none) (B_X5_climb_3 b p1 p2 p3) FU 0 M)
set_option maxRecDepth 100000 in
set_option maxHeartbeats 4000000 in
theorem t_X5_climb_153 {g : Gw} {x : Xw} (C : Cw g x cX5_climb RX5 7 none 2) (hm : x.2.2.2.2.2.2.2.2.2.2.2 = (0, 0)) {b : Nat} (hb : b < 3) (k118 : Int32 → Mw → Option (Mw)) (l1 : Int32) (l3 : Int32) (l4 : Int32) (hk118 : ∀ (l4 : Int32) (M : Mw), Sw g x (fun M : Mw => (none, M)) M 0 0 118 [(0, .ref (gA g 23 b 0)), (1, .int l1), (3, .int l3), (4, .int l4)] [] (k118 l4 M)) (M : Mw) : Sw g x (fun M : Mw => (none, M)) M 0 0 153 [(0, .ref (gA g 23 b 0)), (1, .int l1), (3, .int l3), (4, .int l4)] [] (B_X5_climb_153 b k118 l1 l3 l4 M) := by
  unfold B_X5_climb_153
  refine r_aload_n C 0 dX5_climb_153 rfl rfl ?_
  refine gf_23_13 C dX5_climb_154 u_348 (in_23 hb) ?_
  refine r_iload C 3 dX5_climb_157 rfl ?_
  refine r_aload_n C 0 dX5_climb_159 rfl rfl ?_
  refine gf_23_6 C dX5_climb_160 u_341 (in_23 hb) ?_
  refine r_iast C dX5_climb_163 (in_33 hb) (contW_33 g _ _) (fun M7 h8 => ?_)
  refine r_iinc (c := 1) (lv' := fun v9 => [(4, .int v9), (0, .ref (gA g 23 b 0)), (1, .int l1), (3, .int l3)]) C 3 dX5_climb_164 rfl (by decide) (by decide) (fun _ => rfl) (fun v9 => ?_)
  refine r_goto (tgt := 118) C dX5_climb_167 (by decide) ?_
  refine r_lv [1, 2, 3, 0] rfl ?_
  exact hk118 v9 M7
set_option maxRecDepth 100000 in
set_option maxHeartbeats 4000000 in
theorem t_X5_climb_118 {g : Gw} {x : Xw} (C : Cw g x cX5_climb RX5 7 none 2) (hm : x.2.2.2.2.2.2.2.2.2.2.2 = (0, 0)) {b : Nat} (hb : b < 3) (l1 : Int32) (l3 : Int32) (k118 : Int32 → Mw → Option (Mw)) (hk118 : ∀ (l4 : Int32) (M : Mw), Sw g x (fun M : Mw => (none, M)) M 0 0 118 [(0, .ref (gA g 23 b 0)), (1, .int l1), (3, .int l3), (4, .int l4)] [] (k118 l4 M)) (l4 : Int32) (M : Mw) : Sw g x (fun M : Mw => (none, M)) M 0 0 118 [(0, .ref (gA g 23 b 0)), (1, .int l1), (3, .int l3), (4, .int l4)] [] (B_X5_climb_118 b l1 l3 k118 l4 M) := by
  unfold B_X5_climb_118
  refine r_iload C 3 dX5_climb_118 rfl ?_
  refine r_aload_n C 0 dX5_climb_120 rfl rfl ?_
  refine gf_23_0 C dX5_climb_121 u_328 (in_23 hb) ?_
  refine gf_0_4 C dX5_climb_124 u_198 (in_0 (lt85 hb)) ?_
  refine r_icmp_ge (tgt := 170) C dX5_climb_127 (by decide) (fun h2 => ?_) (fun h2 => ?_)
  · refine r_iload_n C 1 dX5_climb_170 rfl rfl ?_
    refine r_iconst (v := 3) C dX5_climb_171 (by decide) ?_
    refine r_icmp_ne (tgt := 179) C dX5_climb_172 (by decide) (fun h3 => ?_) (fun h3 => ?_)
    · refine r_aload_n C 0 dX5_climb_175 rfl rfl ?_
      refine r_callVU (rest := []) C (c_X5_endTickByReset hb M) dX5_climb_176 u_645 (in_23 hb) (contW_23 g _ _ _ _ _) rfl u_646 u_27 mi_X5_endTickByReset (by decide) rfl rfl (Nat.le_of_ble_eq_true rfl) (xk1 hm (by decide)) (xn1 hm (by decide)) (fun M4 h5 => ?_)
      exact r_vret C dX5_climb_179 rfl rfl (xk0 hm) (xn0 hm)
    · exact r_vret C dX5_climb_179 rfl rfl (xk0 hm) (xn0 hm)
  · refine r_iload_n C 1 dX5_climb_130 rfl rfl ?_
    refine r_iconst (v := 3) C dX5_climb_131 (by decide) ?_
    refine r_icmp_eq (tgt := 153) C dX5_climb_132 (by decide) (fun h6 => ?_) (fun h6 => ?_)
    · exact t_X5_climb_153 C hm hb k118 l1 l3 l4 hk118 M
    · refine r_iload_n C 1 dX5_climb_135 rfl rfl ?_
      refine r_iconst (v := 2) C dX5_climb_136 (by decide) ?_
      refine r_icmp_ne (tgt := 164) C dX5_climb_137 (by decide) (fun h10 => ?_) (fun h10 => ?_)
      · refine r_aload_n C 0 dX5_climb_140 rfl rfl ?_
        refine gf_23_0 C dX5_climb_141 u_328 (in_23 hb) ?_
        refine r_iload C 3 dX5_climb_144 rfl ?_
        refine r_iload_n C 2 dX5_climb_146 rfl rfl ?_
        refine r_callVRi (rest := []) C (c_X0_isAtOrBelow (lt85 hb) l4 l3 M) dX5_climb_147 u_639 (in_0 (lt85 hb)) (contW_0 g _ _ _ _ _) rfl u_640 u_641 mi_X0_isAtOrBelow (by decide) rfl rfl (Nat.le_of_ble_eq_true rfl) (xk1 hm (by decide)) (xn1 hm (by decide)) (fun v12 h13 => ?_)
        refine r_if_eq (tgt := 164) C dX5_climb_150 (by decide) (fun h14 => ?_) (fun h14 => ?_)
        · refine r_iinc (c := 1) (lv' := fun v15 => [(4, .int v15), (0, .ref (gA g 23 b 0)), (1, .int l1), (3, .int l3)]) C 3 dX5_climb_164 rfl (by decide) (by decide) (fun _ => rfl) (fun v15 => ?_)
          refine r_goto (tgt := 118) C dX5_climb_167 (by decide) ?_
          refine r_lv [1, 2, 3, 0] rfl ?_
          exact hk118 v15 M
        · exact t_X5_climb_153 C hm hb k118 l1 l3 l4 hk118 M
      · refine r_iinc (c := 1) (lv' := fun v11 => [(4, .int v11), (0, .ref (gA g 23 b 0)), (1, .int l1), (3, .int l3)]) C 3 dX5_climb_164 rfl (by decide) (by decide) (fun _ => rfl) (fun v11 => ?_)
        refine r_goto (tgt := 118) C dX5_climb_167 (by decide) ?_
        refine r_lv [1, 2, 3, 0] rfl ?_
        exact hk118 v11 M
set_option maxRecDepth 100000 in
set_option maxHeartbeats 4000000 in
theorem tl_X5_climb_118 {g : Gw} {x : Xw} (C : Cw g x cX5_climb RX5 7 none 2) (hm : x.2.2.2.2.2.2.2.2.2.2.2 = (0, 0)) {b : Nat} (hb : b < 3) (l1 : Int32) (l3 : Int32) (n : Nat) : ∀ (l4 : Int32) (M : Mw), Sw g x (fun M : Mw => (none, M)) M 0 0 118 [(0, .ref (gA g 23 b 0)), (1, .int l1), (3, .int l3), (4, .int l4)] [] (it (fun _ _ => none) (B_X5_climb_118 b l1 l3) n l4 M) := by
  induction n with
  | zero =>
    intro l4 M
    exact r_none
  | succ n ih =>
    intro l4 M
    exact t_X5_climb_118 C hm hb l1 l3 _ ih l4 M
set_option maxRecDepth 100000 in
set_option maxHeartbeats 4000000 in
theorem t_X5_climb_69 {g : Gw} {x : Xw} (C : Cw g x cX5_climb RX5 7 none 2) (hm : x.2.2.2.2.2.2.2.2.2.2.2 = (0, 0)) {b : Nat} (hb : b < 3) (k3 : Int32 → Mw → Option (Mw)) (l1 : Int32) (l2 : Int32) (l3 : Int32) (l4 : Int32) (hk3 : ∀ (l4 : Int32) (M : Mw), Sw g x (fun M : Mw => (none, M)) M 0 0 3 [(0, .ref (gA g 23 b 0)), (1, .int l1), (2, .int l2), (3, .int l3), (4, .int l4)] [] (k3 l4 M)) (M : Mw) : Sw g x (fun M : Mw => (none, M)) M 0 0 69 [(0, .ref (gA g 23 b 0)), (1, .int l1), (2, .int l2), (3, .int l3), (4, .int l4)] [] (B_X5_climb_69 b k3 l1 l2 l3 l4 M) := by
  unfold B_X5_climb_69
  refine r_iconst (v := 1) C dX5_climb_69 (by decide) ?_
  refine r_aload_n C 0 dX5_climb_70 rfl rfl ?_
  refine gf_23_0 C dX5_climb_71 u_328 (in_23 hb) ?_
  refine gf_0_10 C dX5_climb_74 u_223 (in_0 (lt85 hb)) ?_
  refine r_iload C 4 dX5_climb_77 rfl ?_
  refine r_aald (t0 := 5) (ty := .array .int) C dX5_climb_79 (in_3 (lt85 hb)) (contW_3 g _ _ _ _ _) rfl rfl (fun h19 => ?_)
  refine r_iconst (v := 1) C dX5_climb_80 (by decide) ?_
  refine r_ialdc C dX5_climb_81 (in_4 (lt85 hb) (inb_lt h19)) (contW_4 g _ _ _ _ _) (by decide) (j := 1) (by decide) ?_
  refine r_mmax C u_643 u_542 u_140 u_543 dX5_climb_82 (by decide) (Nat.le_of_ble_eq_true rfl) (xk1 hm (by decide)) (xn1 hm (by decide)) ?_
  refine r_istore (lv' := fun v20 => [(6, .int v20), (0, .ref (gA g 23 b 0)), (1, .int l1), (2, .int l2), (3, .int l3), (4, .int l4)]) C dX5_climb_85 (by decide) (fun _ => rfl) (fun v20 => ?_)
  refine r_aload_n C 1 dX5_climb_87 rfl rfl ?_
  refine gf_23_1 C dX5_climb_88 u_331 (in_23 hb) ?_
  refine r_iload C 5 dX5_climb_91 rfl ?_
  refine r_aald (t0 := 7) (ty := .object "WatchStack$TaskState") C dX5_climb_93 (in_24 hb) (contW_24 g _ _ _ _ _) rfl rfl (fun h21 => ?_)
  refine r_aload_n C 1 dX5_climb_94 rfl rfl ?_
  refine gf_23_6 C dX5_climb_95 u_341 (in_23 hb) ?_
  refine r_iload C 0 dX5_climb_98 rfl ?_
  refine r_idiv C dX5_climb_100 (fun h22 => ?_)
  refine r_iconst (v := 1) C dX5_climb_101 (by decide) ?_
  refine r_iadd C dX5_climb_102 ?_
  refine r_iload C 0 dX5_climb_103 rfl ?_
  refine r_imul C dX5_climb_105 ?_
  refine r_callVU (rest := []) C (c_X7_restartAt hb (inb_lt h21) ((((M.1 23 b 0 6) / v20) + 1) * v20) M) dX5_climb_106 u_644 (in_25 hb (inb_lt h21)) (contW_25 g _ _ _ _ _) rfl u_567 u_568 mi_X7_restartAt (by decide) rfl rfl (Nat.le_of_ble_eq_true rfl) (xk1 hm (by decide)) (xn1 hm (by decide)) (fun M23 h24 => ?_)
  refine r_iinc (c := 1) (lv' := fun v25 => [(4, .int v25), (6, .int v20), (0, .ref (gA g 23 b 0)), (1, .int l1), (2, .int l2), (3, .int l3)]) C 5 dX5_climb_109 rfl (by decide) (by decide) (fun _ => rfl) (fun v25 => ?_)
  refine r_goto (tgt := 3) C dX5_climb_112 (by decide) ?_
  refine r_lv [2, 3, 4, 5, 0] rfl ?_
  exact hk3 v25 M23
set_option maxRecDepth 100000 in
set_option maxHeartbeats 4000000 in
theorem t_X5_climb_63 {g : Gw} {x : Xw} (C : Cw g x cX5_climb RX5 7 none 2) (hm : x.2.2.2.2.2.2.2.2.2.2.2 = (0, 0)) {b : Nat} (hb : b < 3) (k3 : Int32 → Mw → Option (Mw)) (l1 : Int32) (l2 : Int32) (l3 : Int32) (l4 : Int32) (hk3 : ∀ (l4 : Int32) (M : Mw), Sw g x (fun M : Mw => (none, M)) M 0 0 3 [(0, .ref (gA g 23 b 0)), (1, .int l1), (2, .int l2), (3, .int l3), (4, .int l4)] [] (k3 l4 M)) (M : Mw) : Sw g x (fun M : Mw => (none, M)) M 0 0 63 [(0, .ref (gA g 23 b 0)), (1, .int l1), (2, .int l2), (3, .int l3), (4, .int l4)] [] (B_X5_climb_63 b k3 l1 l2 l3 l4 M) := by
  unfold B_X5_climb_63
  refine r_iload C 4 dX5_climb_63 rfl ?_
  refine r_iload_n C 2 dX5_climb_65 rfl rfl ?_
  refine r_icmp_ne (tgt := 109) C dX5_climb_66 (by decide) (fun h28 => ?_) (fun h28 => ?_)
  · exact t_X5_climb_69 C hm hb k3 l1 l2 l3 l4 hk3 M
  · refine r_iinc (c := 1) (lv' := fun v29 => [(4, .int v29), (0, .ref (gA g 23 b 0)), (1, .int l1), (2, .int l2), (3, .int l3)]) C 4 dX5_climb_109 rfl (by decide) (by decide) (fun _ => rfl) (fun v29 => ?_)
    refine r_goto (tgt := 3) C dX5_climb_112 (by decide) ?_
    refine r_lv [1, 2, 3, 4, 0] rfl ?_
    exact hk3 v29 M
set_option maxRecDepth 100000 in
set_option maxHeartbeats 4000000 in
theorem t_X5_climb_52 {g : Gw} {x : Xw} (C : Cw g x cX5_climb RX5 7 none 2) (hm : x.2.2.2.2.2.2.2.2.2.2.2 = (0, 0)) {b : Nat} (hb : b < 3) (k3 : Int32 → Mw → Option (Mw)) (l1 : Int32) (l2 : Int32) (l3 : Int32) (l4 : Int32) (l5 : Int32) (hk3 : ∀ (l4 : Int32) (M : Mw), Sw g x (fun M : Mw => (none, M)) M 0 0 3 [(0, .ref (gA g 23 b 0)), (1, .int l1), (2, .int l2), (3, .int l3), (4, .int l4)] [] (k3 l4 M)) (M : Mw) : Sw g x (fun M : Mw => (none, M)) M 0 0 52 [(0, .ref (gA g 23 b 0)), (1, .int l1), (2, .int l2), (3, .int l3), (4, .int l4), (5, .int l5)] [] (B_X5_climb_52 b k3 l1 l2 l3 l4 l5 M) := by
  unfold B_X5_climb_52
  refine r_iload_n C 1 dX5_climb_52 rfl rfl ?_
  refine r_iconst (v := 1) C dX5_climb_53 (by decide) ?_
  refine r_icmp_ne (tgt := 63) C dX5_climb_54 (by decide) (fun h27 => ?_) (fun h27 => ?_)
  · refine r_iload C 5 dX5_climb_57 rfl ?_
    refine r_iload_n C 3 dX5_climb_59 rfl rfl ?_
    refine r_icmp_eq (tgt := 69) C dX5_climb_60 (by decide) (fun h30 => ?_) (fun h30 => ?_)
    · refine r_lv [0, 1, 2, 3, 4] rfl ?_
      exact t_X5_climb_69 C hm hb k3 l1 l2 l3 l4 hk3 M
    · refine r_lv [0, 1, 2, 3, 4] rfl ?_
      exact t_X5_climb_63 C hm hb k3 l1 l2 l3 l4 hk3 M
  · refine r_lv [0, 1, 2, 3, 4] rfl ?_
    exact t_X5_climb_63 C hm hb k3 l1 l2 l3 l4 hk3 M
set_option maxRecDepth 100000 in
set_option maxHeartbeats 4000000 in
theorem t_X5_climb_3 {g : Gw} {x : Xw} (C : Cw g x cX5_climb RX5 7 none 2) (hm : x.2.2.2.2.2.2.2.2.2.2.2 = (0, 0)) {b : Nat} (hb : b < 3) (l1 : Int32) (l2 : Int32) (l3 : Int32) (k3 : Int32 → Mw → Option (Mw)) (hk3 : ∀ (l4 : Int32) (M : Mw), Sw g x (fun M : Mw => (none, M)) M 0 0 3 [(0, .ref (gA g 23 b 0)), (1, .int l1), (2, .int l2), (3, .int l3), (4, .int l4)] [] (k3 l4 M)) (l4 : Int32) (M : Mw) : Sw g x (fun M : Mw => (none, M)) M 0 0 3 [(0, .ref (gA g 23 b 0)), (1, .int l1), (2, .int l2), (3, .int l3), (4, .int l4)] [] (B_X5_climb_3 b l1 l2 l3 k3 l4 M) := by
  unfold B_X5_climb_3
  refine r_iload C 4 dX5_climb_3 rfl ?_
  refine r_aload_n C 0 dX5_climb_5 rfl rfl ?_
  refine gf_23_0 C dX5_climb_6 u_328 (in_23 hb) ?_
  refine gf_0_5 C dX5_climb_9 u_202 (in_0 (lt85 hb)) ?_
  refine r_icmp_ge (tgt := 115) C dX5_climb_12 (by decide) (fun h1 => ?_) (fun h1 => ?_)
  · refine r_iconst (v := 0) C dX5_climb_115 (by decide) ?_
    refine r_istore0 (lv' := [(4, .int 0), (0, .ref (gA g 23 b 0)), (1, .int l1), (2, .int l2), (3, .int l3)]) C dX5_climb_116 (by decide) rfl ?_
    refine r_lv [1, 2, 4, 0] rfl ?_
    exact tl_X5_climb_118 C hm hb l1 l3 FU 0 M
  · refine r_aload_n C 0 dX5_climb_15 rfl rfl ?_
    refine gf_23_0 C dX5_climb_16 u_328 (in_23 hb) ?_
    refine gf_0_10 C dX5_climb_19 u_223 (in_0 (lt85 hb)) ?_
    refine r_iload C 4 dX5_climb_22 rfl ?_
    refine r_aald (t0 := 5) (ty := .array .int) C dX5_climb_24 (in_3 (lt85 hb)) (contW_3 g _ _ _ _ _) rfl rfl (fun h16 => ?_)
    refine r_iconst (v := 0) C dX5_climb_25 (by decide) ?_
    refine r_ialdc C dX5_climb_26 (in_4 (lt85 hb) (inb_lt h16)) (contW_4 g _ _ _ _ _) (by decide) (j := 0) (by decide) ?_
    refine r_istore (lv' := fun v17 => [(5, .int v17), (0, .ref (gA g 23 b 0)), (1, .int l1), (2, .int l2), (3, .int l3), (4, .int l4)]) C dX5_climb_27 (by decide) (fun _ => rfl) (fun v17 => ?_)
    refine r_iload_n C 2 dX5_climb_29 rfl rfl ?_
    refine r_iconst (v := 3) C dX5_climb_30 (by decide) ?_
    refine r_icmp_eq (tgt := 69) C dX5_climb_31 (by decide) (fun h18 => ?_) (fun h18 => ?_)
    · refine r_lv [1, 2, 3, 4, 5] rfl ?_
      exact t_X5_climb_69 C hm hb k3 l1 l2 l3 l4 hk3 M
    · refine r_iload_n C 2 dX5_climb_34 rfl rfl ?_
      refine r_iconst (v := 2) C dX5_climb_35 (by decide) ?_
      refine r_icmp_ne (tgt := 52) C dX5_climb_36 (by decide) (fun h26 => ?_) (fun h26 => ?_)
      · refine r_aload_n C 1 dX5_climb_39 rfl rfl ?_
        refine gf_23_0 C dX5_climb_40 u_328 (in_23 hb) ?_
        refine r_iload C 0 dX5_climb_43 rfl ?_
        refine r_iload_n C 4 dX5_climb_45 rfl rfl ?_
        refine r_callVRi (rest := []) C (c_X0_isAtOrBelow (lt85 hb) v17 l3 M) dX5_climb_46 u_639 (in_0 (lt85 hb)) (contW_0 g _ _ _ _ _) rfl u_640 u_641 mi_X0_isAtOrBelow (by decide) rfl rfl (Nat.le_of_ble_eq_true rfl) (xk1 hm (by decide)) (xn1 hm (by decide)) (fun v31 h32 => ?_)
        refine r_if_ne (tgt := 69) C dX5_climb_49 (by decide) (fun h33 => ?_) (fun h33 => ?_)
        · refine r_lv [1, 2, 3, 4, 5, 0] rfl ?_
          exact t_X5_climb_52 C hm hb k3 l1 l2 l3 l4 v17 hk3 M
        · refine r_lv [1, 2, 3, 4, 5] rfl ?_
          exact t_X5_climb_69 C hm hb k3 l1 l2 l3 l4 hk3 M
      · refine r_lv [1, 2, 3, 4, 5, 0] rfl ?_
        exact t_X5_climb_52 C hm hb k3 l1 l2 l3 l4 v17 hk3 M
set_option maxRecDepth 100000 in
set_option maxHeartbeats 4000000 in
theorem tl_X5_climb_3 {g : Gw} {x : Xw} (C : Cw g x cX5_climb RX5 7 none 2) (hm : x.2.2.2.2.2.2.2.2.2.2.2 = (0, 0)) {b : Nat} (hb : b < 3) (l1 : Int32) (l2 : Int32) (l3 : Int32) (n : Nat) : ∀ (l4 : Int32) (M : Mw), Sw g x (fun M : Mw => (none, M)) M 0 0 3 [(0, .ref (gA g 23 b 0)), (1, .int l1), (2, .int l2), (3, .int l3), (4, .int l4)] [] (it (fun _ _ => none) (B_X5_climb_3 b l1 l2 l3) n l4 M) := by
  induction n with
  | zero =>
    intro l4 M
    exact r_none
  | succ n ih =>
    intro l4 M
    exact t_X5_climb_3 C hm hb l1 l2 l3 _ ih l4 M
set_option maxRecDepth 100000 in
set_option maxHeartbeats 4000000 in
theorem c_X5_climb {g : Gw} {l : Launch} {b : Nat} (hb : b < 3) (p1 : Int32) (p2 : Int32) (p3 : Int32) (M : Mw) : Kw g l yX5_climb cX5_climb 7 none 2 0 0 [.ref (gA g 23 b 0), .int p1, .int p2, .int p3] M (fun M : Mw => (none, M)) (F_X5_climb b p1 p2 p3 M) := by
  refine Kw.of (own := RX5) (lv0 := [(0, .ref (gA g 23 b 0)), (1, .int p1), (2, .int p2), (3, .int p3)]) (by decide +kernel) rfl (Nat.le_of_ble_eq_true rfl) rfl (fun x C hl hm => ?_)
  subst hl
  unfold F_X5_climb
  refine r_iconst (v := 0) C dX5_climb_0 (by decide) ?_
  refine r_istore0 (lv' := [(4, .int 0), (0, .ref (gA g 23 b 0)), (1, .int p1), (2, .int p2), (3, .int p3)]) C dX5_climb_1 (by decide) rfl ?_
  refine r_lv [1, 2, 3, 4, 0] rfl ?_
  exact tl_X5_climb_3 C hm hb p1 p2 p3 FU 0 M
def B_X5_failTask_41 (b : Nat) (l1 : Int32) (l2 : Int32) (l4 : Int32) (M : Mw) : Option (Mw) :=
  (bd (if 3 < l4 then 3 else l4) (fun v6 => ((F_X4_add b (M.1 23 b 0 6) l2 l1 v6 M).bind (fun M7 => (if inb l1 5 then ((F_X5_climb b v6 l1 (M7.1 4 (b + 5) l1.toNatClampNeg 0) M7).bind (fun M10 => some M10)) else none)))))
def F_X5_failTask (b : Nat) (p1 : Int32) (p2 : Int32) (M : Mw) : Option (Mw) :=
  (if inb p1 5 then ((F_X7_suffer b p1.toNatClampNeg M).bind (fun M2 => (bd ((M2.1 25 b p1.toNatClampNeg 7) - 1) (fun v4 => (if nf (FP.fdiv (FP.i2f (M2.1 0 (b + 5) 0 2)) 1092616192) then (if 0 ≤ (Op.cmpValue (FP.fcmp (M2.2.1 25 b p1.toNatClampNeg 11) (FP.fdiv (FP.i2f (M2.1 0 (b + 5) 0 2)) 1092616192)) .g) then (B_X5_failTask_41 b p1 p2 v4 M2) else (bd (v4 + 1) (fun v12 => (B_X5_failTask_41 b p1 p2 v12 M2)))) else none))))) else none)
set_option maxRecDepth 100000 in
set_option maxHeartbeats 4000000 in
theorem t_X5_failTask_41 {g : Gw} {x : Xw} (C : Cw g x cX5_failTask RX5 5 none 3) (hm : x.2.2.2.2.2.2.2.2.2.2.2 = (0, 0)) {b : Nat} (hb : b < 3) (l1 : Int32) (l2 : Int32) (l4 : Int32) (M : Mw) : Sw g x (fun M : Mw => (none, M)) M 0 0 41 [(0, .ref (gA g 23 b 0)), (1, .int l1), (2, .int l2), (4, .int l4)] [] (B_X5_failTask_41 b l1 l2 l4 M) := by
  unfold B_X5_failTask_41
  refine r_iload C 3 dX5_failTask_41 rfl ?_
  refine r_iconst (v := 3) C dX5_failTask_43 (by decide) ?_
  refine r_mmin C u_631 u_539 u_140 u_540 dX5_failTask_44 (by decide) (Nat.le_of_ble_eq_true rfl) (xk1 hm (by decide)) (xn1 hm (by decide)) ?_
  refine r_istore (lv' := fun v6 => [(4, .int v6), (0, .ref (gA g 23 b 0)), (1, .int l1), (2, .int l2)]) C dX5_failTask_47 (by decide) (fun _ => rfl) (fun v6 => ?_)
  refine r_aload_n C 1 dX5_failTask_49 rfl rfl ?_
  refine gf_23_2 C dX5_failTask_50 u_333 (in_23 hb) ?_
  refine r_aload_n C 1 dX5_failTask_53 rfl rfl ?_
  refine gf_23_6 C dX5_failTask_54 u_341 (in_23 hb) ?_
  refine r_iload_n C 3 dX5_failTask_57 rfl rfl ?_
  refine r_iload_n C 2 dX5_failTask_58 rfl rfl ?_
  refine r_iload C 0 dX5_failTask_59 rfl ?_
  refine r_callVU (rest := []) C (c_X4_add hb (M.1 23 b 0 6) l2 l1 v6 M) dX5_failTask_61 u_632 (in_26 hb) (contW_26 g _ _ _ _ _) rfl u_633 u_634 mi_X4_add (by decide) rfl rfl (Nat.le_of_ble_eq_true rfl) (xk1 hm (by decide)) (xn1 hm (by decide)) (fun M7 h8 => ?_)
  refine r_aload_n C 1 dX5_failTask_64 rfl rfl ?_
  refine r_iload C 0 dX5_failTask_65 rfl ?_
  refine r_iload_n C 2 dX5_failTask_67 rfl rfl ?_
  refine r_aload_n C 1 dX5_failTask_68 rfl rfl ?_
  refine gf_23_0 C dX5_failTask_69 u_328 (in_23 hb) ?_
  refine gf_0_10 C dX5_failTask_72 u_223 (in_0 (lt85 hb)) ?_
  refine r_iload_n C 2 dX5_failTask_75 rfl rfl ?_
  refine r_aald (t0 := 5) (ty := .array .int) C dX5_failTask_76 (in_3 (lt85 hb)) (contW_3 g _ _ _ _ _) rfl rfl (fun h9 => ?_)
  refine r_iconst (v := 0) C dX5_failTask_77 (by decide) ?_
  refine r_ialdc C dX5_failTask_78 (in_4 (lt85 hb) (inb_lt h9)) (contW_4 g _ _ _ _ _) (by decide) (j := 0) (by decide) ?_
  refine r_callVU (rest := []) C (c_X5_climb hb v6 l1 (M7.1 4 (b + 5) l1.toNatClampNeg 0) M7) dX5_failTask_79 u_636 (in_23 hb) (contW_23 g _ _ _ _ _) rfl u_637 u_26 mi_X5_climb (by decide) rfl rfl (Nat.le_of_ble_eq_true rfl) (xk1 hm (by decide)) (xn1 hm (by decide)) (fun M10 h11 => ?_)
  exact r_vret C dX5_failTask_82 rfl rfl (xk0 hm) (xn0 hm)
set_option maxRecDepth 100000 in
set_option maxHeartbeats 4000000 in
theorem c_X5_failTask {g : Gw} {l : Launch} {b : Nat} (hb : b < 3) (p1 : Int32) (p2 : Int32) (M : Mw) : Kw g l yX5_failTask cX5_failTask 5 none 3 0 0 [.ref (gA g 23 b 0), .int p1, .int p2] M (fun M : Mw => (none, M)) (F_X5_failTask b p1 p2 M) := by
  refine Kw.of (own := RX5) (lv0 := [(0, .ref (gA g 23 b 0)), (1, .int p1), (2, .int p2)]) (by decide +kernel) rfl (Nat.le_of_ble_eq_true rfl) rfl (fun x C hl hm => ?_)
  subst hl
  unfold F_X5_failTask
  refine r_aload_n C 0 dX5_failTask_0 rfl rfl ?_
  refine gf_23_1 C dX5_failTask_1 u_331 (in_23 hb) ?_
  refine r_iload_n C 1 dX5_failTask_4 rfl rfl ?_
  refine r_aald (t0 := 7) (ty := .object "WatchStack$TaskState") C dX5_failTask_5 (in_24 hb) (contW_24 g _ _ _ _ _) rfl rfl (fun h1 => ?_)
  refine r_astore_n (lv' := [(3, .ref (gA g 25 b p1.toNatClampNeg)), (0, .ref (gA g 23 b 0)), (1, .int p1), (2, .int p2)]) C dX5_failTask_6 rfl (by decide) rfl ?_
  refine r_aload_n C 0 dX5_failTask_7 rfl rfl ?_
  refine r_callVU (rest := []) C (c_X7_suffer hb (inb_lt h1) M) dX5_failTask_8 u_626 (in_25 hb (inb_lt h1)) (contW_25 g _ _ _ _ _) rfl u_627 u_628 mi_X7_suffer (by decide) rfl rfl (Nat.le_of_ble_eq_true rfl) (xk1 hm (by decide)) (xn1 hm (by decide)) (fun M2 h3 => ?_)
  refine r_aload_n C 0 dX5_failTask_11 rfl rfl ?_
  refine gf_25_7 C dX5_failTask_12 u_309 (in_25 hb (inb_lt h1)) ?_
  refine r_iconst (v := 1) C dX5_failTask_15 (by decide) ?_
  refine r_isub C dX5_failTask_16 ?_
  refine r_istore (lv' := fun v4 => [(4, .int v4), (3, .ref (gA g 25 b p1.toNatClampNeg)), (0, .ref (gA g 23 b 0)), (1, .int p1), (2, .int p2)]) C dX5_failTask_17 (by decide) (fun _ => rfl) (fun v4 => ?_)
  refine r_aload_n C 1 dX5_failTask_19 rfl rfl ?_
  refine gf_25_11 C dX5_failTask_20 u_316 (in_25 hb (inb_lt h1)) ?_
  refine r_aload_n C 2 dX5_failTask_23 rfl rfl ?_
  refine gf_23_0 C dX5_failTask_24 u_328 (in_23 hb) ?_
  refine gf_0_2 C dX5_failTask_27 u_191 (in_0 (lt85 hb)) ?_
  refine r_i2f C dX5_failTask_30 ?_
  refine r_ldcf (v := 1092616192) C u_630 dX5_failTask_31 ?_
  refine r_fdiv C dX5_failTask_33 ?_
  refine r_fcmp C dX5_failTask_34 ?_
  refine r_if_ge (tgt := 41) C dX5_failTask_35 (by decide) (fun h5 => ?_) (fun h5 => ?_)
  · refine r_lv [2, 3, 4, 0] rfl ?_
    exact t_X5_failTask_41 C hm hb p1 p2 v4 M2
  · refine r_iinc (c := 1) (lv' := fun v12 => [(4, .int v12), (3, .ref (gA g 25 b p1.toNatClampNeg)), (0, .ref (gA g 23 b 0)), (1, .int p1), (2, .int p2)]) C 0 dX5_failTask_38 rfl (by decide) (by decide) (fun _ => rfl) (fun v12 => ?_)
    refine r_lv [2, 3, 4, 0] rfl ?_
    exact t_X5_failTask_41 C hm hb p1 p2 v12 M2
def F_X5_noteKick (b : Nat) (p1 : Int32) (p2 : Int32) (M : Mw) : Option (Mw) :=
  (if 200 ≤ (M.1 23 b 0 12) then some M else (if inb (M.1 23 b 0 12) 200 then (bd (uIw M 31 b 0 (M.1 23 b 0 12).toNatClampNeg p1) (fun M2 => (if inb (M2.1 23 b 0 12) 200 then (bd (uIw M2 32 b 0 (M2.1 23 b 0 12).toNatClampNeg p2) (fun M4 => (bd (uIw M4 23 b 0 12 ((M4.1 23 b 0 12) + 1)) (fun M6 => some M6)))) else none))) else none))
set_option maxRecDepth 100000 in
set_option maxHeartbeats 4000000 in
theorem c_X5_noteKick {g : Gw} {l : Launch} {b : Nat} (hb : b < 3) (p1 : Int32) (p2 : Int32) (M : Mw) : Kw g l yX5_noteKick cX5_noteKick 3 none 1 0 0 [.ref (gA g 23 b 0), .int p1, .int p2] M (fun M : Mw => (none, M)) (F_X5_noteKick b p1 p2 M) := by
  refine Kw.of (own := RX5) (lv0 := [(0, .ref (gA g 23 b 0)), (1, .int p1), (2, .int p2)]) (by decide +kernel) rfl (Nat.le_of_ble_eq_true rfl) rfl (fun x C hl hm => ?_)
  subst hl
  unfold F_X5_noteKick
  refine r_aload_n C 0 dX5_noteKick_0 rfl rfl ?_
  refine gf_23_12 C dX5_noteKick_1 u_347 (in_23 hb) ?_
  refine r_sipush (v := 200) C dX5_noteKick_4 (by decide) ?_
  refine r_icmp_ge (tgt := 40) C dX5_noteKick_7 (by decide) (fun h1 => ?_) (fun h1 => ?_)
  · exact r_vret C dX5_noteKick_40 rfl rfl (xk0 hm) (xn0 hm)
  · refine r_aload_n C 0 dX5_noteKick_10 rfl rfl ?_
    refine gf_23_10 C dX5_noteKick_11 u_345 (in_23 hb) ?_
    refine r_aload_n C 0 dX5_noteKick_14 rfl rfl ?_
    refine gf_23_12 C dX5_noteKick_15 u_347 (in_23 hb) ?_
    refine r_iload_n C 1 dX5_noteKick_18 rfl rfl ?_
    refine r_iast C dX5_noteKick_19 (in_31 hb) (contW_31 g _ _) (fun M2 h3 => ?_)
    refine r_aload_n C 0 dX5_noteKick_20 rfl rfl ?_
    refine gf_23_11 C dX5_noteKick_21 u_346 (in_23 hb) ?_
    refine r_aload_n C 0 dX5_noteKick_24 rfl rfl ?_
    refine gf_23_12 C dX5_noteKick_25 u_347 (in_23 hb) ?_
    refine r_iload_n C 2 dX5_noteKick_28 rfl rfl ?_
    refine r_iast C dX5_noteKick_29 (in_32 hb) (contW_32 g _ _) (fun M4 h5 => ?_)
    refine r_aload_n C 0 dX5_noteKick_30 rfl rfl ?_
    refine r_dup C rfl dX5_noteKick_31 ?_
    refine gf_23_12 C dX5_noteKick_32 u_347 (in_23 hb) ?_
    refine r_iconst (v := 1) C dX5_noteKick_35 (by decide) ?_
    refine r_iadd C dX5_noteKick_36 ?_
    refine pf_23_12 C dX5_noteKick_37 u_347 (in_23 hb) (fun M6 => ?_)
    exact r_vret C dX5_noteKick_40 rfl rfl (xk0 hm) (xn0 hm)
def B_X7_addMargin_33 (b : Nat) (i : Nat) (l3 : UInt32) (M : Mw) : Option (Mw) :=
  (bd (uIw M 25 b i 14 ((M.1 25 b i 14) + 1)) (fun M5 => (if nd (FP.f2d l3) then (if nd (FP.dadd (M5.2.2 25 b i 16) (FP.f2d l3)) then (bd (uDw M5 25 b i 16 (FP.dadd (M5.2.2 25 b i 16) (FP.f2d l3))) (fun M6 => some M6)) else none) else none)))
def B_X7_addMargin_28 (b : Nat) (i : Nat) (l3 : UInt32) (M : Mw) : Option (Mw) :=
  (bd (uFw M 25 b i 15 l3) (fun M4 => (B_X7_addMargin_33 b i l3 M4)))
def F_X7_addMargin (b : Nat) (i : Nat) (p1 : Int32) (p2 : Int32) (M : Mw) : Option (Mw) :=
  (if 1 ≤ p2 then (if nf (FP.fdiv (FP.i2f p1) (FP.i2f p2)) then (bd (FP.fdiv (FP.i2f p1) (FP.i2f p2)) (fun v2 => (if (M.1 25 b i 14) = 0 then (B_X7_addMargin_28 b i v2 M) else (if 0 ≤ (Op.cmpValue (FP.fcmp v2 (M.2.1 25 b i 15)) .g) then (B_X7_addMargin_33 b i v2 M) else (B_X7_addMargin_28 b i v2 M))))) else none) else some M)
set_option maxRecDepth 100000 in
set_option maxHeartbeats 4000000 in
theorem t_X7_addMargin_33 {g : Gw} {x : Xw} (C : Cw g x cX7_addMargin RX7 4 none 1) (hm : x.2.2.2.2.2.2.2.2.2.2.2 = (0, 0)) {b : Nat} (hb : b < 3) {i : Nat} (hi : i < 5) (l3 : UInt32) (M : Mw) : Sw g x (fun M : Mw => (none, M)) M 0 0 33 [(0, .ref (gA g 25 b i)), (3, .float l3)] [] (B_X7_addMargin_33 b i l3 M) := by
  unfold B_X7_addMargin_33
  refine r_aload_n C 0 dX7_addMargin_33 rfl rfl ?_
  refine r_dup C rfl dX7_addMargin_34 ?_
  refine gf_25_14 C dX7_addMargin_35 u_322 (in_25 hb hi) ?_
  refine r_iconst (v := 1) C dX7_addMargin_38 (by decide) ?_
  refine r_iadd C dX7_addMargin_39 ?_
  refine pf_25_14 C dX7_addMargin_40 u_322 (in_25 hb hi) (fun M5 => ?_)
  refine r_aload_n C 0 dX7_addMargin_43 rfl rfl ?_
  refine r_aload_n C 0 dX7_addMargin_44 rfl rfl ?_
  refine gf_25_16 C dX7_addMargin_45 u_326 (in_25 hb hi) ?_
  refine r_fload_n C 1 dX7_addMargin_48 rfl rfl ?_
  refine r_f2d C dX7_addMargin_49 ?_
  refine r_dadd C dX7_addMargin_50 ?_
  refine pf_25_16 C dX7_addMargin_51 u_326 (in_25 hb hi) (fun M6 => ?_)
  exact r_vret C dX7_addMargin_54 rfl rfl (xk0 hm) (xn0 hm)
set_option maxRecDepth 100000 in
set_option maxHeartbeats 4000000 in
theorem t_X7_addMargin_28 {g : Gw} {x : Xw} (C : Cw g x cX7_addMargin RX7 4 none 1) (hm : x.2.2.2.2.2.2.2.2.2.2.2 = (0, 0)) {b : Nat} (hb : b < 3) {i : Nat} (hi : i < 5) (l3 : UInt32) (M : Mw) : Sw g x (fun M : Mw => (none, M)) M 0 0 28 [(0, .ref (gA g 25 b i)), (3, .float l3)] [] (B_X7_addMargin_28 b i l3 M) := by
  unfold B_X7_addMargin_28
  refine r_aload_n C 0 dX7_addMargin_28 rfl rfl ?_
  refine r_fload_n C 1 dX7_addMargin_29 rfl rfl ?_
  refine pf_25_15 C dX7_addMargin_30 u_324 (in_25 hb hi) (fun M4 => ?_)
  exact t_X7_addMargin_33 C hm hb hi l3 M4
set_option maxRecDepth 100000 in
set_option maxHeartbeats 4000000 in
theorem c_X7_addMargin {g : Gw} {l : Launch} {b : Nat} (hb : b < 3) {i : Nat} (hi : i < 5) (p1 : Int32) (p2 : Int32) (M : Mw) : Kw g l yX7_addMargin cX7_addMargin 4 none 1 0 0 [.ref (gA g 25 b i), .int p1, .int p2] M (fun M : Mw => (none, M)) (F_X7_addMargin b i p1 p2 M) := by
  refine Kw.of (own := RX7) (lv0 := [(0, .ref (gA g 25 b i)), (1, .int p1), (2, .int p2)]) (by decide +kernel) rfl (Nat.le_of_ble_eq_true rfl) rfl (fun x C hl hm => ?_)
  subst hl
  unfold F_X7_addMargin
  refine r_iload_n C 2 dX7_addMargin_0 rfl rfl ?_
  refine r_iconst (v := 1) C dX7_addMargin_1 (by decide) ?_
  refine r_icmp_ge (tgt := 6) C dX7_addMargin_2 (by decide) (fun h1 => ?_) (fun h1 => ?_)
  · refine r_iload_n C 1 dX7_addMargin_6 rfl rfl ?_
    refine r_i2f C dX7_addMargin_7 ?_
    refine r_iload_n C 2 dX7_addMargin_8 rfl rfl ?_
    refine r_i2f C dX7_addMargin_9 ?_
    refine r_fdiv C dX7_addMargin_10 ?_
    refine r_fstore_n (lv' := fun v2 => [(3, .float v2), (0, .ref (gA g 25 b i)), (1, .int p1), (2, .int p2)]) C dX7_addMargin_11 rfl (by decide) (fun _ => rfl) (fun v2 => ?_)
    refine r_aload_n C 1 dX7_addMargin_12 rfl rfl ?_
    refine gf_25_14 C dX7_addMargin_13 u_322 (in_25 hb hi) ?_
    refine r_if_eq (tgt := 28) C dX7_addMargin_16 (by decide) (fun h3 => ?_) (fun h3 => ?_)
    · refine r_lv [1, 0] rfl ?_
      exact t_X7_addMargin_28 C hm hb hi v2 M
    · refine r_fload_n C 0 dX7_addMargin_19 rfl rfl ?_
      refine r_aload_n C 1 dX7_addMargin_20 rfl rfl ?_
      refine gf_25_15 C dX7_addMargin_21 u_324 (in_25 hb hi) ?_
      refine r_fcmp C dX7_addMargin_24 ?_
      refine r_if_ge (tgt := 33) C dX7_addMargin_25 (by decide) (fun h7 => ?_) (fun h7 => ?_)
      · refine r_lv [1, 0] rfl ?_
        exact t_X7_addMargin_33 C hm hb hi v2 M
      · refine r_lv [1, 0] rfl ?_
        exact t_X7_addMargin_28 C hm hb hi v2 M
  · exact r_vret C dX7_addMargin_5 rfl rfl (xk0 hm) (xn0 hm)
