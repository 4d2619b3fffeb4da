def B_X3_lineUp_2 (l1 : Int32) (k2 : Int32 → Mw → Option (Mw)) (l2 : Int32) (M : Mw) : Option (Mw) :=
  (if l1 ≤ l2 then some M else (if 5 ≤ l2 then some M else (if inb l2 5 then (bd (uIw M 22 0 0 l2.toNatClampNeg l2) (fun M3 => (bd (l2 + 1) (fun v5 => (k2 v5 M3))))) else none)))
def F_X3_lineUp (p1 : Int32) (M : Mw) : Option (Mw) :=
  (it (fun _ _ => none) (B_X3_lineUp_2 p1) FU 0 M)
set_option maxRecDepth 100000 in
set_option maxHeartbeats 4000000 in
theorem t_X3_lineUp_2 {g : Gw} {x : Xw} (C : Cw g x cX3_lineUp RX3 3 none 1) (hm : x.2.2.2.2.2.2.2.2.2.2.2 = (0, 0)) (l1 : Int32) (k2 : Int32 → Mw → Option (Mw)) (hk2 : ∀ (l2 : Int32) (M : Mw), Sw g x (fun M : Mw => (none, M)) M 0 0 2 [(0, .ref (gA g 21 0 0)), (1, .int l1), (2, .int l2)] [] (k2 l2 M)) (l2 : Int32) (M : Mw) : Sw g x (fun M : Mw => (none, M)) M 0 0 2 [(0, .ref (gA g 21 0 0)), (1, .int l1), (2, .int l2)] [] (B_X3_lineUp_2 l1 k2 l2 M) := by
  unfold B_X3_lineUp_2
  refine r_iload_n C 2 dX3_lineUp_2 rfl rfl ?_
  refine r_iload_n C 1 dX3_lineUp_3 rfl rfl ?_
  refine r_icmp_ge (tgt := 25) C dX3_lineUp_4 (by decide) (fun h1 => ?_) (fun h1 => ?_)
  · exact r_vret C dX3_lineUp_25 rfl rfl (xk0 hm) (xn0 hm)
  · refine r_iload_n C 2 dX3_lineUp_7 rfl rfl ?_
    refine r_iconst (v := 5) C dX3_lineUp_8 (by decide) ?_
    refine r_icmp_ge (tgt := 25) C dX3_lineUp_9 (by decide) (fun h2 => ?_) (fun h2 => ?_)
    · exact r_vret C dX3_lineUp_25 rfl rfl (xk0 hm) (xn0 hm)
    · refine r_aload_n C 0 dX3_lineUp_12 rfl rfl ?_
      refine gf_21_0 C dX3_lineUp_13 u_263 in_21 ?_
      refine r_iload_n C 2 dX3_lineUp_16 rfl rfl ?_
      refine r_iload_n C 2 dX3_lineUp_17 rfl rfl ?_
      refine r_iast C dX3_lineUp_18 in_22 (contW_22 g _ _) (fun M3 h4 => ?_)
      refine r_iinc (c := 1) (lv' := fun v5 => [(2, .int v5), (0, .ref (gA g 21 0 0)), (1, .int l1)]) C 2 dX3_lineUp_19 rfl (by decide) (by decide) (fun _ => rfl) (fun v5 => ?_)
      refine r_goto (tgt := 2) C dX3_lineUp_22 (by decide) ?_
      refine r_lv [1, 2, 0] rfl ?_
      exact hk2 v5 M3
set_option maxRecDepth 100000 in
set_option maxHeartbeats 4000000 in
theorem tl_X3_lineUp_2 {g : Gw} {x : Xw} (C : Cw g x cX3_lineUp RX3 3 none 1) (hm : x.2.2.2.2.2.2.2.2.2.2.2 = (0, 0)) (l1 : Int32) (n : Nat) : ∀ (l2 : Int32) (M : Mw), Sw g x (fun M : Mw => (none, M)) M 0 0 2 [(0, .ref (gA g 21 0 0)), (1, .int l1), (2, .int l2)] [] (it (fun _ _ => none) (B_X3_lineUp_2 l1) n l2 M) := by
  induction n with
  | zero =>
    intro l2 M
    exact r_none
  | succ n ih =>
    intro l2 M
    exact t_X3_lineUp_2 C hm l1 _ ih l2 M
set_option maxRecDepth 100000 in
set_option maxHeartbeats 4000000 in
theorem c_X3_lineUp {g : Gw} {l : Launch} (p1 : Int32) (M : Mw) : Kw g l yX3_lineUp cX3_lineUp 3 none 1 0 0 [.ref (gA g 21 0 0), .int p1] M (fun M : Mw => (none, M)) (F_X3_lineUp p1 M) := by
  refine Kw.of (own := RX3) (lv0 := [(0, .ref (gA g 21 0 0)), (1, .int p1)]) (by decide +kernel) rfl (Nat.le_of_ble_eq_true rfl) rfl (fun x C hl hm => ?_)
  subst hl
  unfold F_X3_lineUp
  refine r_iconst (v := 0) C dX3_lineUp_0 (by decide) ?_
  refine r_istore_n0 (lv' := [(2, .int 0), (0, .ref (gA g 21 0 0)), (1, .int p1)]) C dX3_lineUp_1 rfl (by decide) rfl ?_
  refine r_lv [1, 2, 0] rfl ?_
  exact tl_X3_lineUp_2 C hm p1 FU 0 M
def F_X3_costOf (b1 : Nat) (p2 : Int32) (p3 : Int32) (M : Mw) : Option (Int32) :=
  (if inb p2 5 then (if inb p3 2 then (if p2 = (M.1 21 0 0 1) then some ((M.1 10 b1 p2.toNatClampNeg p3.toNatClampNeg) + (M.1 21 0 0 2)) else some ((M.1 10 b1 p2.toNatClampNeg p3.toNatClampNeg) + 0)) else none) else none)
set_option maxRecDepth 100000 in
set_option maxHeartbeats 4000000 in
theorem c_X3_costOf {g : Gw} {l : Launch} {b1 : Nat} (hb1 : b1 < 8) (p2 : Int32) (p3 : Int32) (M : Mw) : Kw g l yX3_costOf cX3_costOf 4 (some .int) 1 0 0 [.ref (gA g 21 0 0), .ref (gA g 0 b1 0), .int p2, .int p3] M (fun v : Int32 => (some (.int v), M)) (F_X3_costOf b1 p2 p3 M) := by
  refine Kw.of (own := RX3) (lv0 := [(0, .ref (gA g 21 0 0)), (1, .ref (gA g 0 b1 0)), (2, .int p2), (3, .int p3)]) (by decide +kernel) rfl (Nat.le_of_ble_eq_true rfl) rfl (fun x C hl hm => ?_)
  subst hl
  unfold F_X3_costOf
  refine r_aload_n C 1 dX3_costOf_0 rfl rfl ?_
  refine gf_0_13 C dX3_costOf_1 u_234 (in_0 hb1) ?_
  refine r_iload_n C 2 dX3_costOf_4 rfl rfl ?_
  refine r_aald (t0 := 5) (ty := .array .int) C dX3_costOf_5 (in_9 hb1) (contW_9 g _ _ _ _ _) rfl rfl (fun h1 => ?_)
  refine r_iload_n C 3 dX3_costOf_6 rfl rfl ?_
  refine r_iald C dX3_costOf_7 (in_10 hb1 (inb_lt h1)) (contW_10 g _ _ _ _ _) (fun h2 => ?_)
  refine r_iload_n C 2 dX3_costOf_8 rfl rfl ?_
  refine r_aload_n C 0 dX3_costOf_9 rfl rfl ?_
  refine gf_21_1 C dX3_costOf_10 u_265 in_21 ?_
  refine r_icmp_ne (tgt := 23) C dX3_costOf_13 (by decide) (fun h3 => ?_) (fun h3 => ?_)
  · refine r_aload_n C 0 dX3_costOf_16 rfl rfl ?_
    refine gf_21_2 C dX3_costOf_17 u_266 in_21 ?_
    refine r_goto (tgt := 24) C dX3_costOf_20 (by decide) ?_
    refine r_iadd C dX3_costOf_24 ?_
    exact r_iret C dX3_costOf_25 rfl rfl (xk0 hm) (xn0 hm)
  · refine r_iconst (v := 0) C dX3_costOf_23 (by decide) ?_
    refine r_iadd C dX3_costOf_24 ?_
    exact r_iret C dX3_costOf_25 rfl rfl (xk0 hm) (xn0 hm)
def F_X9_divideUp (p1 : Int32) (p2 : Int32) (M : Mw) : Option (Int32) :=
  (if p2 ≤ 0 then some 0 else (if p2 = 0 then none else some (((p1 + p2) - 1) / p2)))
set_option maxRecDepth 100000 in
set_option maxHeartbeats 4000000 in
theorem c_X9_divideUp {g : Gw} {l : Launch} (p1 : Int32) (p2 : Int32) (M : Mw) : Kw g l yX9_divideUp cX9_divideUp 2 (some .int) 1 0 0 [.int p1, .int p2] M (fun v : Int32 => (some (.int v), M)) (F_X9_divideUp p1 p2 M) := by
  refine Kw.of (own := RX9) (lv0 := [(0, .int p1), (1, .int p2)]) (by decide +kernel) rfl (Nat.le_of_ble_eq_true rfl) rfl (fun x C hl hm => ?_)
  subst hl
  unfold F_X9_divideUp
  refine r_iload_n C 1 dX9_divideUp_0 rfl rfl ?_
  refine r_if_le (tgt := 14) C dX9_divideUp_1 (by decide) (fun h1 => ?_) (fun h1 => ?_)
  · refine r_iconst (v := 0) C dX9_divideUp_14 (by decide) ?_
    exact r_iret C dX9_divideUp_15 rfl rfl (xk0 hm) (xn0 hm)
  · refine r_iload_n C 0 dX9_divideUp_4 rfl rfl ?_
    refine r_iload_n C 1 dX9_divideUp_5 rfl rfl ?_
    refine r_iadd C dX9_divideUp_6 ?_
    refine r_iconst (v := 1) C dX9_divideUp_7 (by decide) ?_
    refine r_isub C dX9_divideUp_8 ?_
    refine r_iload_n C 1 dX9_divideUp_9 rfl rfl ?_
    refine r_idiv C dX9_divideUp_10 (fun h2 => ?_)
    refine r_goto (tgt := 15) C dX9_divideUp_11 (by decide) ?_
    exact r_iret C dX9_divideUp_15 rfl rfl (xk0 hm) (xn0 hm)
def B_X3_demandAt_17 (b1 : Nat) (l2 : Int32) (l3 : Int32) (M : Mw) (k17 : Int32 → Int32 → Option (Int32)) (l4 : Int32) (l5 : Int32) : Option (Int32) :=
  (if l2 ≤ l5 then some l4 else (if inb l5 5 then (if inb (M.1 22 0 0 l5.toNatClampNeg) 5 then ((F_X9_divideUp l3 (M.1 4 b1 ((M.1 22 0 0 l5.toNatClampNeg).toNatClampNeg) 1) M).bind (fun v7 => (if inb l5 5 then ((F_X3_costOf b1 (M.1 22 0 0 l5.toNatClampNeg) 1 M).bind (fun v10 => (bd (l4 + (v7 * v10)) (fun v12 => (bd (l5 + 1) (fun v13 => (k17 v12 v13))))))) else none))) else none) else none))
def F_X3_demandAt (b1 : Nat) (p2 : Int32) (p3 : Int32) (M : Mw) : Option (Int32) :=
  (if inb p2 5 then ((F_X3_costOf b1 (M.1 22 0 0 p2.toNatClampNeg) 1 M).bind (fun v2 => (it (fun _ _ => none) (B_X3_demandAt_17 b1 p2 p3 M) FU v2 0))) else none)
set_option maxRecDepth 100000 in
set_option maxHeartbeats 4000000 in
theorem t_X3_demandAt_17 {g : Gw} {x : Xw} (C : Cw g x cX3_demandAt RX3 7 (some .int) 2) (hm : x.2.2.2.2.2.2.2.2.2.2.2 = (0, 0)) {b1 : Nat} (hb1 : b1 < 8) (M : Mw) (l2 : Int32) (l3 : Int32) (k17 : Int32 → Int32 → Option (Int32)) (hk17 : ∀ (l4 : Int32) (l5 : Int32), Sw g x (fun v : Int32 => (some (.int v), M)) M 0 0 17 [(0, .ref (gA g 21 0 0)), (1, .ref (gA g 0 b1 0)), (2, .int l2), (3, .int l3), (4, .int l4), (5, .int l5)] [] (k17 l4 l5)) (l4 : Int32) (l5 : Int32) : Sw g x (fun v : Int32 => (some (.int v), M)) M 0 0 17 [(0, .ref (gA g 21 0 0)), (1, .ref (gA g 0 b1 0)), (2, .int l2), (3, .int l3), (4, .int l4), (5, .int l5)] [] (B_X3_demandAt_17 b1 l2 l3 M k17 l4 l5) := by
  unfold B_X3_demandAt_17
  refine r_iload C 5 dX3_demandAt_17 rfl ?_
  refine r_iload_n C 2 dX3_demandAt_19 rfl rfl ?_
  refine r_icmp_ge (tgt := 70) C dX3_demandAt_20 (by decide) (fun h4 => ?_) (fun h4 => ?_)
  · refine r_iload C 4 dX3_demandAt_70 rfl ?_
    exact r_iret C dX3_demandAt_72 rfl rfl (xk0 hm) (xn0 hm)
  · refine r_iload_n C 3 dX3_demandAt_23 rfl rfl ?_
    refine r_aload_n C 1 dX3_demandAt_24 rfl rfl ?_
    refine gf_0_10 C dX3_demandAt_25 u_219 (in_0 hb1) ?_
    refine r_aload_n C 0 dX3_demandAt_28 rfl rfl ?_
    refine gf_21_0 C dX3_demandAt_29 u_263 in_21 ?_
    refine r_iload C 5 dX3_demandAt_32 rfl ?_
    refine r_iald C dX3_demandAt_34 in_22 (contW_22 g _ _ _ _ _) (fun h5 => ?_)
    refine r_aald (t0 := 5) (ty := .array .int) C dX3_demandAt_35 (in_3 hb1) (contW_3 g _ _ _ _ _) rfl rfl (fun h6 => ?_)
    refine r_iconst (v := 1) C dX3_demandAt_36 (by decide) ?_
    refine r_ialdc C dX3_demandAt_37 (in_4 hb1 (inb_lt h6)) (contW_4 g _ _ _ _ _) (by decide) (j := 1) (by decide) ?_
    refine r_callNRi (host := "WatchStack") (rest := []) C (c_X9_divideUp l3 (M.1 4 b1 ((M.1 22 0 0 l5.toNatClampNeg).toNatClampNeg) 1) M) dX3_demandAt_38 (by decide +kernel) u_760 mi_X9_divideUp (by decide) rfl rfl (Nat.le_of_ble_eq_true rfl) (xk1 hm (by decide)) (xn1 hm (by decide)) (fun v7 h8 => ?_)
    refine r_istore0 (lv' := [(6, .int v7), (0, .ref (gA g 21 0 0)), (1, .ref (gA g 0 b1 0)), (2, .int l2), (3, .int l3), (4, .int l4), (5, .int l5)]) C dX3_demandAt_41 (by decide) rfl ?_
    refine r_iload C 5 dX3_demandAt_43 rfl ?_
    refine r_iload C 0 dX3_demandAt_45 rfl ?_
    refine r_aload_n C 1 dX3_demandAt_47 rfl rfl ?_
    refine r_aload_n C 2 dX3_demandAt_48 rfl rfl ?_
    refine r_aload_n C 1 dX3_demandAt_49 rfl rfl ?_
    refine gf_21_0 C dX3_demandAt_50 u_263 in_21 ?_
    refine r_iload C 6 dX3_demandAt_53 rfl ?_
    refine r_iald C dX3_demandAt_55 in_22 (contW_22 g _ _ _ _ _) (fun h9 => ?_)
    refine r_iconst (v := 1) C dX3_demandAt_56 (by decide) ?_
    refine r_callVRi (rest := [.int v7, .int l4]) C (c_X3_costOf hb1 (M.1 22 0 0 l5.toNatClampNeg) 1 M) dX3_demandAt_57 u_757 in_21 (contW_21 g _ _ _ _ _) rfl u_758 u_39 mi_X3_costOf (by decide) rfl rfl (Nat.le_of_ble_eq_true rfl) (xk1 hm (by decide)) (xn1 hm (by decide)) (fun v10 h11 => ?_)
    refine r_imul C dX3_demandAt_60 ?_
    refine r_iadd C dX3_demandAt_61 ?_
    refine r_istore (lv' := fun v12 => [(4, .int v12), (6, .int v7), (0, .ref (gA g 21 0 0)), (1, .ref (gA g 0 b1 0)), (2, .int l2), (3, .int l3), (5, .int l5)]) C dX3_demandAt_62 (by decide) (fun _ => rfl) (fun v12 => ?_)
    refine r_iinc (c := 1) (lv' := fun v13 => [(5, .int v13), (4, .int v12), (6, .int v7), (0, .ref (gA g 21 0 0)), (1, .ref (gA g 0 b1 0)), (2, .int l2), (3, .int l3)]) C 6 dX3_demandAt_64 rfl (by decide) (by decide) (fun _ => rfl) (fun v13 => ?_)
    refine r_goto (tgt := 17) C dX3_demandAt_67 (by decide) ?_
    refine r_lv [3, 4, 5, 6, 1, 0] rfl ?_
    exact hk17 v12 v13
set_option maxRecDepth 100000 in
set_option maxHeartbeats 4000000 in
theorem tl_X3_demandAt_17 {g : Gw} {x : Xw} (C : Cw g x cX3_demandAt RX3 7 (some .int) 2) (hm : x.2.2.2.2.2.2.2.2.2.2.2 = (0, 0)) {b1 : Nat} (hb1 : b1 < 8) (M : Mw) (l2 : Int32) (l3 : Int32) (n : Nat) : ∀ (l4 : Int32) (l5 : Int32), Sw g x (fun v : Int32 => (some (.int v), M)) M 0 0 17 [(0, .ref (gA g 21 0 0)), (1, .ref (gA g 0 b1 0)), (2, .int l2), (3, .int l3), (4, .int l4), (5, .int l5)] [] (it (fun _ _ => none) (B_X3_demandAt_17 b1 l2 l3 M) n l4 l5) := by
  induction n with
  | zero =>
    intro l4 l5
    exact r_none
  | succ n ih =>
    intro l4 l5
    exact t_X3_demandAt_17 C hm hb1 M l2 l3 _ ih l4 l5
set_option maxRecDepth 100000 in
set_option maxHeartbeats 4000000 in
theorem c_X3_demandAt {g : Gw} {l : Launch} {b1 : Nat} (hb1 : b1 < 8) (p2 : Int32) (p3 : Int32) (M : Mw) : Kw g l yX3_demandAt cX3_demandAt 7 (some .int) 2 0 0 [.ref (gA g 21 0 0), .ref (gA g 0 b1 0), .int p2, .int p3] M (fun v : Int32 => (some (.int v), M)) (F_X3_demandAt b1 p2 p3 M) := by
  refine Kw.of (own := RX3) (lv0 := [(0, .ref (gA g 21 0 0)), (1, .ref (gA g 0 b1 0)), (2, .int p2), (3, .int p3)]) (by decide +kernel) rfl (Nat.le_of_ble_eq_true rfl) rfl (fun x C hl hm => ?_)
  subst hl
  unfold F_X3_demandAt
  refine r_aload_n C 0 dX3_demandAt_0 rfl rfl ?_
  refine r_aload_n C 1 dX3_demandAt_1 rfl rfl ?_
  refine r_aload_n C 0 dX3_demandAt_2 rfl rfl ?_
  refine gf_21_0 C dX3_demandAt_3 u_263 in_21 ?_
  refine r_iload_n C 2 dX3_demandAt_6 rfl rfl ?_
  refine r_iald C dX3_demandAt_7 in_22 (contW_22 g _ _ _ _ _) (fun h1 => ?_)
  refine r_iconst (v := 1) C dX3_demandAt_8 (by decide) ?_
  refine r_callVRi (rest := []) C (c_X3_costOf hb1 (M.1 22 0 0 p2.toNatClampNeg) 1 M) dX3_demandAt_9 u_757 in_21 (contW_21 g _ _ _ _ _) rfl u_758 u_39 mi_X3_costOf (by decide) rfl rfl (Nat.le_of_ble_eq_true rfl) (xk1 hm (by decide)) (xn1 hm (by decide)) (fun v2 h3 => ?_)
  refine r_istore0 (lv' := [(4, .int v2), (0, .ref (gA g 21 0 0)), (1, .ref (gA g 0 b1 0)), (2, .int p2), (3, .int p3)]) C dX3_demandAt_12 (by decide) rfl ?_
  refine r_iconst (v := 0) C dX3_demandAt_14 (by decide) ?_
  refine r_istore0 (lv' := [(5, .int 0), (4, .int v2), (0, .ref (gA g 21 0 0)), (1, .ref (gA g 0 b1 0)), (2, .int p2), (3, .int p3)]) C dX3_demandAt_15 (by decide) rfl ?_
  refine r_lv [2, 3, 4, 5, 1, 0] rfl ?_
  exact tl_X3_demandAt_17 C hm hb1 M p2 p3 FU v2 0
def B_X3_responseAt_17 (b1 : Nat) (l2 : Int32) (l3 : Int32) (M : Mw) (k17 : Int32 → Option (Int32)) (l4 : Int32) : Option (Int32) :=
  (if l3 < l4 then some (-1) else ((F_X3_demandAt b1 l2 l4 M).bind (fun v5 => (if v5 = l4 then some l4 else (bd (l4 + 1) (fun v8 => (k17 v8)))))))
def F_X3_responseAt (b1 : Nat) (p2 : Int32) (M : Mw) : Option (Int32) :=
  (if inb p2 5 then (if inb (M.1 22 0 0 p2.toNatClampNeg) 5 then (bd (M.1 4 b1 ((M.1 22 0 0 p2.toNatClampNeg).toNatClampNeg) 1) (fun v3 => (it (fun _ => none) (B_X3_responseAt_17 b1 p2 v3 M) FU 1))) else none) else none)
set_option maxRecDepth 100000 in
set_option maxHeartbeats 4000000 in
theorem t_X3_responseAt_17 {g : Gw} {x : Xw} (C : Cw g x cX3_responseAt RX3 5 (some .int) 3) (hm : x.2.2.2.2.2.2.2.2.2.2.2 = (0, 0)) {b1 : Nat} (hb1 : b1 < 8) (M : Mw) (l2 : Int32) (l3 : Int32) (k17 : Int32 → Option (Int32)) (hk17 : ∀ (l4 : Int32), Sw g x (fun v : Int32 => (some (.int v), M)) M 0 0 17 [(0, .ref (gA g 21 0 0)), (1, .ref (gA g 0 b1 0)), (2, .int l2), (3, .int l3), (4, .int l4)] [] (k17 l4)) (l4 : Int32) : Sw g x (fun v : Int32 => (some (.int v), M)) M 0 0 17 [(0, .ref (gA g 21 0 0)), (1, .ref (gA g 0 b1 0)), (2, .int l2), (3, .int l3), (4, .int l4)] [] (B_X3_responseAt_17 b1 l2 l3 M k17 l4) := by
  unfold B_X3_responseAt_17
  refine r_iload C 4 dX3_responseAt_17 rfl ?_
  refine r_iload_n C 3 dX3_responseAt_19 rfl rfl ?_
  refine r_icmp_gt (tgt := 45) C dX3_responseAt_20 (by decide) (fun h4 => ?_) (fun h4 => ?_)
  · refine r_iconst (v := (-1)) C dX3_responseAt_45 (by decide) ?_
    exact r_iret C dX3_responseAt_46 rfl rfl (xk0 hm) (xn0 hm)
  · refine r_aload_n C 0 dX3_responseAt_23 rfl rfl ?_
    refine r_aload_n C 1 dX3_responseAt_24 rfl rfl ?_
    refine r_iload_n C 2 dX3_responseAt_25 rfl rfl ?_
    refine r_iload C 4 dX3_responseAt_26 rfl ?_
    refine r_callVRi (rest := []) C (c_X3_demandAt hb1 l2 l4 M) dX3_responseAt_28 u_754 in_21 (contW_21 g _ _ _ _ _) rfl u_755 u_38 mi_X3_demandAt (by decide) rfl rfl (Nat.le_of_ble_eq_true rfl) (xk1 hm (by decide)) (xn1 hm (by decide)) (fun v5 h6 => ?_)
    refine r_iload C 4 dX3_responseAt_31 rfl ?_
    refine r_icmp_ne (tgt := 39) C dX3_responseAt_33 (by decide) (fun h7 => ?_) (fun h7 => ?_)
    · refine r_iload C 4 dX3_responseAt_36 rfl ?_
      exact r_iret C dX3_responseAt_38 rfl rfl (xk0 hm) (xn0 hm)
    · refine r_iinc (c := 1) (lv' := fun v8 => [(4, .int v8), (0, .ref (gA g 21 0 0)), (1, .ref (gA g 0 b1 0)), (2, .int l2), (3, .int l3)]) C 4 dX3_responseAt_39 rfl (by decide) (by decide) (fun _ => rfl) (fun v8 => ?_)
      refine r_goto (tgt := 17) C dX3_responseAt_42 (by decide) ?_
      refine r_lv [1, 2, 3, 4, 0] rfl ?_
      exact hk17 v8
set_option maxRecDepth 100000 in
set_option maxHeartbeats 4000000 in
theorem tl_X3_responseAt_17 {g : Gw} {x : Xw} (C : Cw g x cX3_responseAt RX3 5 (some .int) 3) (hm : x.2.2.2.2.2.2.2.2.2.2.2 = (0, 0)) {b1 : Nat} (hb1 : b1 < 8) (M : Mw) (l2 : Int32) (l3 : Int32) (n : Nat) : ∀ (l4 : Int32), Sw g x (fun v : Int32 => (some (.int v), M)) M 0 0 17 [(0, .ref (gA g 21 0 0)), (1, .ref (gA g 0 b1 0)), (2, .int l2), (3, .int l3), (4, .int l4)] [] (it (fun _ => none) (B_X3_responseAt_17 b1 l2 l3 M) n l4) := by
  induction n with
  | zero =>
    intro l4
    exact r_none
  | succ n ih =>
    intro l4
    exact t_X3_responseAt_17 C hm hb1 M l2 l3 _ ih l4
set_option maxRecDepth 100000 in
set_option maxHeartbeats 4000000 in
theorem c_X3_responseAt {g : Gw} {l : Launch} {b1 : Nat} (hb1 : b1 < 8) (p2 : Int32) (M : Mw) : Kw g l yX3_responseAt cX3_responseAt 5 (some .int) 3 0 0 [.ref (gA g 21 0 0), .ref (gA g 0 b1 0), .int p2] M (fun v : Int32 => (some (.int v), M)) (F_X3_responseAt b1 p2 M) := by
  refine Kw.of (own := RX3) (lv0 := [(0, .ref (gA g 21 0 0)), (1, .ref (gA g 0 b1 0)), (2, .int p2)]) (by decide +kernel) rfl (Nat.le_of_ble_eq_true rfl) rfl (fun x C hl hm => ?_)
  subst hl
  unfold F_X3_responseAt
  refine r_aload_n C 1 dX3_responseAt_0 rfl rfl ?_
  refine gf_0_10 C dX3_responseAt_1 u_219 (in_0 hb1) ?_
  refine r_aload_n C 0 dX3_responseAt_4 rfl rfl ?_
  refine gf_21_0 C dX3_responseAt_5 u_263 in_21 ?_
  refine r_iload_n C 2 dX3_responseAt_8 rfl rfl ?_
  refine r_iald C dX3_responseAt_9 in_22 (contW_22 g _ _ _ _ _) (fun h1 => ?_)
  refine r_aald (t0 := 5) (ty := .array .int) C dX3_responseAt_10 (in_3 hb1) (contW_3 g _ _ _ _ _) rfl rfl (fun h2 => ?_)
  refine r_iconst (v := 1) C dX3_responseAt_11 (by decide) ?_
  refine r_ialdc C dX3_responseAt_12 (in_4 hb1 (inb_lt h2)) (contW_4 g _ _ _ _ _) (by decide) (j := 1) (by decide) ?_
  refine r_istore_n (lv' := fun v3 => [(3, .int v3), (0, .ref (gA g 21 0 0)), (1, .ref (gA g 0 b1 0)), (2, .int p2)]) C dX3_responseAt_13 rfl (by decide) (fun _ => rfl) (fun v3 => ?_)
  refine r_iconst (v := 1) C dX3_responseAt_14 (by decide) ?_
  refine r_istore0 (lv' := [(4, .int 1), (3, .int v3), (0, .ref (gA g 21 0 0)), (1, .ref (gA g 0 b1 0)), (2, .int p2)]) C dX3_responseAt_15 (by decide) rfl ?_
  refine r_lv [2, 3, 4, 1, 0] rfl ?_
  exact tl_X3_responseAt_17 C hm hb1 M p2 v3 FU 1
def F_X9_response (p1 : Int32) (M : Mw) : Option (Int32 × Mw) :=
  ((F_X0_hasTask 1 p1 M).bind (fun v1 => (if v1 = 0 then some ((-2), M) else ((F_X3_lineUp (M.1 0 1 0 5) M).bind (fun M4 => ((F_X3_responseAt 1 p1 M4).bind (fun v6 => some (v6, M4))))))))
set_option maxRecDepth 100000 in
set_option maxHeartbeats 4000000 in
theorem c_X9_response {g : Gw} {l : Launch} (p1 : Int32) (M : Mw) : Kw g l yX9_response cX9_response 2 (some .int) 4 0 0 [.ref (gA g 41 0 0), .int p1] M (fun q : Int32 × Mw => (some (.int q.1), q.2)) (F_X9_response p1 M) := by
  refine Kw.of (own := RX9) (lv0 := [(0, .ref (gA g 41 0 0)), (1, .int p1)]) (by decide +kernel) rfl (Nat.le_of_ble_eq_true rfl) rfl (fun x C hl hm => ?_)
  subst hl
  unfold F_X9_response
  refine r_aload_n C 0 dX9_response_0 rfl rfl ?_
  refine gf_41_1 C dX9_response_1 u_365 in_41 ?_
  refine r_iload_n C 1 dX9_response_4 rfl rfl ?_
  refine r_callVRi (rest := []) C (c_X0_hasTask (by decide) p1 M) dX9_response_5 u_699 (in_0 (by decide)) (contW_0 g _ _ _ _ _) rfl u_510 u_511 mi_X0_hasTask (by decide) rfl rfl (Nat.le_of_ble_eq_true rfl) (xk1 hm (by decide)) (xn1 hm (by decide)) (fun v1 h2 => ?_)
  refine r_if_ne (tgt := 14) C dX9_response_8 (by decide) (fun h3 => ?_) (fun h3 => ?_)
  · refine r_bipush (v := (-2)) C dX9_response_11 (by decide) ?_
    exact r_iret C dX9_response_13 rfl rfl (xk0 hm) (xn0 hm)
  · refine r_aload_n C 0 dX9_response_14 rfl rfl ?_
    refine gf_41_5 C dX9_response_15 u_369 in_41 ?_
    refine r_aload_n C 0 dX9_response_18 rfl rfl ?_
    refine gf_41_1 C dX9_response_19 u_365 in_41 ?_
    refine gf_0_5 C dX9_response_22 u_204 (in_0 (by decide)) ?_
    refine r_callVU (rest := []) C (c_X3_lineUp (M.1 0 1 0 5) M) dX9_response_25 u_746 in_21 (contW_21 g _ _ _ _ _) rfl u_747 u_748 mi_X3_lineUp (by decide) rfl rfl (Nat.le_of_ble_eq_true rfl) (xk1 hm (by decide)) (xn1 hm (by decide)) (fun M4 h5 => ?_)
    refine r_aload_n C 0 dX9_response_28 rfl rfl ?_
    refine gf_41_5 C dX9_response_29 u_369 in_41 ?_
    refine r_aload_n C 0 dX9_response_32 rfl rfl ?_
    refine gf_41_1 C dX9_response_33 u_365 in_41 ?_
    refine r_iload_n C 1 dX9_response_36 rfl rfl ?_
    refine r_callVRi (rest := []) C (c_X3_responseAt (by decide) p1 M4) dX9_response_37 u_750 in_21 (contW_21 g _ _ _ _ _) rfl u_751 u_752 mi_X3_responseAt (by decide) rfl rfl (Nat.le_of_ble_eq_true rfl) (xk1 hm (by decide)) (xn1 hm (by decide)) (fun v6 h7 => ?_)
    exact r_iret C dX9_response_40 rfl rfl (xk0 hm) (xn0 hm)
def F_X9_divideCut (p1 : Int32) (p2 : Int32) (M : Mw) : Option (Int32) :=
  (if p2 ≤ 0 then some 0 else (if p2 = 0 then none else some (p1 / p2)))
set_option maxRecDepth 100000 in
set_option maxHeartbeats 4000000 in
theorem c_X9_divideCut {g : Gw} {l : Launch} (p1 : Int32) (p2 : Int32) (M : Mw) : Kw g l yX9_divideCut cX9_divideCut 2 (some .int) 1 0 0 [.int p1, .int p2] M (fun v : Int32 => (some (.int v), M)) (F_X9_divideCut p1 p2 M) := by
  refine Kw.of (own := RX9) (lv0 := [(0, .int p1), (1, .int p2)]) (by decide +kernel) rfl (Nat.le_of_ble_eq_true rfl) rfl (fun x C hl hm => ?_)
  subst hl
  unfold F_X9_divideCut
  refine r_iload_n C 1 dX9_divideCut_0 rfl rfl ?_
  refine r_if_le (tgt := 10) C dX9_divideCut_1 (by decide) (fun h1 => ?_) (fun h1 => ?_)
  · refine r_iconst (v := 0) C dX9_divideCut_10 (by decide) ?_
    exact r_iret C dX9_divideCut_11 rfl rfl (xk0 hm) (xn0 hm)
  · refine r_iload_n C 0 dX9_divideCut_4 rfl rfl ?_
    refine r_iload_n C 1 dX9_divideCut_5 rfl rfl ?_
    refine r_idiv C dX9_divideCut_6 (fun h2 => ?_)
    refine r_goto (tgt := 11) C dX9_divideCut_7 (by decide) ?_
    exact r_iret C dX9_divideCut_11 rfl rfl (xk0 hm) (xn0 hm)
def F_X3_limit (b1 : Nat) (p2 : Int32) (p3 : Int32) (p4 : Int32) (M : Mw) : Option (Int32) :=
  (if inb p2 5 then (bd (M.1 4 b1 p2.toNatClampNeg 1) (fun v2 => (if p4 = 0 then some (v2 - p3) else (if p4 = 1 then some (v2 + p3) else (if p4 = 2 then ((F_X9_divideCut ((M.1 0 b1 0 1) - p3) v2 M).bind (fun v6 => some (if 0 < v6 then v6 else 0))) else ((F_X9_divideUp ((M.1 0 b1 0 1) + p3) v2 M).bind (fun v8 => some v8))))))) else none)
set_option maxRecDepth 100000 in
set_option maxHeartbeats 4000000 in
theorem c_X3_limit {g : Gw} {l : Launch} {b1 : Nat} (hb1 : b1 < 8) (p2 : Int32) (p3 : Int32) (p4 : Int32) (M : Mw) : Kw g l yX3_limit cX3_limit 5 (some .int) 2 0 0 [.ref (gA g 0 b1 0), .int p2, .int p3, .int p4] M (fun v : Int32 => (some (.int v), M)) (F_X3_limit b1 p2 p3 p4 M) := by
  refine Kw.of (own := RX3) (lv0 := [(0, .ref (gA g 0 b1 0)), (1, .int p2), (2, .int p3), (3, .int p4)]) (by decide +kernel) rfl (Nat.le_of_ble_eq_true rfl) rfl (fun x C hl hm => ?_)
  subst hl
  unfold F_X3_limit
  refine r_aload_n C 0 dX3_limit_0 rfl rfl ?_
  refine gf_0_10 C dX3_limit_1 u_219 (in_0 hb1) ?_
  refine r_iload_n C 1 dX3_limit_4 rfl rfl ?_
  refine r_aald (t0 := 5) (ty := .array .int) C dX3_limit_5 (in_3 hb1) (contW_3 g _ _ _ _ _) rfl rfl (fun h1 => ?_)
  refine r_iconst (v := 1) C dX3_limit_6 (by decide) ?_
  refine r_ialdc C dX3_limit_7 (in_4 hb1 (inb_lt h1)) (contW_4 g _ _ _ _ _) (by decide) (j := 1) (by decide) ?_
  refine r_istore (lv' := fun v2 => [(4, .int v2), (0, .ref (gA g 0 b1 0)), (1, .int p2), (2, .int p3), (3, .int p4)]) C dX3_limit_8 (by decide) (fun _ => rfl) (fun v2 => ?_)
  refine r_iload_n C 4 dX3_limit_10 rfl rfl ?_
  refine r_ite (fun h3 => ?_) (fun h3 => ?_)
  · refine r_tsIn (v := 0) (tgt := 36) C dX3_limit_11 h3 (by decide) (by decide) rfl (by decide) ?_
    refine r_iload C 0 dX3_limit_36 rfl ?_
    refine r_iload_n C 3 dX3_limit_38 rfl rfl ?_
    refine r_isub C dX3_limit_39 ?_
    exact r_iret C dX3_limit_40 rfl rfl (xk0 hm) (xn0 hm)
  refine r_ite (fun h4 => ?_) (fun h4 => ?_)
  · refine r_tsIn (v := 1) (tgt := 41) C dX3_limit_11 h4 (by decide) (by decide) rfl (by decide) ?_
    refine r_iload C 0 dX3_limit_41 rfl ?_
    refine r_iload_n C 3 dX3_limit_43 rfl rfl ?_
    refine r_iadd C dX3_limit_44 ?_
    exact r_iret C dX3_limit_45 rfl rfl (xk0 hm) (xn0 hm)
  refine r_ite (fun h5 => ?_) (fun h5 => ?_)
  · refine r_tsIn (v := 2) (tgt := 46) C dX3_limit_11 h5 (by decide) (by decide) rfl (by decide) ?_
    refine r_iconst (v := 0) C dX3_limit_46 (by decide) ?_
    refine r_aload_n C 1 dX3_limit_47 rfl rfl ?_
    refine gf_0_1 C dX3_limit_48 u_185 (in_0 hb1) ?_
    refine r_iload_n C 3 dX3_limit_51 rfl rfl ?_
    refine r_isub C dX3_limit_52 ?_
    refine r_iload C 0 dX3_limit_53 rfl ?_
    refine r_callNRi (host := "WatchStack") (rest := [.int 0]) C (c_X9_divideCut ((M.1 0 b1 0 1) - p3) v2 M) dX3_limit_55 (by decide +kernel) u_770 mi_X9_divideCut (by decide) rfl rfl (Nat.le_of_ble_eq_true rfl) (xk1 hm (by decide)) (xn1 hm (by decide)) (fun v6 h7 => ?_)
    refine r_mmax C u_772 u_542 u_140 u_543 dX3_limit_58 (by decide) (Nat.le_of_ble_eq_true rfl) (xk1 hm (by decide)) (xn1 hm (by decide)) ?_
    exact r_iret C dX3_limit_61 rfl rfl (xk0 hm) (xn0 hm)
  refine r_tsOut (tgt := 62) C dX3_limit_11 (ts_out (fun z hz1 hz2 => ?_)) (by decide) ?_
  · have hz : z = 0 ∨ z = 1 ∨ z = 2 := by omega
    rcases hz with rfl | rfl | rfl
    · exact h3
    · exact h4
    · exact h5
  refine r_aload_n C 1 dX3_limit_62 rfl rfl ?_
  refine gf_0_1 C dX3_limit_63 u_185 (in_0 hb1) ?_
  refine r_iload_n C 3 dX3_limit_66 rfl rfl ?_
  refine r_iadd C dX3_limit_67 ?_
  refine r_iload C 0 dX3_limit_68 rfl ?_
  refine r_callNRi (host := "WatchStack") (rest := []) C (c_X9_divideUp ((M.1 0 b1 0 1) + p3) v2 M) dX3_limit_70 (by decide +kernel) u_760 mi_X9_divideUp (by decide) rfl rfl (Nat.le_of_ble_eq_true rfl) (xk1 hm (by decide)) (xn1 hm (by decide)) (fun v8 h9 => ?_)
  exact r_iret C dX3_limit_73 rfl rfl (xk0 hm) (xn0 hm)
def F_X9_least (p1 : Int32) (p2 : Int32) (M : Mw) : Option (Int32 × Mw) :=
  ((F_X0_hasTask 1 p1 M).bind (fun v1 => (if v1 = 0 then some ((-2), M) else (if p2 < 0 then some ((-2), M) else (if p2 ≤ 3 then ((F_X9_response p1 M).bind (fun q6 => (bd q6.1 (fun v8 => (if v8 = (-1) then some ((-1), q6.2) else (if inb p1 5 then ((F_X3_limit 1 p1 (v8 - (q6.2.1 10 1 p1.toNatClampNeg 0)) p2 q6.2).bind (fun v11 => some (v11, q6.2))) else none)))))) else some ((-2), M))))))
set_option maxRecDepth 100000 in
set_option maxHeartbeats 4000000 in
theorem c_X9_least {g : Gw} {l : Launch} (p1 : Int32) (p2 : Int32) (M : Mw) : Kw g l yX9_least cX9_least 4 (some .int) 5 0 0 [.ref (gA g 41 0 0), .int p1, .int p2] M (fun q : Int32 × Mw => (some (.int q.1), q.2)) (F_X9_least p1 p2 M) := by
  refine Kw.of (own := RX9) (lv0 := [(0, .ref (gA g 41 0 0)), (1, .int p1), (2, .int p2)]) (by decide +kernel) rfl (Nat.le_of_ble_eq_true rfl) rfl (fun x C hl hm => ?_)
  subst hl
  unfold F_X9_least
  refine r_aload_n C 0 dX9_least_0 rfl rfl ?_
  refine gf_41_1 C dX9_least_1 u_365 in_41 ?_
  refine r_iload_n C 1 dX9_least_4 rfl rfl ?_
  refine r_callVRi (rest := []) C (c_X0_hasTask (by decide) p1 M) dX9_least_5 u_699 (in_0 (by decide)) (contW_0 g _ _ _ _ _) rfl u_510 u_511 mi_X0_hasTask (by decide) rfl rfl (Nat.le_of_ble_eq_true rfl) (xk1 hm (by decide)) (xn1 hm (by decide)) (fun v1 h2 => ?_)
  refine r_if_eq (tgt := 20) C dX9_least_8 (by decide) (fun h3 => ?_) (fun h3 => ?_)
  · refine r_bipush (v := (-2)) C dX9_least_20 (by decide) ?_
    exact r_iret C dX9_least_22 rfl rfl (xk0 hm) (xn0 hm)
  · refine r_iload_n C 2 dX9_least_11 rfl rfl ?_
    refine r_if_lt (tgt := 20) C dX9_least_12 (by decide) (fun h4 => ?_) (fun h4 => ?_)
    · refine r_bipush (v := (-2)) C dX9_least_20 (by decide) ?_
      exact r_iret C dX9_least_22 rfl rfl (xk0 hm) (xn0 hm)
    · refine r_iload_n C 2 dX9_least_15 rfl rfl ?_
      refine r_iconst (v := 3) C dX9_least_16 (by decide) ?_
      refine r_icmp_le (tgt := 23) C dX9_least_17 (by decide) (fun h5 => ?_) (fun h5 => ?_)
      · refine r_aload_n C 0 dX9_least_23 rfl rfl ?_
        refine r_iload_n C 1 dX9_least_24 rfl rfl ?_
        refine r_callVWi (rest := []) C (c_X9_response p1 M) dX9_least_25 u_766 in_41 (contW_41 g _ _ _ _ _) rfl u_743 u_744 mi_X9_response (by decide) rfl rfl (Nat.le_of_ble_eq_true rfl) (xk1 hm (by decide)) (xn1 hm (by decide)) (fun q6 h7 => ?_)
        refine r_istore_n (lv' := fun v8 => [(3, .int v8), (0, .ref (gA g 41 0 0)), (1, .int p1), (2, .int p2)]) C dX9_least_28 rfl (by decide) (fun _ => rfl) (fun v8 => ?_)
        refine r_iload_n C 0 dX9_least_29 rfl rfl ?_
        refine r_iconst (v := (-1)) C dX9_least_30 (by decide) ?_
        refine r_icmp_ne (tgt := 36) C dX9_least_31 (by decide) (fun h9 => ?_) (fun h9 => ?_)
        · refine r_iconst (v := (-1)) C dX9_least_34 (by decide) ?_
          exact r_iret C dX9_least_35 rfl rfl (xk0 hm) (xn0 hm)
        · refine r_aload_n C 1 dX9_least_36 rfl rfl ?_
          refine gf_41_1 C dX9_least_37 u_365 in_41 ?_
          refine r_iload_n C 2 dX9_least_40 rfl rfl ?_
          refine r_iload_n C 0 dX9_least_41 rfl rfl ?_
          refine r_aload_n C 1 dX9_least_42 rfl rfl ?_
          refine gf_41_1 C dX9_least_43 u_365 in_41 ?_
          refine gf_0_13 C dX9_least_46 u_235 (in_0 (by decide)) ?_
          refine r_iload_n C 2 dX9_least_49 rfl rfl ?_
          refine r_aald (t0 := 5) (ty := .array .int) C dX9_least_50 (in_9 (by decide)) (contW_9 g _ _ _ _ _) rfl rfl (fun h10 => ?_)
          refine r_iconst (v := 0) C dX9_least_51 (by decide) ?_
          refine r_ialdc C dX9_least_52 (in_10 (by decide) (inb_lt h10)) (contW_10 g _ _ _ _ _) (by decide) (j := 0) (by decide) ?_
          refine r_isub C dX9_least_53 ?_
          refine r_iload_n C 3 dX9_least_54 rfl rfl ?_
          refine r_callSRi (rest := []) C (c_X3_limit (by decide) p1 (v8 - (q6.2.1 10 1 p1.toNatClampNeg 0)) p2 q6.2) dX9_least_55 u_767 u_768 mi_X3_limit (by decide) rfl rfl (Nat.le_of_ble_eq_true rfl) (xk1 hm (by decide)) (xn1 hm (by decide)) (fun v11 h12 => ?_)
          exact r_iret C dX9_least_58 rfl rfl (xk0 hm) (xn0 hm)
      · refine r_bipush (v := (-2)) C dX9_least_20 (by decide) ?_
        exact r_iret C dX9_least_22 rfl rfl (xk0 hm) (xn0 hm)
def F_X3_isLawful (b1 : Nat) (p2 : Int32) (M : Mw) : Option (Int32) :=
  ((F_X3_responseAt b1 p2 M).bind (fun v1 => (if v1 = (-1) then some 0 else (if inb p2 5 then (bd (M.1 22 0 0 p2.toNatClampNeg) (fun v5 => (if inb v5 5 then ((F_X3_costOf b1 v5 0 M).bind (fun v7 => (bd (v1 - v7) (fun v9 => ((F_X3_limit b1 v5 v9 0 M).bind (fun v10 => (if v10 < (M.1 4 b1 v5.toNatClampNeg 2) then some 0 else ((F_X3_limit b1 v5 v9 1 M).bind (fun v13 => (if (M.1 4 b1 v5.toNatClampNeg 3) < v13 then some 0 else ((F_X3_limit b1 v5 v9 2 M).bind (fun v16 => (if v16 < (M.1 4 b1 v5.toNatClampNeg 4) then some 0 else ((F_X3_limit b1 v5 v9 3 M).bind (fun v19 => (if (M.1 4 b1 v5.toNatClampNeg 5) < v19 then some 0 else some 1)))))))))))))))) else none))) else none))))
set_option maxRecDepth 100000 in
set_option maxHeartbeats 4000000 in
theorem c_X3_isLawful {g : Gw} {l : Launch} {b1 : Nat} (hb1 : b1 < 8) (p2 : Int32) (M : Mw) : Kw g l yX3_isLawful cX3_isLawful 7 (some .boolean) 4 0 0 [.ref (gA g 21 0 0), .ref (gA g 0 b1 0), .int p2] M (fun v : Int32 => (some (.int v), M)) (F_X3_isLawful b1 p2 M) := by
  refine Kw.of (own := RX3) (lv0 := [(0, .ref (gA g 21 0 0)), (1, .ref (gA g 0 b1 0)), (2, .int p2)]) (by decide +kernel) rfl (Nat.le_of_ble_eq_true rfl) rfl (fun x C hl hm => ?_)
  subst hl
  unfold F_X3_isLawful
  refine r_aload_n C 0 dX3_isLawful_0 rfl rfl ?_
  refine r_aload_n C 1 dX3_isLawful_1 rfl rfl ?_
  refine r_iload_n C 2 dX3_isLawful_2 rfl rfl ?_
  refine r_callVRi (rest := []) C (c_X3_responseAt hb1 p2 M) dX3_isLawful_3 u_789 in_21 (contW_21 g _ _ _ _ _) rfl u_751 u_752 mi_X3_responseAt (by decide) rfl rfl (Nat.le_of_ble_eq_true rfl) (xk1 hm (by decide)) (xn1 hm (by decide)) (fun v1 h2 => ?_)
  refine r_istore_n0 (lv' := [(3, .int v1), (0, .ref (gA g 21 0 0)), (1, .ref (gA g 0 b1 0)), (2, .int p2)]) C dX3_isLawful_6 rfl (by decide) rfl ?_
  refine r_iload_n C 0 dX3_isLawful_7 rfl rfl ?_
  refine r_iconst (v := (-1)) C dX3_isLawful_8 (by decide) ?_
  refine r_icmp_ne (tgt := 14) C dX3_isLawful_9 (by decide) (fun h3 => ?_) (fun h3 => ?_)
  · refine r_iconst (v := 0) C dX3_isLawful_12 (by decide) ?_
    exact r_zretc C dX3_isLawful_13 rfl bz0 rfl (xk0 hm) (xn0 hm)
  · refine r_aload_n C 1 dX3_isLawful_14 rfl rfl ?_
    refine gf_21_0 C dX3_isLawful_15 u_263 in_21 ?_
    refine r_iload_n C 3 dX3_isLawful_18 rfl rfl ?_
    refine r_iald C dX3_isLawful_19 in_22 (contW_22 g _ _ _ _ _) (fun h4 => ?_)
    refine r_istore (lv' := fun v5 => [(4, .int v5), (3, .int v1), (0, .ref (gA g 21 0 0)), (1, .ref (gA g 0 b1 0)), (2, .int p2)]) C dX3_isLawful_20 (by decide) (fun _ => rfl) (fun v5 => ?_)
    refine r_aload_n C 3 dX3_isLawful_22 rfl rfl ?_
    refine gf_0_10 C dX3_isLawful_23 u_219 (in_0 hb1) ?_
    refine r_iload C 0 dX3_isLawful_26 rfl ?_
    refine r_aald (t0 := 5) (ty := .array .int) C dX3_isLawful_28 (in_3 hb1) (contW_3 g _ _ _ _ _) rfl rfl (fun h6 => ?_)
    refine r_astore (lv' := [(5, .ref (gA g 4 b1 v5.toNatClampNeg)), (4, .int v5), (3, .int v1), (0, .ref (gA g 21 0 0)), (1, .ref (gA g 0 b1 0)), (2, .int p2)]) C dX3_isLawful_29 (by decide) rfl ?_
    refine r_iload_n C 2 dX3_isLawful_31 rfl rfl ?_
    refine r_aload_n C 3 dX3_isLawful_32 rfl rfl ?_
    refine r_aload_n C 4 dX3_isLawful_33 rfl rfl ?_
    refine r_iload C 1 dX3_isLawful_34 rfl ?_
    refine r_iconst (v := 0) C dX3_isLawful_36 (by decide) ?_
    refine r_callVRi (rest := [.int v1]) C (c_X3_costOf hb1 v5 0 M) dX3_isLawful_37 u_757 in_21 (contW_21 g _ _ _ _ _) rfl u_758 u_39 mi_X3_costOf (by decide) rfl rfl (Nat.le_of_ble_eq_true rfl) (xk1 hm (by decide)) (xn1 hm (by decide)) (fun v7 h8 => ?_)
    refine r_isub C dX3_isLawful_40 ?_
    refine r_istore (lv' := fun v9 => [(6, .int v9), (5, .ref (gA g 4 b1 v5.toNatClampNeg)), (4, .int v5), (3, .int v1), (0, .ref (gA g 21 0 0)), (1, .ref (gA g 0 b1 0)), (2, .int p2)]) C dX3_isLawful_41 (by decide) (fun _ => rfl) (fun v9 => ?_)
    refine r_aload C 1 dX3_isLawful_43 rfl ?_
    refine r_iconst (v := 2) C dX3_isLawful_45 (by decide) ?_
    refine r_ialdc C dX3_isLawful_46 (in_4 hb1 (inb_lt h6)) (contW_4 g _ _ _ _ _) (by decide) (j := 2) (by decide) ?_
    refine r_aload_n C 5 dX3_isLawful_47 rfl rfl ?_
    refine r_iload C 2 dX3_isLawful_48 rfl ?_
    refine r_iload C 0 dX3_isLawful_50 rfl ?_
    refine r_iconst (v := 0) C dX3_isLawful_52 (by decide) ?_
    refine r_callSRi (rest := [.int (M.1 4 b1 v5.toNatClampNeg 2)]) C (c_X3_limit hb1 v5 v9 0 M) dX3_isLawful_53 u_790 u_768 mi_X3_limit (by decide) rfl rfl (Nat.le_of_ble_eq_true rfl) (xk1 hm (by decide)) (xn1 hm (by decide)) (fun v10 h11 => ?_)
    refine r_icmp_gt (tgt := 111) C dX3_isLawful_56 (by decide) (fun h12 => ?_) (fun h12 => ?_)
    · refine r_iconst (v := 0) C dX3_isLawful_111 (by decide) ?_
      exact r_zretc C dX3_isLawful_112 rfl bz0 rfl (xk0 hm) (xn0 hm)
    · refine r_aload C 1 dX3_isLawful_59 rfl ?_
      refine r_iconst (v := 3) C dX3_isLawful_61 (by decide) ?_
      refine r_ialdc C dX3_isLawful_62 (in_4 hb1 (inb_lt h6)) (contW_4 g _ _ _ _ _) (by decide) (j := 3) (by decide) ?_
      refine r_aload_n C 5 dX3_isLawful_63 rfl rfl ?_
      refine r_iload C 2 dX3_isLawful_64 rfl ?_
      refine r_iload C 0 dX3_isLawful_66 rfl ?_
      refine r_iconst (v := 1) C dX3_isLawful_68 (by decide) ?_
      refine r_callSRi (rest := [.int (M.1 4 b1 v5.toNatClampNeg 3)]) C (c_X3_limit hb1 v5 v9 1 M) dX3_isLawful_69 u_790 u_768 mi_X3_limit (by decide) rfl rfl (Nat.le_of_ble_eq_true rfl) (xk1 hm (by decide)) (xn1 hm (by decide)) (fun v13 h14 => ?_)
      refine r_icmp_lt (tgt := 111) C dX3_isLawful_72 (by decide) (fun h15 => ?_) (fun h15 => ?_)
      · refine r_iconst (v := 0) C dX3_isLawful_111 (by decide) ?_
        exact r_zretc C dX3_isLawful_112 rfl bz0 rfl (xk0 hm) (xn0 hm)
      · refine r_aload C 1 dX3_isLawful_75 rfl ?_
        refine r_iconst (v := 4) C dX3_isLawful_77 (by decide) ?_
        refine r_ialdc C dX3_isLawful_78 (in_4 hb1 (inb_lt h6)) (contW_4 g _ _ _ _ _) (by decide) (j := 4) (by decide) ?_
        refine r_aload_n C 5 dX3_isLawful_79 rfl rfl ?_
        refine r_iload C 2 dX3_isLawful_80 rfl ?_
        refine r_iload C 0 dX3_isLawful_82 rfl ?_
        refine r_iconst (v := 2) C dX3_isLawful_84 (by decide) ?_
        refine r_callSRi (rest := [.int (M.1 4 b1 v5.toNatClampNeg 4)]) C (c_X3_limit hb1 v5 v9 2 M) dX3_isLawful_85 u_790 u_768 mi_X3_limit (by decide) rfl rfl (Nat.le_of_ble_eq_true rfl) (xk1 hm (by decide)) (xn1 hm (by decide)) (fun v16 h17 => ?_)
        refine r_icmp_gt (tgt := 111) C dX3_isLawful_88 (by decide) (fun h18 => ?_) (fun h18 => ?_)
        · refine r_iconst (v := 0) C dX3_isLawful_111 (by decide) ?_
          exact r_zretc C dX3_isLawful_112 rfl bz0 rfl (xk0 hm) (xn0 hm)
        · refine r_aload C 1 dX3_isLawful_91 rfl ?_
          refine r_iconst (v := 5) C dX3_isLawful_93 (by decide) ?_
          refine r_ialdc C dX3_isLawful_94 (in_4 hb1 (inb_lt h6)) (contW_4 g _ _ _ _ _) (by decide) (j := 5) (by decide) ?_
          refine r_aload_n C 5 dX3_isLawful_95 rfl rfl ?_
          refine r_iload C 2 dX3_isLawful_96 rfl ?_
          refine r_iload C 0 dX3_isLawful_98 rfl ?_
          refine r_iconst (v := 3) C dX3_isLawful_100 (by decide) ?_
          refine r_callSRi (rest := [.int (M.1 4 b1 v5.toNatClampNeg 5)]) C (c_X3_limit hb1 v5 v9 3 M) dX3_isLawful_101 u_790 u_768 mi_X3_limit (by decide) rfl rfl (Nat.le_of_ble_eq_true rfl) (xk1 hm (by decide)) (xn1 hm (by decide)) (fun v19 h20 => ?_)
          refine r_icmp_lt (tgt := 111) C dX3_isLawful_104 (by decide) (fun h21 => ?_) (fun h21 => ?_)
          · refine r_iconst (v := 0) C dX3_isLawful_111 (by decide) ?_
            exact r_zretc C dX3_isLawful_112 rfl bz0 rfl (xk0 hm) (xn0 hm)
          · refine r_iconst (v := 1) C dX3_isLawful_107 (by decide) ?_
            refine r_goto (tgt := 112) C dX3_isLawful_108 (by decide) ?_
            exact r_zretc C dX3_isLawful_112 rfl bz1 rfl (xk0 hm) (xn0 hm)
def B_X3_lawfulBits_12 (b1 : Nat) (M : Mw) (k12 : Int32 → Int32 → Option (Int32 × Mw)) (l2 : Int32) (l3 : Int32) : Option (Int32 × Mw) :=
  (if (M.1 0 b1 0 5) ≤ l3 then some (l2, M) else ((F_X3_isLawful b1 l3 M).bind (fun v4 => (if v4 = 0 then (bd (l3 + 1) (fun v7 => (k12 l2 v7))) else (bd (l2 ||| (1 <<< (l3 &&& 31))) (fun v8 => (bd (l3 + 1) (fun v9 => (k12 v8 v9)))))))))
def F_X3_lawfulBits (b1 : Nat) (M : Mw) : Option (Int32 × Mw) :=
  ((F_X3_lineUp (M.1 0 b1 0 5) M).bind (fun M1 => (it (fun _ _ => none) (B_X3_lawfulBits_12 b1 M1) FU 0 0)))
set_option maxRecDepth 100000 in
set_option maxHeartbeats 4000000 in
theorem t_X3_lawfulBits_12 {g : Gw} {x : Xw} (C : Cw g x cX3_lawfulBits RX3 4 (some .int) 5) (hm : x.2.2.2.2.2.2.2.2.2.2.2 = (0, 0)) {b1 : Nat} (hb1 : b1 < 8) (M : Mw) (k12 : Int32 → Int32 → Option (Int32 × Mw)) (hk12 : ∀ (l2 : Int32) (l3 : Int32), Sw g x (fun q : Int32 × Mw => (some (.int q.1), q.2)) M 0 0 12 [(0, .ref (gA g 21 0 0)), (1, .ref (gA g 0 b1 0)), (2, .int l2), (3, .int l3)] [] (k12 l2 l3)) (l2 : Int32) (l3 : Int32) : Sw g x (fun q : Int32 × Mw => (some (.int q.1), q.2)) M 0 0 12 [(0, .ref (gA g 21 0 0)), (1, .ref (gA g 0 b1 0)), (2, .int l2), (3, .int l3)] [] (B_X3_lawfulBits_12 b1 M k12 l2 l3) := by
  unfold B_X3_lawfulBits_12
  refine r_iload_n C 3 dX3_lawfulBits_12 rfl rfl ?_
  refine r_aload_n C 1 dX3_lawfulBits_13 rfl rfl ?_
  refine gf_0_5 C dX3_lawfulBits_14 u_203 (in_0 hb1) ?_
  refine r_icmp_ge (tgt := 41) C dX3_lawfulBits_17 (by decide) (fun h3 => ?_) (fun h3 => ?_)
  · refine r_iload_n C 2 dX3_lawfulBits_41 rfl rfl ?_
    exact r_iret C dX3_lawfulBits_42 rfl rfl (xk0 hm) (xn0 hm)
  · refine r_aload_n C 0 dX3_lawfulBits_20 rfl rfl ?_
    refine r_aload_n C 1 dX3_lawfulBits_21 rfl rfl ?_
    refine r_iload_n C 3 dX3_lawfulBits_22 rfl rfl ?_
    refine r_callVRi (rest := []) C (c_X3_isLawful hb1 l3 M) dX3_lawfulBits_23 u_786 in_21 (contW_21 g _ _ _ _ _) rfl u_787 u_40 mi_X3_isLawful (by decide) rfl rfl (Nat.le_of_ble_eq_true rfl) (xk1 hm (by decide)) (xn1 hm (by decide)) (fun v4 h5 => ?_)
    refine r_if_eq (tgt := 35) C dX3_lawfulBits_26 (by decide) (fun h6 => ?_) (fun h6 => ?_)
    · refine r_iinc (c := 1) (lv' := fun v7 => [(3, .int v7), (0, .ref (gA g 21 0 0)), (1, .ref (gA g 0 b1 0)), (2, .int l2)]) C 3 dX3_lawfulBits_35 rfl (by decide) (by decide) (fun _ => rfl) (fun v7 => ?_)
      refine r_goto (tgt := 12) C dX3_lawfulBits_38 (by decide) ?_
      refine r_lv [1, 2, 3, 0] rfl ?_
      exact hk12 l2 v7
    · refine r_iload_n C 2 dX3_lawfulBits_29 rfl rfl ?_
      refine r_iconst (v := 1) C dX3_lawfulBits_30 (by decide) ?_
      refine r_iload_n C 3 dX3_lawfulBits_31 rfl rfl ?_
      refine r_ishl C dX3_lawfulBits_32 ?_
      refine r_ior C dX3_lawfulBits_33 ?_
      refine r_istore_n (lv' := fun v8 => [(2, .int v8), (0, .ref (gA g 21 0 0)), (1, .ref (gA g 0 b1 0)), (3, .int l3)]) C dX3_lawfulBits_34 rfl (by decide) (fun _ => rfl) (fun v8 => ?_)
      refine r_iinc (c := 1) (lv' := fun v9 => [(3, .int v9), (2, .int v8), (0, .ref (gA g 21 0 0)), (1, .ref (gA g 0 b1 0))]) C 3 dX3_lawfulBits_35 rfl (by decide) (by decide) (fun _ => rfl) (fun v9 => ?_)
      refine r_goto (tgt := 12) C dX3_lawfulBits_38 (by decide) ?_
      refine r_lv [2, 3, 1, 0] rfl ?_
      exact hk12 v8 v9
set_option maxRecDepth 100000 in
set_option maxHeartbeats 4000000 in
theorem tl_X3_lawfulBits_12 {g : Gw} {x : Xw} (C : Cw g x cX3_lawfulBits RX3 4 (some .int) 5) (hm : x.2.2.2.2.2.2.2.2.2.2.2 = (0, 0)) {b1 : Nat} (hb1 : b1 < 8) (M : Mw) (n : Nat) : ∀ (l2 : Int32) (l3 : Int32), Sw g x (fun q : Int32 × Mw => (some (.int q.1), q.2)) M 0 0 12 [(0, .ref (gA g 21 0 0)), (1, .ref (gA g 0 b1 0)), (2, .int l2), (3, .int l3)] [] (it (fun _ _ => none) (B_X3_lawfulBits_12 b1 M) n l2 l3) := by
  induction n with
  | zero =>
    intro l2 l3
    exact r_none
  | succ n ih =>
    intro l2 l3
    exact t_X3_lawfulBits_12 C hm hb1 M _ ih l2 l3
set_option maxRecDepth 100000 in
set_option maxHeartbeats 4000000 in
theorem c_X3_lawfulBits {g : Gw} {l : Launch} {b1 : Nat} (hb1 : b1 < 8) (M : Mw) : Kw g l yX3_lawfulBits cX3_lawfulBits 4 (some .int) 5 0 0 [.ref (gA g 21 0 0), .ref (gA g 0 b1 0)] M (fun q : Int32 × Mw => (some (.int q.1), q.2)) (F_X3_lawfulBits b1 M) := by
  refine Kw.of (own := RX3) (lv0 := [(0, .ref (gA g 21 0 0)), (1, .ref (gA g 0 b1 0))]) (by decide +kernel) rfl (Nat.le_of_ble_eq_true rfl) rfl (fun x C hl hm => ?_)
  subst hl
  unfold F_X3_lawfulBits
  refine r_aload_n C 0 dX3_lawfulBits_0 rfl rfl ?_
  refine r_aload_n C 1 dX3_lawfulBits_1 rfl rfl ?_
  refine gf_0_5 C dX3_lawfulBits_2 u_203 (in_0 hb1) ?_
  refine r_callVU (rest := []) C (c_X3_lineUp (M.1 0 b1 0 5) M) dX3_lawfulBits_5 u_785 in_21 (contW_21 g _ _ _ _ _) rfl u_747 u_748 mi_X3_lineUp (by decide) rfl rfl (Nat.le_of_ble_eq_true rfl) (xk1 hm (by decide)) (xn1 hm (by decide)) (fun M1 h2 => ?_)
  refine r_iconst (v := 0) C dX3_lawfulBits_8 (by decide) ?_
  refine r_istore_n0 (lv' := [(2, .int 0), (0, .ref (gA g 21 0 0)), (1, .ref (gA g 0 b1 0))]) C dX3_lawfulBits_9 rfl (by decide) rfl ?_
  refine r_iconst (v := 0) C dX3_lawfulBits_10 (by decide) ?_
  refine r_istore_n0 (lv' := [(3, .int 0), (2, .int 0), (0, .ref (gA g 21 0 0)), (1, .ref (gA g 0 b1 0))]) C dX3_lawfulBits_11 rfl (by decide) rfl ?_
  refine r_lv [2, 3, 1, 0] rfl ?_
  exact tl_X3_lawfulBits_12 C hm hb1 M1 FU 0 0
def B_X3_roomOf_56 (b1 : Nat) (l4 : Int32) (M : Mw) : Option (Int32 × Mw) :=
  (bd (uIw M 21 0 0 1 (-1)) (fun M6 => (bd (uIw M6 21 0 0 2 0) (fun M7 => some (l4, M7)))))
def B_X3_roomOf_18 (b1 : Nat) (l3 : Int32) (k18 : Int32 → Int32 → Mw → Option (Int32 × Mw)) (l4 : Int32) (l5 : Int32) (M : Mw) : Option (Int32 × Mw) :=
  (if l5 ≤ 0 then (B_X3_roomOf_56 b1 l4 M) else (if l4 = 0 then (bd (uIw M 21 0 0 2 l5) (fun M9 => ((F_X3_lawfulBits b1 M9).bind (fun q10 => (if (l3 &&& (q10.1 ^^^ (-1))) = 0 then (bd (l5 + (-1)) (fun v14 => (k18 l5 v14 q10.2))) else (bd (l5 + (-1)) (fun v13 => (k18 l4 v13 q10.2)))))))) else (B_X3_roomOf_56 b1 l4 M)))
def F_X3_roomOf (b1 : Nat) (p2 : Int32) (M : Mw) : Option (Int32 × Mw) :=
  ((F_X3_lawfulBits b1 M).bind (fun q1 => (bd q1.1 (fun v3 => (bd (uIw q1.2 21 0 0 1 p2) (fun M4 => (it (fun _ _ _ => none) (B_X3_roomOf_18 b1 v3) FU 0 50 M4)))))))
set_option maxRecDepth 100000 in
set_option maxHeartbeats 4000000 in
theorem t_X3_roomOf_56 {g : Gw} {x : Xw} (C : Cw g x cX3_roomOf RX3 6 (some .int) 6) (hm : x.2.2.2.2.2.2.2.2.2.2.2 = (0, 0)) {b1 : Nat} (hb1 : b1 < 8) (l4 : Int32) (M : Mw) : Sw g x (fun q : Int32 × Mw => (some (.int q.1), q.2)) M 0 0 56 [(0, .ref (gA g 21 0 0)), (4, .int l4)] [] (B_X3_roomOf_56 b1 l4 M) := by
  unfold B_X3_roomOf_56
  refine r_aload_n C 0 dX3_roomOf_56 rfl rfl ?_
  refine r_iconst (v := (-1)) C dX3_roomOf_57 (by decide) ?_
  refine pf_21_1 C dX3_roomOf_58 u_265 in_21 (fun M6 => ?_)
  refine r_aload_n C 0 dX3_roomOf_61 rfl rfl ?_
  refine r_iconst (v := 0) C dX3_roomOf_62 (by decide) ?_
  refine pf_21_2 C dX3_roomOf_63 u_266 in_21 (fun M7 => ?_)
  refine r_iload C 1 dX3_roomOf_66 rfl ?_
  exact r_iret C dX3_roomOf_68 rfl rfl (xk0 hm) (xn0 hm)
set_option maxRecDepth 100000 in
set_option maxHeartbeats 4000000 in
theorem t_X3_roomOf_18 {g : Gw} {x : Xw} (C : Cw g x cX3_roomOf RX3 6 (some .int) 6) (hm : x.2.2.2.2.2.2.2.2.2.2.2 = (0, 0)) {b1 : Nat} (hb1 : b1 < 8) (l3 : Int32) (k18 : Int32 → Int32 → Mw → Option (Int32 × Mw)) (hk18 : ∀ (l4 : Int32) (l5 : Int32) (M : Mw), Sw g x (fun q : Int32 × Mw => (some (.int q.1), q.2)) M 0 0 18 [(0, .ref (gA g 21 0 0)), (1, .ref (gA g 0 b1 0)), (3, .int l3), (4, .int l4), (5, .int l5)] [] (k18 l4 l5 M)) (l4 : Int32) (l5 : Int32) (M : Mw) : Sw g x (fun q : Int32 × Mw => (some (.int q.1), q.2)) M 0 0 18 [(0, .ref (gA g 21 0 0)), (1, .ref (gA g 0 b1 0)), (3, .int l3), (4, .int l4), (5, .int l5)] [] (B_X3_roomOf_18 b1 l3 k18 l4 l5 M) := by
  unfold B_X3_roomOf_18
  refine r_iload C 4 dX3_roomOf_18 rfl ?_
  refine r_if_le (tgt := 56) C dX3_roomOf_20 (by decide) (fun h5 => ?_) (fun h5 => ?_)
  · refine r_lv [0, 3] rfl ?_
    exact t_X3_roomOf_56 C hm hb1 l4 M
  · refine r_iload C 3 dX3_roomOf_23 rfl ?_
    refine r_if_ne (tgt := 56) C dX3_roomOf_25 (by decide) (fun h8 => ?_) (fun h8 => ?_)
    · refine r_aload_n C 0 dX3_roomOf_28 rfl rfl ?_
      refine r_iload C 4 dX3_roomOf_29 rfl ?_
      refine pf_21_2 C dX3_roomOf_31 u_266 in_21 (fun M9 => ?_)
      refine r_iload_n C 2 dX3_roomOf_34 rfl rfl ?_
      refine r_aload_n C 0 dX3_roomOf_35 rfl rfl ?_
      refine r_aload_n C 1 dX3_roomOf_36 rfl rfl ?_
      refine r_callVWi (rest := [.int l3]) C (c_X3_lawfulBits hb1 M9) dX3_roomOf_37 u_781 in_21 (contW_21 g _ _ _ _ _) rfl u_782 u_783 mi_X3_lawfulBits (by decide) rfl rfl (Nat.le_of_ble_eq_true rfl) (xk1 hm (by decide)) (xn1 hm (by decide)) (fun q10 h11 => ?_)
      refine r_iconst (v := (-1)) C dX3_roomOf_40 (by decide) ?_
      refine r_ixor C dX3_roomOf_41 ?_
      refine r_iand C dX3_roomOf_42 ?_
      refine r_if_ne (tgt := 50) C dX3_roomOf_43 (by decide) (fun h12 => ?_) (fun h12 => ?_)
      · refine r_iload C 4 dX3_roomOf_46 rfl ?_
        refine r_istore0 (lv' := [(4, .int l5), (0, .ref (gA g 21 0 0)), (1, .ref (gA g 0 b1 0)), (3, .int l3), (5, .int l5)]) C dX3_roomOf_48 (by decide) rfl ?_
        refine r_iinc (c := (-1)) (lv' := fun v14 => [(5, .int v14), (4, .int l5), (0, .ref (gA g 21 0 0)), (1, .ref (gA g 0 b1 0)), (3, .int l3)]) C 4 dX3_roomOf_50 rfl (by decide) (by decide) (fun _ => rfl) (fun v14 => ?_)
        refine r_goto (tgt := 18) C dX3_roomOf_53 (by decide) ?_
        refine r_lv [2, 3, 4, 1, 0] rfl ?_
        exact hk18 l5 v14 q10.2
      · refine r_iinc (c := (-1)) (lv' := fun v13 => [(5, .int v13), (0, .ref (gA g 21 0 0)), (1, .ref (gA g 0 b1 0)), (3, .int l3), (4, .int l4)]) C 4 dX3_roomOf_50 rfl (by decide) (by decide) (fun _ => rfl) (fun v13 => ?_)
        refine r_goto (tgt := 18) C dX3_roomOf_53 (by decide) ?_
        refine r_lv [1, 2, 3, 4, 0] rfl ?_
        exact hk18 l4 v13 q10.2
    · refine r_lv [0, 3] rfl ?_
      exact t_X3_roomOf_56 C hm hb1 l4 M
set_option maxRecDepth 100000 in
set_option maxHeartbeats 4000000 in
theorem tl_X3_roomOf_18 {g : Gw} {x : Xw} (C : Cw g x cX3_roomOf RX3 6 (some .int) 6) (hm : x.2.2.2.2.2.2.2.2.2.2.2 = (0, 0)) {b1 : Nat} (hb1 : b1 < 8) (l3 : Int32) (n : Nat) : ∀ (l4 : Int32) (l5 : Int32) (M : Mw), Sw g x (fun q : Int32 × Mw => (some (.int q.1), q.2)) M 0 0 18 [(0, .ref (gA g 21 0 0)), (1, .ref (gA g 0 b1 0)), (3, .int l3), (4, .int l4), (5, .int l5)] [] (it (fun _ _ _ => none) (B_X3_roomOf_18 b1 l3) n l4 l5 M) := by
  induction n with
  | zero =>
    intro l4 l5 M
    exact r_none
  | succ n ih =>
    intro l4 l5 M
    exact t_X3_roomOf_18 C hm hb1 l3 _ ih l4 l5 M
set_option maxRecDepth 100000 in
set_option maxHeartbeats 4000000 in
theorem c_X3_roomOf {g : Gw} {l : Launch} {b1 : Nat} (hb1 : b1 < 8) (p2 : Int32) (M : Mw) : Kw g l yX3_roomOf cX3_roomOf 6 (some .int) 6 0 0 [.ref (gA g 21 0 0), .ref (gA g 0 b1 0), .int p2] M (fun q : Int32 × Mw => (some (.int q.1), q.2)) (F_X3_roomOf b1 p2 M) := by
  refine Kw.of (own := RX3) (lv0 := [(0, .ref (gA g 21 0 0)), (1, .ref (gA g 0 b1 0)), (2, .int p2)]) (by decide +kernel) rfl (Nat.le_of_ble_eq_true rfl) rfl (fun x C hl hm => ?_)
  subst hl
  unfold F_X3_roomOf
  refine r_aload_n C 0 dX3_roomOf_0 rfl rfl ?_
  refine r_aload_n C 1 dX3_roomOf_1 rfl rfl ?_
  refine r_callVWi (rest := []) C (c_X3_lawfulBits hb1 M) dX3_roomOf_2 u_781 in_21 (contW_21 g _ _ _ _ _) rfl u_782 u_783 mi_X3_lawfulBits (by decide) rfl rfl (Nat.le_of_ble_eq_true rfl) (xk1 hm (by decide)) (xn1 hm (by decide)) (fun q1 h2 => ?_)
  refine r_istore_n (lv' := fun v3 => [(3, .int v3), (0, .ref (gA g 21 0 0)), (1, .ref (gA g 0 b1 0)), (2, .int p2)]) C dX3_roomOf_5 rfl (by decide) (fun _ => rfl) (fun v3 => ?_)
  refine r_iconst (v := 0) C dX3_roomOf_6 (by decide) ?_
  refine r_istore0 (lv' := [(4, .int 0), (3, .int v3), (0, .ref (gA g 21 0 0)), (1, .ref (gA g 0 b1 0)), (2, .int p2)]) C dX3_roomOf_7 (by decide) rfl ?_
  refine r_aload_n C 2 dX3_roomOf_9 rfl rfl ?_
  refine r_iload_n C 4 dX3_roomOf_10 rfl rfl ?_
  refine pf_21_1 C dX3_roomOf_11 u_265 in_21 (fun M4 => ?_)
  refine r_bipush (v := 50) C dX3_roomOf_14 (by decide) ?_
  refine r_istore0 (lv' := [(5, .int 50), (4, .int 0), (3, .int v3), (0, .ref (gA g 21 0 0)), (1, .ref (gA g 0 b1 0)), (2, .int p2)]) C dX3_roomOf_16 (by decide) rfl ?_
  refine r_lv [3, 4, 2, 1, 0] rfl ?_
  exact tl_X3_roomOf_18 C hm hb1 v3 FU 0 50 M4
def F_X9_room (p1 : Int32) (M : Mw) : Option (Int32 × Mw) :=
  ((F_X0_hasTask 1 p1 M).bind (fun v1 => (if v1 = 0 then some ((-2), M) else ((F_X3_roomOf 1 p1 M).bind (fun q4 => some (q4.1, q4.2))))))
set_option maxRecDepth 100000 in
set_option maxHeartbeats 4000000 in
theorem c_X9_room {g : Gw} {l : Launch} (p1 : Int32) (M : Mw) : Kw g l yX9_room cX9_room 2 (some .int) 7 0 0 [.ref (gA g 41 0 0), .int p1] M (fun q : Int32 × Mw => (some (.int q.1), q.2)) (F_X9_room p1 M) := by
  refine Kw.of (own := RX9) (lv0 := [(0, .ref (gA g 41 0 0)), (1, .int p1)]) (by decide +kernel) rfl (Nat.le_of_ble_eq_true rfl) rfl (fun x C hl hm => ?_)
  subst hl
  unfold F_X9_room
  refine r_aload_n C 0 dX9_room_0 rfl rfl ?_
  refine gf_41_1 C dX9_room_1 u_365 in_41 ?_
  refine r_iload_n C 1 dX9_room_4 rfl rfl ?_
  refine r_callVRi (rest := []) C (c_X0_hasTask (by decide) p1 M) dX9_room_5 u_699 (in_0 (by decide)) (contW_0 g _ _ _ _ _) rfl u_510 u_511 mi_X0_hasTask (by decide) rfl rfl (Nat.le_of_ble_eq_true rfl) (xk1 hm (by decide)) (xn1 hm (by decide)) (fun v1 h2 => ?_)
  refine r_if_ne (tgt := 14) C dX9_room_8 (by decide) (fun h3 => ?_) (fun h3 => ?_)
  · refine r_bipush (v := (-2)) C dX9_room_11 (by decide) ?_
    exact r_iret C dX9_room_13 rfl rfl (xk0 hm) (xn0 hm)
  · refine r_aload_n C 0 dX9_room_14 rfl rfl ?_
    refine gf_41_5 C dX9_room_15 u_369 in_41 ?_
    refine r_aload_n C 0 dX9_room_18 rfl rfl ?_
    refine gf_41_1 C dX9_room_19 u_365 in_41 ?_
    refine r_iload_n C 1 dX9_room_22 rfl rfl ?_
    refine r_callVWi (rest := []) C (c_X3_roomOf (by decide) p1 M) dX9_room_23 u_777 in_21 (contW_21 g _ _ _ _ _) rfl u_778 u_779 mi_X3_roomOf (by decide) rfl rfl (Nat.le_of_ble_eq_true rfl) (xk1 hm (by decide)) (xn1 hm (by decide)) (fun q4 h5 => ?_)
    exact r_iret C dX9_room_26 rfl rfl (xk0 hm) (xn0 hm)
def B_X3_isOrderLawful_2 (b1 : Nat) (M : Mw) (k2 : Int32 → Option (Int32)) (l2 : Int32) : Option (Int32) :=
  (if (M.1 0 b1 0 5) ≤ l2 then some 1 else ((F_X3_isLawful b1 l2 M).bind (fun v2 => (if v2 = 0 then some 0 else (bd (l2 + 1) (fun v5 => (k2 v5)))))))
def F_X3_isOrderLawful (b1 : Nat) (M : Mw) : Option (Int32) :=
  (it (fun _ => none) (B_X3_isOrderLawful_2 b1 M) FU 0)
set_option maxRecDepth 100000 in
set_option maxHeartbeats 4000000 in
theorem t_X3_isOrderLawful_2 {g : Gw} {x : Xw} (C : Cw g x cX3_isOrderLawful RX3 3 (some .boolean) 5) (hm : x.2.2.2.2.2.2.2.2.2.2.2 = (0, 0)) {b1 : Nat} (hb1 : b1 < 8) (M : Mw) (k2 : Int32 → Option (Int32)) (hk2 : ∀ (l2 : Int32), Sw g x (fun v : Int32 => (some (.int v), M)) M 0 0 2 [(0, .ref (gA g 21 0 0)), (1, .ref (gA g 0 b1 0)), (2, .int l2)] [] (k2 l2)) (l2 : Int32) : Sw g x (fun v : Int32 => (some (.int v), M)) M 0 0 2 [(0, .ref (gA g 21 0 0)), (1, .ref (gA g 0 b1 0)), (2, .int l2)] [] (B_X3_isOrderLawful_2 b1 M k2 l2) := by
  unfold B_X3_isOrderLawful_2
  refine r_iload_n C 2 dX3_isOrderLawful_2 rfl rfl ?_
  refine r_aload_n C 1 dX3_isOrderLawful_3 rfl rfl ?_
  refine gf_0_5 C dX3_isOrderLawful_4 u_203 (in_0 hb1) ?_
  refine r_icmp_ge (tgt := 27) C dX3_isOrderLawful_7 (by decide) (fun h1 => ?_) (fun h1 => ?_)
  · refine r_iconst (v := 1) C dX3_isOrderLawful_27 (by decide) ?_
    exact r_zretc C dX3_isOrderLawful_28 rfl bz1 rfl (xk0 hm) (xn0 hm)
  · refine r_aload_n C 0 dX3_isOrderLawful_10 rfl rfl ?_
    refine r_aload_n C 1 dX3_isOrderLawful_11 rfl rfl ?_
    refine r_iload_n C 2 dX3_isOrderLawful_12 rfl rfl ?_
    refine r_callVRi (rest := []) C (c_X3_isLawful hb1 l2 M) dX3_isOrderLawful_13 u_786 in_21 (contW_21 g _ _ _ _ _) rfl u_787 u_40 mi_X3_isLawful (by decide) rfl rfl (Nat.le_of_ble_eq_true rfl) (xk1 hm (by decide)) (xn1 hm (by decide)) (fun v2 h3 => ?_)
    refine r_if_ne (tgt := 21) C dX3_isOrderLawful_16 (by decide) (fun h4 => ?_) (fun h4 => ?_)
    · refine r_iconst (v := 0) C dX3_isOrderLawful_19 (by decide) ?_
      exact r_zretc C dX3_isOrderLawful_20 rfl bz0 rfl (xk0 hm) (xn0 hm)
    · refine r_iinc (c := 1) (lv' := fun v5 => [(2, .int v5), (0, .ref (gA g 21 0 0)), (1, .ref (gA g 0 b1 0))]) C 2 dX3_isOrderLawful_21 rfl (by decide) (by decide) (fun _ => rfl) (fun v5 => ?_)
      refine r_goto (tgt := 2) C dX3_isOrderLawful_24 (by decide) ?_
      refine r_lv [1, 2, 0] rfl ?_
      exact hk2 v5
set_option maxRecDepth 100000 in
set_option maxHeartbeats 4000000 in
theorem tl_X3_isOrderLawful_2 {g : Gw} {x : Xw} (C : Cw g x cX3_isOrderLawful RX3 3 (some .boolean) 5) (hm : x.2.2.2.2.2.2.2.2.2.2.2 = (0, 0)) {b1 : Nat} (hb1 : b1 < 8) (M : Mw) (n : Nat) : ∀ (l2 : Int32), Sw g x (fun v : Int32 => (some (.int v), M)) M 0 0 2 [(0, .ref (gA g 21 0 0)), (1, .ref (gA g 0 b1 0)), (2, .int l2)] [] (it (fun _ => none) (B_X3_isOrderLawful_2 b1 M) n l2) := by
  induction n with
  | zero =>
    intro l2
    exact r_none
  | succ n ih =>
    intro l2
    exact t_X3_isOrderLawful_2 C hm hb1 M _ ih l2
set_option maxRecDepth 100000 in
set_option maxHeartbeats 4000000 in
theorem c_X3_isOrderLawful {g : Gw} {l : Launch} {b1 : Nat} (hb1 : b1 < 8) (M : Mw) : Kw g l yX3_isOrderLawful cX3_isOrderLawful 3 (some .boolean) 5 0 0 [.ref (gA g 21 0 0), .ref (gA g 0 b1 0)] M (fun v : Int32 => (some (.int v), M)) (F_X3_isOrderLawful b1 M) := by
  refine Kw.of (own := RX3) (lv0 := [(0, .ref (gA g 21 0 0)), (1, .ref (gA g 0 b1 0))]) (by decide +kernel) rfl (Nat.le_of_ble_eq_true rfl) rfl (fun x C hl hm => ?_)
  subst hl
  unfold F_X3_isOrderLawful
  refine r_iconst (v := 0) C dX3_isOrderLawful_0 (by decide) ?_
  refine r_istore_n0 (lv' := [(2, .int 0), (0, .ref (gA g 21 0 0)), (1, .ref (gA g 0 b1 0))]) C dX3_isOrderLawful_1 rfl (by decide) rfl ?_
  refine r_lv [1, 2, 0] rfl ?_
  exact tl_X3_isOrderLawful_2 C hm hb1 M FU 0
def F_X3_swap (p1 : Int32) (p2 : Int32) (M : Mw) : Option (Mw) :=
  (if inb p1 5 then (bd (M.1 22 0 0 p1.toNatClampNeg) (fun v2 => (if inb p2 5 then (if inb p1 5 then (bd (uIw M 22 0 0 p1.toNatClampNeg (M.1 22 0 0 p2.toNatClampNeg)) (fun M4 => (if inb p2 5 then (bd (uIw M4 22 0 0 p2.toNatClampNeg v2) (fun M6 => some M6)) else none))) else none) else none))) else none)
set_option maxRecDepth 100000 in
set_option maxHeartbeats 4000000 in
theorem c_X3_swap {g : Gw} {l : Launch} (p1 : Int32) (p2 : Int32) (M : Mw) : Kw g l yX3_swap cX3_swap 4 none 1 0 0 [.ref (gA g 21 0 0), .int p1, .int p2] M (fun M : Mw => (none, M)) (F_X3_swap p1 p2 M) := by
  refine Kw.of (own := RX3) (lv0 := [(0, .ref (gA g 21 0 0)), (1, .int p1), (2, .int p2)]) (by decide +kernel) rfl (Nat.le_of_ble_eq_true rfl) rfl (fun x C hl hm => ?_)
  subst hl
  unfold F_X3_swap
  refine r_aload_n C 0 dX3_swap_0 rfl rfl ?_
  refine gf_21_0 C dX3_swap_1 u_263 in_21 ?_
  refine r_iload_n C 1 dX3_swap_4 rfl rfl ?_
  refine r_iald C dX3_swap_5 in_22 (contW_22 g _ _ _ _ _) (fun h1 => ?_)
  refine r_istore_n (lv' := fun v2 => [(3, .int v2), (0, .ref (gA g 21 0 0)), (1, .int p1), (2, .int p2)]) C dX3_swap_6 rfl (by decide) (fun _ => rfl) (fun v2 => ?_)
  refine r_aload_n C 1 dX3_swap_7 rfl rfl ?_
  refine gf_21_0 C dX3_swap_8 u_263 in_21 ?_
  refine r_iload_n C 2 dX3_swap_11 rfl rfl ?_
  refine r_aload_n C 1 dX3_swap_12 rfl rfl ?_
  refine gf_21_0 C dX3_swap_13 u_263 in_21 ?_
  refine r_iload_n C 3 dX3_swap_16 rfl rfl ?_
  refine r_iald C dX3_swap_17 in_22 (contW_22 g _ _ _ _ _) (fun h3 => ?_)
  refine r_iast C dX3_swap_18 in_22 (contW_22 g _ _) (fun M4 h5 => ?_)
  refine r_aload_n C 1 dX3_swap_19 rfl rfl ?_
  refine gf_21_0 C dX3_swap_20 u_263 in_21 ?_
  refine r_iload_n C 3 dX3_swap_23 rfl rfl ?_
  refine r_iload_n C 0 dX3_swap_24 rfl rfl ?_
  refine r_iast C dX3_swap_25 in_22 (contW_22 g _ _) (fun M6 h7 => ?_)
  exact r_vret C dX3_swap_26 rfl rfl (xk0 hm) (xn0 hm)
