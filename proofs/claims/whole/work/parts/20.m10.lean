def F_X9_ledger (p1 : Int32) (M : Mw) : Option (Int32) :=
  (if (M.1 0 1 0 3) = 0 then some (-2) else (if p1 < 0 then some (-2) else (if p1 ≤ 1 then ((F_X4_countKind 0 6 M).bind (fun v4 => ((F_X4_countKind 0 7 M).bind (fun v6 => (bd (v4 + v6) (fun v8 => (if p1 = 1 then some v8 else some ((M.1 26 0 0 1) - v8)))))))) else some (-2))))
set_option maxRecDepth 100000 in
set_option maxHeartbeats 4000000 in
theorem c_X9_ledger {g : Gw} {l : Launch} (p1 : Int32) (M : Mw) : Kw g l yX9_ledger cX9_ledger 3 (some .int) 2 0 0 [.ref (gA g 41 0 0), .int p1] M (fun v : Int32 => (some (.int v), M)) (F_X9_ledger p1 M) := by
  refine Kw.of (own := RX9) (lv0 := [(0, .ref (gA g 41 0 0)), (1, .int p1)]) (by decide +kernel) rfl (Nat.le_of_ble_eq_true rfl) rfl (fun x C hl hm => ?_)
  subst hl
  unfold F_X9_ledger
  refine r_aload_n C 0 dX9_ledger_0 rfl rfl ?_
  refine gf_41_1 C dX9_ledger_1 u_365 in_41 ?_
  refine gf_0_3 C dX9_ledger_4 u_195 (in_0 (by decide)) ?_
  refine r_if_eq (tgt := 19) C dX9_ledger_7 (by decide) (fun h1 => ?_) (fun h1 => ?_)
  · refine r_bipush (v := (-2)) C dX9_ledger_19 (by decide) ?_
    exact r_iret C dX9_ledger_21 rfl rfl (xk0 hm) (xn0 hm)
  · refine r_iload_n C 1 dX9_ledger_10 rfl rfl ?_
    refine r_if_lt (tgt := 19) C dX9_ledger_11 (by decide) (fun h2 => ?_) (fun h2 => ?_)
    · refine r_bipush (v := (-2)) C dX9_ledger_19 (by decide) ?_
      exact r_iret C dX9_ledger_21 rfl rfl (xk0 hm) (xn0 hm)
    · refine r_iload_n C 1 dX9_ledger_14 rfl rfl ?_
      refine r_iconst (v := 1) C dX9_ledger_15 (by decide) ?_
      refine r_icmp_le (tgt := 22) C dX9_ledger_16 (by decide) (fun h3 => ?_) (fun h3 => ?_)
      · refine r_aload_n C 0 dX9_ledger_22 rfl rfl ?_
        refine gf_41_6 C dX9_ledger_23 u_370 in_41 ?_
        refine gf_23_2 C dX9_ledger_26 u_334 (in_23 (by decide)) ?_
        refine r_bipush (v := 6) C dX9_ledger_29 (by decide) ?_
        refine r_callVRi (rest := []) C (c_X4_countKind (by decide) 6 M) dX9_ledger_31 u_955 (in_26 (by decide)) (contW_26 g _ _ _ _ _) rfl u_956 u_957 mi_X4_countKind (by decide) rfl rfl (Nat.le_of_ble_eq_true rfl) (xk1 hm (by decide)) (xn1 hm (by decide)) (fun v4 h5 => ?_)
        refine r_aload_n C 0 dX9_ledger_34 rfl rfl ?_
        refine gf_41_6 C dX9_ledger_35 u_370 in_41 ?_
        refine gf_23_2 C dX9_ledger_38 u_334 (in_23 (by decide)) ?_
        refine r_bipush (v := 7) C dX9_ledger_41 (by decide) ?_
        refine r_callVRi (rest := [.int v4]) C (c_X4_countKind (by decide) 7 M) dX9_ledger_43 u_955 (in_26 (by decide)) (contW_26 g _ _ _ _ _) rfl u_956 u_957 mi_X4_countKind (by decide) rfl rfl (Nat.le_of_ble_eq_true rfl) (xk1 hm (by decide)) (xn1 hm (by decide)) (fun v6 h7 => ?_)
        refine r_iadd C dX9_ledger_46 ?_
        refine r_istore_n (lv' := fun v8 => [(2, .int v8), (0, .ref (gA g 41 0 0)), (1, .int p1)]) C dX9_ledger_47 rfl (by decide) (fun _ => rfl) (fun v8 => ?_)
        refine r_iload_n C 2 dX9_ledger_48 rfl rfl ?_
        refine r_iconst (v := 1) C dX9_ledger_49 (by decide) ?_
        refine r_icmp_ne (tgt := 57) C dX9_ledger_50 (by decide) (fun h9 => ?_) (fun h9 => ?_)
        · refine r_iload_n C 0 dX9_ledger_53 rfl rfl ?_
          refine r_goto (tgt := 69) C dX9_ledger_54 (by decide) ?_
          exact r_iret C dX9_ledger_69 rfl rfl (xk0 hm) (xn0 hm)
        · refine r_aload_n C 1 dX9_ledger_57 rfl rfl ?_
          refine gf_41_6 C dX9_ledger_58 u_370 in_41 ?_
          refine gf_23_2 C dX9_ledger_61 u_334 (in_23 (by decide)) ?_
          refine gf_26_1 C dX9_ledger_64 u_285 (in_26 (by decide)) ?_
          refine r_iload_n C 0 dX9_ledger_67 rfl rfl ?_
          refine r_isub C dX9_ledger_68 ?_
          exact r_iret C dX9_ledger_69 rfl rfl (xk0 hm) (xn0 hm)
      · refine r_bipush (v := (-2)) C dX9_ledger_19 (by decide) ?_
        exact r_iret C dX9_ledger_21 rfl rfl (xk0 hm) (xn0 hm)
def F_X9_kinds (p1 : Int32) (M : Mw) : Option (Int32) :=
  (if (M.1 0 1 0 3) = 0 then some (-2) else (if p1 < 1 then some (-2) else (if p1 ≤ 7 then ((F_X4_countKind 0 p1 M).bind (fun v4 => some v4)) else some (-2))))
set_option maxRecDepth 100000 in
set_option maxHeartbeats 4000000 in
theorem c_X9_kinds {g : Gw} {l : Launch} (p1 : Int32) (M : Mw) : Kw g l yX9_kinds cX9_kinds 2 (some .int) 2 0 0 [.ref (gA g 41 0 0), .int p1] M (fun v : Int32 => (some (.int v), M)) (F_X9_kinds p1 M) := by
  refine Kw.of (own := RX9) (lv0 := [(0, .ref (gA g 41 0 0)), (1, .int p1)]) (by decide +kernel) rfl (Nat.le_of_ble_eq_true rfl) rfl (fun x C hl hm => ?_)
  subst hl
  unfold F_X9_kinds
  refine r_aload_n C 0 dX9_kinds_0 rfl rfl ?_
  refine gf_41_1 C dX9_kinds_1 u_365 in_41 ?_
  refine gf_0_3 C dX9_kinds_4 u_195 (in_0 (by decide)) ?_
  refine r_if_eq (tgt := 21) C dX9_kinds_7 (by decide) (fun h1 => ?_) (fun h1 => ?_)
  · refine r_bipush (v := (-2)) C dX9_kinds_21 (by decide) ?_
    exact r_iret C dX9_kinds_23 rfl rfl (xk0 hm) (xn0 hm)
  · refine r_iload_n C 1 dX9_kinds_10 rfl rfl ?_
    refine r_iconst (v := 1) C dX9_kinds_11 (by decide) ?_
    refine r_icmp_lt (tgt := 21) C dX9_kinds_12 (by decide) (fun h2 => ?_) (fun h2 => ?_)
    · refine r_bipush (v := (-2)) C dX9_kinds_21 (by decide) ?_
      exact r_iret C dX9_kinds_23 rfl rfl (xk0 hm) (xn0 hm)
    · refine r_iload_n C 1 dX9_kinds_15 rfl rfl ?_
      refine r_bipush (v := 7) C dX9_kinds_16 (by decide) ?_
      refine r_icmp_le (tgt := 24) C dX9_kinds_18 (by decide) (fun h3 => ?_) (fun h3 => ?_)
      · refine r_aload_n C 0 dX9_kinds_24 rfl rfl ?_
        refine gf_41_6 C dX9_kinds_25 u_370 in_41 ?_
        refine gf_23_2 C dX9_kinds_28 u_334 (in_23 (by decide)) ?_
        refine r_iload_n C 1 dX9_kinds_31 rfl rfl ?_
        refine r_callVRi (rest := []) C (c_X4_countKind (by decide) p1 M) dX9_kinds_32 u_955 (in_26 (by decide)) (contW_26 g _ _ _ _ _) rfl u_956 u_957 mi_X4_countKind (by decide) rfl rfl (Nat.le_of_ble_eq_true rfl) (xk1 hm (by decide)) (xn1 hm (by decide)) (fun v4 h5 => ?_)
        exact r_iret C dX9_kinds_35 rfl rfl (xk0 hm) (xn0 hm)
      · refine r_bipush (v := (-2)) C dX9_kinds_21 (by decide) ?_
        exact r_iret C dX9_kinds_23 rfl rfl (xk0 hm) (xn0 hm)
def B_X4_countLevelAhead_5 (b : Nat) (l1 : Int32) (l2 : Int32) (M : Mw) (k5 : Int32 → Int32 → Option (Int32)) (l3 : Int32) (l4 : Int32) : Option (Int32) :=
  (if (M.1 26 b 0 1) ≤ l4 then some l3 else (if inb l4 128 then (if (M.1 28 b l4.toNatClampNeg 3) = l1 then (if inb l4 128 then (if l2 ≤ (M.1 28 b l4.toNatClampNeg 0) then (bd (l4 + 1) (fun v7 => (k5 l3 v7))) else (bd (l3 + 1) (fun v8 => (bd (l4 + 1) (fun v9 => (k5 v8 v9)))))) else none) else (bd (l4 + 1) (fun v4 => (k5 l3 v4)))) else none))
def F_X4_countLevelAhead (b : Nat) (p1 : Int32) (p2 : Int32) (M : Mw) : Option (Int32) :=
  (it (fun _ _ => none) (B_X4_countLevelAhead_5 b p1 p2 M) FU 0 0)
set_option maxRecDepth 100000 in
set_option maxHeartbeats 4000000 in
theorem t_X4_countLevelAhead_5 {g : Gw} {x : Xw} (C : Cw g x cX4_countLevelAhead RX4 5 (some .int) 1) (hm : x.2.2.2.2.2.2.2.2.2.2.2 = (0, 0)) {b : Nat} (hb : b < 3) (M : Mw) (l1 : Int32) (l2 : Int32) (k5 : Int32 → Int32 → Option (Int32)) (hk5 : ∀ (l3 : Int32) (l4 : Int32), Sw g x (fun v : Int32 => (some (.int v), M)) M 0 0 5 [(0, .ref (gA g 26 b 0)), (1, .int l1), (2, .int l2), (3, .int l3), (4, .int l4)] [] (k5 l3 l4)) (l3 : Int32) (l4 : Int32) : Sw g x (fun v : Int32 => (some (.int v), M)) M 0 0 5 [(0, .ref (gA g 26 b 0)), (1, .int l1), (2, .int l2), (3, .int l3), (4, .int l4)] [] (B_X4_countLevelAhead_5 b l1 l2 M k5 l3 l4) := by
  unfold B_X4_countLevelAhead_5
  refine r_iload C 4 dX4_countLevelAhead_5 rfl ?_
  refine r_aload_n C 0 dX4_countLevelAhead_7 rfl rfl ?_
  refine gf_26_1 C dX4_countLevelAhead_8 u_283 (in_26 hb) ?_
  refine r_icmp_ge (tgt := 49) C dX4_countLevelAhead_11 (by decide) (fun h1 => ?_) (fun h1 => ?_)
  · refine r_iload_n C 3 dX4_countLevelAhead_49 rfl rfl ?_
    exact r_iret C dX4_countLevelAhead_50 rfl rfl (xk0 hm) (xn0 hm)
  · refine r_aload_n C 0 dX4_countLevelAhead_14 rfl rfl ?_
    refine gf_26_0 C dX4_countLevelAhead_15 u_281 (in_26 hb) ?_
    refine r_iload C 4 dX4_countLevelAhead_18 rfl ?_
    refine r_aald (t0 := 5) (ty := .array .int) C dX4_countLevelAhead_20 (in_27 hb) (contW_27 g _ _ _ _ _) rfl rfl (fun h2 => ?_)
    refine r_iconst (v := 3) C dX4_countLevelAhead_21 (by decide) ?_
    refine r_ialdc C dX4_countLevelAhead_22 (in_28 hb (inb_lt h2)) (contW_28 g _ _ _ _ _) (by decide) (j := 3) (by decide) ?_
    refine r_iload_n C 1 dX4_countLevelAhead_23 rfl rfl ?_
    refine r_icmp_ne (tgt := 43) C dX4_countLevelAhead_24 (by decide) (fun h3 => ?_) (fun h3 => ?_)
    · refine r_aload_n C 0 dX4_countLevelAhead_27 rfl rfl ?_
      refine gf_26_0 C dX4_countLevelAhead_28 u_281 (in_26 hb) ?_
      refine r_iload C 4 dX4_countLevelAhead_31 rfl ?_
      refine r_aald (t0 := 5) (ty := .array .int) C dX4_countLevelAhead_33 (in_27 hb) (contW_27 g _ _ _ _ _) rfl rfl (fun h5 => ?_)
      refine r_iconst (v := 0) C dX4_countLevelAhead_34 (by decide) ?_
      refine r_ialdc C dX4_countLevelAhead_35 (in_28 hb (inb_lt h5)) (contW_28 g _ _ _ _ _) (by decide) (j := 0) (by decide) ?_
      refine r_iload_n C 2 dX4_countLevelAhead_36 rfl rfl ?_
      refine r_icmp_ge (tgt := 43) C dX4_countLevelAhead_37 (by decide) (fun h6 => ?_) (fun h6 => ?_)
      · refine r_iinc (c := 1) (lv' := fun v7 => [(4, .int v7), (0, .ref (gA g 26 b 0)), (1, .int l1), (2, .int l2), (3, .int l3)]) C 4 dX4_countLevelAhead_43 rfl (by decide) (by decide) (fun _ => rfl) (fun v7 => ?_)
        refine r_goto (tgt := 5) C dX4_countLevelAhead_46 (by decide) ?_
        refine r_lv [1, 2, 3, 4, 0] rfl ?_
        exact hk5 l3 v7
      · refine r_iinc (c := 1) (lv' := fun v8 => [(3, .int v8), (0, .ref (gA g 26 b 0)), (1, .int l1), (2, .int l2), (4, .int l4)]) C 3 dX4_countLevelAhead_40 rfl (by decide) (by decide) (fun _ => rfl) (fun v8 => ?_)
        refine r_iinc (c := 1) (lv' := fun v9 => [(4, .int v9), (3, .int v8), (0, .ref (gA g 26 b 0)), (1, .int l1), (2, .int l2)]) C 4 dX4_countLevelAhead_43 rfl (by decide) (by decide) (fun _ => rfl) (fun v9 => ?_)
        refine r_goto (tgt := 5) C dX4_countLevelAhead_46 (by decide) ?_
        refine r_lv [2, 3, 4, 1, 0] rfl ?_
        exact hk5 v8 v9
    · refine r_iinc (c := 1) (lv' := fun v4 => [(4, .int v4), (0, .ref (gA g 26 b 0)), (1, .int l1), (2, .int l2), (3, .int l3)]) C 4 dX4_countLevelAhead_43 rfl (by decide) (by decide) (fun _ => rfl) (fun v4 => ?_)
      refine r_goto (tgt := 5) C dX4_countLevelAhead_46 (by decide) ?_
      refine r_lv [1, 2, 3, 4, 0] rfl ?_
      exact hk5 l3 v4
set_option maxRecDepth 100000 in
set_option maxHeartbeats 4000000 in
theorem tl_X4_countLevelAhead_5 {g : Gw} {x : Xw} (C : Cw g x cX4_countLevelAhead RX4 5 (some .int) 1) (hm : x.2.2.2.2.2.2.2.2.2.2.2 = (0, 0)) {b : Nat} (hb : b < 3) (M : Mw) (l1 : Int32) (l2 : Int32) (n : Nat) : ∀ (l3 : Int32) (l4 : Int32), Sw g x (fun v : Int32 => (some (.int v), M)) M 0 0 5 [(0, .ref (gA g 26 b 0)), (1, .int l1), (2, .int l2), (3, .int l3), (4, .int l4)] [] (it (fun _ _ => none) (B_X4_countLevelAhead_5 b l1 l2 M) n l3 l4) := by
  induction n with
  | zero =>
    intro l3 l4
    exact r_none
  | succ n ih =>
    intro l3 l4
    exact t_X4_countLevelAhead_5 C hm hb M l1 l2 _ ih l3 l4
set_option maxRecDepth 100000 in
set_option maxHeartbeats 4000000 in
theorem c_X4_countLevelAhead {g : Gw} {l : Launch} {b : Nat} (hb : b < 3) (p1 : Int32) (p2 : Int32) (M : Mw) : Kw g l yX4_countLevelAhead cX4_countLevelAhead 5 (some .int) 1 0 0 [.ref (gA g 26 b 0), .int p1, .int p2] M (fun v : Int32 => (some (.int v), M)) (F_X4_countLevelAhead b p1 p2 M) := by
  refine Kw.of (own := RX4) (lv0 := [(0, .ref (gA g 26 b 0)), (1, .int p1), (2, .int p2)]) (by decide +kernel) rfl (Nat.le_of_ble_eq_true rfl) rfl (fun x C hl hm => ?_)
  subst hl
  unfold F_X4_countLevelAhead
  refine r_iconst (v := 0) C dX4_countLevelAhead_0 (by decide) ?_
  refine r_istore_n0 (lv' := [(3, .int 0), (0, .ref (gA g 26 b 0)), (1, .int p1), (2, .int p2)]) C dX4_countLevelAhead_1 rfl (by decide) rfl ?_
  refine r_iconst (v := 0) C dX4_countLevelAhead_2 (by decide) ?_
  refine r_istore0 (lv' := [(4, .int 0), (3, .int 0), (0, .ref (gA g 26 b 0)), (1, .int p1), (2, .int p2)]) C dX4_countLevelAhead_3 (by decide) rfl ?_
  refine r_lv [2, 3, 4, 1, 0] rfl ?_
  exact tl_X4_countLevelAhead_5 C hm hb M p1 p2 FU 0 0
def F_X9_levels (p1 : Int32) (p2 : Int32) (M : Mw) : Option (Int32) :=
  ((F_X9_isTick p2 M).bind (fun v1 => (if v1 = 0 then some (-2) else (if p1 < 0 then some (-2) else (if p1 ≤ 3 then ((F_X4_countLevelAhead 0 p1 p2 M).bind (fun v6 => some v6)) else some (-2))))))
set_option maxRecDepth 100000 in
set_option maxHeartbeats 4000000 in
theorem c_X9_levels {g : Gw} {l : Launch} (p1 : Int32) (p2 : Int32) (M : Mw) : Kw g l yX9_levels cX9_levels 3 (some .int) 2 0 0 [.ref (gA g 41 0 0), .int p1, .int p2] M (fun v : Int32 => (some (.int v), M)) (F_X9_levels p1 p2 M) := by
  refine Kw.of (own := RX9) (lv0 := [(0, .ref (gA g 41 0 0)), (1, .int p1), (2, .int p2)]) (by decide +kernel) rfl (Nat.le_of_ble_eq_true rfl) rfl (fun x C hl hm => ?_)
  subst hl
  unfold F_X9_levels
  refine r_aload_n C 0 dX9_levels_0 rfl rfl ?_
  refine r_iload_n C 2 dX9_levels_1 rfl rfl ?_
  refine r_callVRi (rest := []) C (c_X9_isTick p2 M) dX9_levels_2 u_869 in_41 (contW_41 g _ _ _ _ _) rfl u_870 u_44 mi_X9_isTick (by decide) rfl rfl (Nat.le_of_ble_eq_true rfl) (xk1 hm (by decide)) (xn1 hm (by decide)) (fun v1 h2 => ?_)
  refine r_if_eq (tgt := 17) C dX9_levels_5 (by decide) (fun h3 => ?_) (fun h3 => ?_)
  · refine r_bipush (v := (-2)) C dX9_levels_17 (by decide) ?_
    exact r_iret C dX9_levels_19 rfl rfl (xk0 hm) (xn0 hm)
  · refine r_iload_n C 1 dX9_levels_8 rfl rfl ?_
    refine r_if_lt (tgt := 17) C dX9_levels_9 (by decide) (fun h4 => ?_) (fun h4 => ?_)
    · refine r_bipush (v := (-2)) C dX9_levels_17 (by decide) ?_
      exact r_iret C dX9_levels_19 rfl rfl (xk0 hm) (xn0 hm)
    · refine r_iload_n C 1 dX9_levels_12 rfl rfl ?_
      refine r_iconst (v := 3) C dX9_levels_13 (by decide) ?_
      refine r_icmp_le (tgt := 20) C dX9_levels_14 (by decide) (fun h5 => ?_) (fun h5 => ?_)
      · refine r_aload_n C 0 dX9_levels_20 rfl rfl ?_
        refine gf_41_6 C dX9_levels_21 u_370 in_41 ?_
        refine gf_23_2 C dX9_levels_24 u_334 (in_23 (by decide)) ?_
        refine r_iload_n C 1 dX9_levels_27 rfl rfl ?_
        refine r_iload_n C 2 dX9_levels_28 rfl rfl ?_
        refine r_callVRi (rest := []) C (c_X4_countLevelAhead (by decide) p1 p2 M) dX9_levels_29 u_967 (in_26 (by decide)) (contW_26 g _ _ _ _ _) rfl u_968 u_969 mi_X4_countLevelAhead (by decide) rfl rfl (Nat.le_of_ble_eq_true rfl) (xk1 hm (by decide)) (xn1 hm (by decide)) (fun v6 h7 => ?_)
        exact r_iret C dX9_levels_32 rfl rfl (xk0 hm) (xn0 hm)
      · refine r_bipush (v := (-2)) C dX9_levels_17 (by decide) ?_
        exact r_iret C dX9_levels_19 rfl rfl (xk0 hm) (xn0 hm)
def F_X9_halts (M : Mw) : Option (Int32) :=
  (if (M.1 0 1 0 3) = 0 then some (-2) else some (M.1 23 0 0 5))
set_option maxRecDepth 100000 in
set_option maxHeartbeats 4000000 in
theorem c_X9_halts {g : Gw} {l : Launch} (M : Mw) : Kw g l yX9_halts cX9_halts 1 (some .int) 1 0 0 [.ref (gA g 41 0 0)] M (fun v : Int32 => (some (.int v), M)) (F_X9_halts M) := by
  refine Kw.of (own := RX9) (lv0 := [(0, .ref (gA g 41 0 0))]) (by decide +kernel) rfl (Nat.le_of_ble_eq_true rfl) rfl (fun x C hl hm => ?_)
  subst hl
  unfold F_X9_halts
  refine r_aload_n C 0 dX9_halts_0 rfl rfl ?_
  refine gf_41_1 C dX9_halts_1 u_365 in_41 ?_
  refine gf_0_3 C dX9_halts_4 u_195 (in_0 (by decide)) ?_
  refine r_if_ne (tgt := 15) C dX9_halts_7 (by decide) (fun h1 => ?_) (fun h1 => ?_)
  · refine r_bipush (v := (-2)) C dX9_halts_10 (by decide) ?_
    refine r_goto (tgt := 22) C dX9_halts_12 (by decide) ?_
    exact r_iret C dX9_halts_22 rfl rfl (xk0 hm) (xn0 hm)
  · refine r_aload_n C 0 dX9_halts_15 rfl rfl ?_
    refine gf_41_6 C dX9_halts_16 u_370 in_41 ?_
    refine gf_23_5 C dX9_halts_19 u_340 (in_23 (by decide)) ?_
    exact r_iret C dX9_halts_22 rfl rfl (xk0 hm) (xn0 hm)
def F_X9_sleeps (p1 : Int32) (p2 : Int32) (M : Mw) : Option (Int32 × Mw) :=
  ((F_X0_hasWatcher 1 p1 M).bind (fun v1 => (if v1 = 0 then some ((-2), M) else ((F_X9_isTick p2 M).bind (fun v4 => (if v4 = 0 then some ((-2), M) else ((F_X5_show 1 p2 M).bind (fun M7 => ((F_X5_isAsleep 1 p1 M7).bind (fun v9 => (if v9 = 0 then some (0, M7) else some (1, M7))))))))))))
set_option maxRecDepth 100000 in
set_option maxHeartbeats 4000000 in
theorem c_X9_sleeps {g : Gw} {l : Launch} (p1 : Int32) (p2 : Int32) (M : Mw) : Kw g l yX9_sleeps cX9_sleeps 3 (some .int) 7 0 0 [.ref (gA g 41 0 0), .int p1, .int p2] M (fun q : Int32 × Mw => (some (.int q.1), q.2)) (F_X9_sleeps p1 p2 M) := by
  refine Kw.of (own := RX9) (lv0 := [(0, .ref (gA g 41 0 0)), (1, .int p1), (2, .int p2)]) (by decide +kernel) rfl (Nat.le_of_ble_eq_true rfl) rfl (fun x C hl hm => ?_)
  subst hl
  unfold F_X9_sleeps
  refine r_aload_n C 0 dX9_sleeps_0 rfl rfl ?_
  refine gf_41_1 C dX9_sleeps_1 u_365 in_41 ?_
  refine r_iload_n C 1 dX9_sleeps_4 rfl rfl ?_
  refine r_callVRi (rest := []) C (c_X0_hasWatcher (by decide) p1 M) dX9_sleeps_5 u_709 (in_0 (by decide)) (contW_0 g _ _ _ _ _) rfl u_710 u_711 mi_X0_hasWatcher (by decide) rfl rfl (Nat.le_of_ble_eq_true rfl) (xk1 hm (by decide)) (xn1 hm (by decide)) (fun v1 h2 => ?_)
  refine r_if_eq (tgt := 19) C dX9_sleeps_8 (by decide) (fun h3 => ?_) (fun h3 => ?_)
  · refine r_bipush (v := (-2)) C dX9_sleeps_19 (by decide) ?_
    exact r_iret C dX9_sleeps_21 rfl rfl (xk0 hm) (xn0 hm)
  · refine r_aload_n C 0 dX9_sleeps_11 rfl rfl ?_
    refine r_iload_n C 2 dX9_sleeps_12 rfl rfl ?_
    refine r_callVRi (rest := []) C (c_X9_isTick p2 M) dX9_sleeps_13 u_869 in_41 (contW_41 g _ _ _ _ _) rfl u_870 u_44 mi_X9_isTick (by decide) rfl rfl (Nat.le_of_ble_eq_true rfl) (xk1 hm (by decide)) (xn1 hm (by decide)) (fun v4 h5 => ?_)
    refine r_if_ne (tgt := 22) C dX9_sleeps_16 (by decide) (fun h6 => ?_) (fun h6 => ?_)
    · refine r_bipush (v := (-2)) C dX9_sleeps_19 (by decide) ?_
      exact r_iret C dX9_sleeps_21 rfl rfl (xk0 hm) (xn0 hm)
    · refine r_aload_n C 0 dX9_sleeps_22 rfl rfl ?_
      refine gf_41_7 C dX9_sleeps_23 u_371 in_41 ?_
      refine r_iload_n C 2 dX9_sleeps_26 rfl rfl ?_
      refine r_callVU (rest := []) C (c_X5_show (by decide) p2 M) dX9_sleeps_27 u_570 (in_23 (by decide)) (contW_23 g _ _ _ _ _) rfl u_571 u_572 mi_X5_show (by decide) rfl rfl (Nat.le_of_ble_eq_true rfl) (xk1 hm (by decide)) (xn1 hm (by decide)) (fun M7 h8 => ?_)
      refine r_aload_n C 0 dX9_sleeps_30 rfl rfl ?_
      refine gf_41_7 C dX9_sleeps_31 u_371 in_41 ?_
      refine r_iload_n C 1 dX9_sleeps_34 rfl rfl ?_
      refine r_callVRi (rest := []) C (c_X5_isAsleep (by decide) p1 M7) dX9_sleeps_35 u_979 (in_23 (by decide)) (contW_23 g _ _ _ _ _) rfl u_667 u_668 mi_X5_isAsleep (by decide) rfl rfl (Nat.le_of_ble_eq_true rfl) (xk1 hm (by decide)) (xn1 hm (by decide)) (fun v9 h10 => ?_)
      refine r_if_eq (tgt := 45) C dX9_sleeps_38 (by decide) (fun h11 => ?_) (fun h11 => ?_)
      · refine r_iconst (v := 0) C dX9_sleeps_45 (by decide) ?_
        exact r_iret C dX9_sleeps_46 rfl rfl (xk0 hm) (xn0 hm)
      · refine r_iconst (v := 1) C dX9_sleeps_41 (by decide) ?_
        refine r_goto (tgt := 46) C dX9_sleeps_42 (by decide) ?_
        exact r_iret C dX9_sleeps_46 rfl rfl (xk0 hm) (xn0 hm)
def B_X5_beginOf_36 (b : Nat) (l1 : Int32) (l2 : Int32) (s0 : Int32) (M : Mw) : Option (Int32) :=
  (if s0 = 0 then some (-1) else (if inb l1 5 then (if inb l2 51 then some (M.1 30 b l1.toNatClampNeg l2.toNatClampNeg) else none) else none))
def B_X5_beginOf_35 (b : Nat) (l1 : Int32) (l2 : Int32) (M : Mw) : Option (Int32) :=
  (B_X5_beginOf_36 b l1 l2 0 M)
def F_X5_beginOf (b : Nat) (p1 : Int32) (p2 : Int32) (M : Mw) : Option (Int32) :=
  ((F_X0_hasTask (b + 5) p1 M).bind (fun v1 => (if v1 = 0 then (B_X5_beginOf_35 b p1 p2 M) else ((F_X9_isJob p2 M).bind (fun v7 => (if v7 = 0 then (B_X5_beginOf_35 b p1 p2 M) else (if inb p1 5 then (if (M.1 25 b p1.toNatClampNeg 1) ≤ p2 then (B_X5_beginOf_35 b p1 p2 M) else (B_X5_beginOf_36 b p1 p2 1 M)) else none)))))))
set_option maxRecDepth 100000 in
set_option maxHeartbeats 4000000 in
theorem t_X5_beginOf_36 {g : Gw} {x : Xw} (C : Cw g x cX5_beginOf RX5 4 (some .int) 2) (hm : x.2.2.2.2.2.2.2.2.2.2.2 = (0, 0)) {b : Nat} (hb : b < 3) (M : Mw) (l1 : Int32) (l2 : Int32) (s0 : Int32) : Sw g x (fun v : Int32 => (some (.int v), M)) M 0 0 36 [(0, .ref (gA g 23 b 0)), (1, .int l1), (2, .int l2)] [.int s0] (B_X5_beginOf_36 b l1 l2 s0 M) := by
  unfold B_X5_beginOf_36
  refine r_istore_n0 (lv' := [(3, .int s0), (0, .ref (gA g 23 b 0)), (1, .int l1), (2, .int l2)]) C dX5_beginOf_36 rfl (by decide) rfl ?_
  refine r_iload_n C 0 dX5_beginOf_37 rfl rfl ?_
  refine r_if_eq (tgt := 52) C dX5_beginOf_38 (by decide) (fun h4 => ?_) (fun h4 => ?_)
  · refine r_iconst (v := (-1)) C dX5_beginOf_52 (by decide) ?_
    exact r_iret C dX5_beginOf_53 rfl rfl (xk0 hm) (xn0 hm)
  · refine r_aload_n C 1 dX5_beginOf_41 rfl rfl ?_
    refine gf_23_9 C dX5_beginOf_42 u_344 (in_23 hb) ?_
    refine r_iload_n C 2 dX5_beginOf_45 rfl rfl ?_
    refine r_aald (t0 := 5) (ty := .array .int) C dX5_beginOf_46 (in_29 hb) (contW_29 g _ _ _ _ _) rfl rfl (fun h5 => ?_)
    refine r_iload_n C 3 dX5_beginOf_47 rfl rfl ?_
    refine r_iald C dX5_beginOf_48 (in_30 hb (inb_lt h5)) (contW_30 g _ _ _ _ _) (fun h6 => ?_)
    refine r_goto (tgt := 53) C dX5_beginOf_49 (by decide) ?_
    exact r_iret C dX5_beginOf_53 rfl rfl (xk0 hm) (xn0 hm)
set_option maxRecDepth 100000 in
set_option maxHeartbeats 4000000 in
theorem t_X5_beginOf_35 {g : Gw} {x : Xw} (C : Cw g x cX5_beginOf RX5 4 (some .int) 2) (hm : x.2.2.2.2.2.2.2.2.2.2.2 = (0, 0)) {b : Nat} (hb : b < 3) (M : Mw) (l1 : Int32) (l2 : Int32) : Sw g x (fun v : Int32 => (some (.int v), M)) M 0 0 35 [(0, .ref (gA g 23 b 0)), (1, .int l1), (2, .int l2)] [] (B_X5_beginOf_35 b l1 l2 M) := by
  unfold B_X5_beginOf_35
  refine r_iconst (v := 0) C dX5_beginOf_35 (by decide) ?_
  exact t_X5_beginOf_36 C hm hb M l1 l2 0
set_option maxRecDepth 100000 in
set_option maxHeartbeats 4000000 in
theorem c_X5_beginOf {g : Gw} {l : Launch} {b : Nat} (hb : b < 3) (p1 : Int32) (p2 : Int32) (M : Mw) : Kw g l yX5_beginOf cX5_beginOf 4 (some .int) 2 0 0 [.ref (gA g 23 b 0), .int p1, .int p2] M (fun v : Int32 => (some (.int v), M)) (F_X5_beginOf b p1 p2 M) := by
  refine Kw.of (own := RX5) (lv0 := [(0, .ref (gA g 23 b 0)), (1, .int p1), (2, .int p2)]) (by decide +kernel) rfl (Nat.le_of_ble_eq_true rfl) rfl (fun x C hl hm => ?_)
  subst hl
  unfold F_X5_beginOf
  refine r_aload_n C 0 dX5_beginOf_0 rfl rfl ?_
  refine gf_23_0 C dX5_beginOf_1 u_328 (in_23 hb) ?_
  refine r_iload_n C 1 dX5_beginOf_4 rfl rfl ?_
  refine r_callVRi (rest := []) C (c_X0_hasTask (lt85 hb) p1 M) dX5_beginOf_5 u_605 (in_0 (lt85 hb)) (contW_0 g _ _ _ _ _) rfl u_510 u_511 mi_X0_hasTask (by decide) rfl rfl (Nat.le_of_ble_eq_true rfl) (xk1 hm (by decide)) (xn1 hm (by decide)) (fun v1 h2 => ?_)
  refine r_if_eq (tgt := 35) C dX5_beginOf_8 (by decide) (fun h3 => ?_) (fun h3 => ?_)
  · exact t_X5_beginOf_35 C hm hb M p1 p2
  · refine r_iload_n C 2 dX5_beginOf_11 rfl rfl ?_
    refine r_callNRi (host := "WatchStack") (rest := []) C (c_X9_isJob p2 M) dX5_beginOf_12 (by decide +kernel) u_821 mi_X9_isJob (by decide) rfl rfl (Nat.le_of_ble_eq_true rfl) (xk1 hm (by decide)) (xn1 hm (by decide)) (fun v7 h8 => ?_)
    refine r_if_eq (tgt := 35) C dX5_beginOf_15 (by decide) (fun h9 => ?_) (fun h9 => ?_)
    · exact t_X5_beginOf_35 C hm hb M p1 p2
    · refine r_iload_n C 2 dX5_beginOf_18 rfl rfl ?_
      refine r_aload_n C 0 dX5_beginOf_19 rfl rfl ?_
      refine gf_23_1 C dX5_beginOf_20 u_331 (in_23 hb) ?_
      refine r_iload_n C 1 dX5_beginOf_23 rfl rfl ?_
      refine r_aald (t0 := 7) (ty := .object "WatchStack$TaskState") C dX5_beginOf_24 (in_24 hb) (contW_24 g _ _ _ _ _) rfl rfl (fun h10 => ?_)
      refine gf_25_1 C dX5_beginOf_25 u_295 (in_25 hb (inb_lt h10)) ?_
      refine r_icmp_ge (tgt := 35) C dX5_beginOf_28 (by decide) (fun h11 => ?_) (fun h11 => ?_)
      · exact t_X5_beginOf_35 C hm hb M p1 p2
      · refine r_iconst (v := 1) C dX5_beginOf_31 (by decide) ?_
        refine r_goto (tgt := 36) C dX5_beginOf_32 (by decide) ?_
        exact t_X5_beginOf_36 C hm hb M p1 p2 1
def B_X4_delayFrom_51 (b : Nat) (k3 : Int32 → Option (Int32)) (l1 : Int32) (l2 : Int32) (l3 : Int32) (l4 : Int32) (l5i : Nat) (s0 : Int32) (M : Mw) : Option (Int32) :=
  (if s0 = l2 then some ((M.1 28 b l5i 0) - l1) else (bd (l4 + 1) (fun v9 => (k3 v9))))
def B_X4_delayFrom_3 (b : Nat) (l1 : Int32) (l2 : Int32) (l3 : Int32) (M : Mw) (k3 : Int32 → Option (Int32)) (l4 : Int32) : Option (Int32) :=
  (if (M.1 26 b 0 1) ≤ l4 then some (-1) else (if inb l4 128 then (if (M.1 28 b l4.toNatClampNeg 0) < l1 then (bd (l4 + 1) (fun v4 => (k3 v4))) else (if (M.1 28 b l4.toNatClampNeg 2) = l3 then (if (M.1 28 b l4.toNatClampNeg 1) < 6 then (B_X4_delayFrom_51 b k3 l1 l2 l3 l4 l4.toNatClampNeg 0 M) else (B_X4_delayFrom_51 b k3 l1 l2 l3 l4 l4.toNatClampNeg 1 M)) else (bd (l4 + 1) (fun v6 => (k3 v6))))) else none))
def F_X4_delayFrom (b : Nat) (p1 : Int32) (p2 : Int32) (p3 : Int32) (M : Mw) : Option (Int32) :=
  (it (fun _ => none) (B_X4_delayFrom_3 b p1 p2 p3 M) FU 0)
set_option maxRecDepth 100000 in
set_option maxHeartbeats 4000000 in
theorem t_X4_delayFrom_51 {g : Gw} {x : Xw} (C : Cw g x cX4_delayFrom RX4 6 (some .int) 1) (hm : x.2.2.2.2.2.2.2.2.2.2.2 = (0, 0)) {b : Nat} (hb : b < 3) (M : Mw) (k3 : Int32 → Option (Int32)) (l1 : Int32) (l2 : Int32) (l3 : Int32) (l4 : Int32) (l5i : Nat) (s0 : Int32) (hl5i : l5i < 128) (hk3 : ∀ (l4 : Int32), Sw g x (fun v : Int32 => (some (.int v), M)) M 0 0 3 [(0, .ref (gA g 26 b 0)), (1, .int l1), (2, .int l2), (3, .int l3), (4, .int l4)] [] (k3 l4)) : Sw g x (fun v : Int32 => (some (.int v), M)) M 0 0 51 [(0, .ref (gA g 26 b 0)), (1, .int l1), (2, .int l2), (3, .int l3), (4, .int l4), (5, .ref (gA g 28 b l5i))] [.int s0] (B_X4_delayFrom_51 b k3 l1 l2 l3 l4 l5i s0 M) := by
  unfold B_X4_delayFrom_51
  refine r_iload_n C 2 dX4_delayFrom_51 rfl rfl ?_
  refine r_icmp_ne (tgt := 62) C dX4_delayFrom_52 (by decide) (fun h8 => ?_) (fun h8 => ?_)
  · refine r_aload C 5 dX4_delayFrom_55 rfl ?_
    refine r_iconst (v := 0) C dX4_delayFrom_57 (by decide) ?_
    refine r_ialdc C dX4_delayFrom_58 (in_28 hb hl5i) (contW_28 g _ _ _ _ _) (by decide) (j := 0) (by decide) ?_
    refine r_iload_n C 1 dX4_delayFrom_59 rfl rfl ?_
    refine r_isub C dX4_delayFrom_60 ?_
    exact r_iret C dX4_delayFrom_61 rfl rfl (xk0 hm) (xn0 hm)
  · refine r_iinc (c := 1) (lv' := fun v9 => [(4, .int v9), (0, .ref (gA g 26 b 0)), (1, .int l1), (2, .int l2), (3, .int l3), (5, .ref (gA g 28 b l5i))]) C 4 dX4_delayFrom_62 rfl (by decide) (by decide) (fun _ => rfl) (fun v9 => ?_)
    refine r_goto (tgt := 3) C dX4_delayFrom_65 (by decide) ?_
    refine r_lv [1, 2, 3, 4, 0] rfl ?_
    exact hk3 v9
set_option maxRecDepth 100000 in
set_option maxHeartbeats 4000000 in
theorem t_X4_delayFrom_3 {g : Gw} {x : Xw} (C : Cw g x cX4_delayFrom RX4 6 (some .int) 1) (hm : x.2.2.2.2.2.2.2.2.2.2.2 = (0, 0)) {b : Nat} (hb : b < 3) (M : Mw) (l1 : Int32) (l2 : Int32) (l3 : Int32) (k3 : Int32 → Option (Int32)) (hk3 : ∀ (l4 : Int32), Sw g x (fun v : Int32 => (some (.int v), M)) M 0 0 3 [(0, .ref (gA g 26 b 0)), (1, .int l1), (2, .int l2), (3, .int l3), (4, .int l4)] [] (k3 l4)) (l4 : Int32) : Sw g x (fun v : Int32 => (some (.int v), M)) M 0 0 3 [(0, .ref (gA g 26 b 0)), (1, .int l1), (2, .int l2), (3, .int l3), (4, .int l4)] [] (B_X4_delayFrom_3 b l1 l2 l3 M k3 l4) := by
  unfold B_X4_delayFrom_3
  refine r_iload C 4 dX4_delayFrom_3 rfl ?_
  refine r_aload_n C 0 dX4_delayFrom_5 rfl rfl ?_
  refine gf_26_1 C dX4_delayFrom_6 u_283 (in_26 hb) ?_
  refine r_icmp_ge (tgt := 68) C dX4_delayFrom_9 (by decide) (fun h1 => ?_) (fun h1 => ?_)
  · refine r_iconst (v := (-1)) C dX4_delayFrom_68 (by decide) ?_
    exact r_iret C dX4_delayFrom_69 rfl rfl (xk0 hm) (xn0 hm)
  · refine r_aload_n C 0 dX4_delayFrom_12 rfl rfl ?_
    refine gf_26_0 C dX4_delayFrom_13 u_281 (in_26 hb) ?_
    refine r_iload C 4 dX4_delayFrom_16 rfl ?_
    refine r_aald (t0 := 5) (ty := .array .int) C dX4_delayFrom_18 (in_27 hb) (contW_27 g _ _ _ _ _) rfl rfl (fun h2 => ?_)
    refine r_astore (lv' := [(5, .ref (gA g 28 b l4.toNatClampNeg)), (0, .ref (gA g 26 b 0)), (1, .int l1), (2, .int l2), (3, .int l3), (4, .int l4)]) C dX4_delayFrom_19 (by decide) rfl ?_
    refine r_aload C 0 dX4_delayFrom_21 rfl ?_
    refine r_iconst (v := 0) C dX4_delayFrom_23 (by decide) ?_
    refine r_ialdc C dX4_delayFrom_24 (in_28 hb (inb_lt h2)) (contW_28 g _ _ _ _ _) (by decide) (j := 0) (by decide) ?_
    refine r_iload_n C 2 dX4_delayFrom_25 rfl rfl ?_
    refine r_icmp_lt (tgt := 62) C dX4_delayFrom_26 (by decide) (fun h3 => ?_) (fun h3 => ?_)
    · refine r_iinc (c := 1) (lv' := fun v4 => [(4, .int v4), (5, .ref (gA g 28 b l4.toNatClampNeg)), (0, .ref (gA g 26 b 0)), (1, .int l1), (2, .int l2), (3, .int l3)]) C 5 dX4_delayFrom_62 rfl (by decide) (by decide) (fun _ => rfl) (fun v4 => ?_)
      refine r_goto (tgt := 3) C dX4_delayFrom_65 (by decide) ?_
      refine r_lv [2, 3, 4, 5, 0] rfl ?_
      exact hk3 v4
    · refine r_aload C 0 dX4_delayFrom_29 rfl ?_
      refine r_iconst (v := 2) C dX4_delayFrom_31 (by decide) ?_
      refine r_ialdc C dX4_delayFrom_32 (in_28 hb (inb_lt h2)) (contW_28 g _ _ _ _ _) (by decide) (j := 2) (by decide) ?_
      refine r_iload_n C 4 dX4_delayFrom_33 rfl rfl ?_
      refine r_icmp_ne (tgt := 62) C dX4_delayFrom_34 (by decide) (fun h5 => ?_) (fun h5 => ?_)
      · refine r_aload C 0 dX4_delayFrom_37 rfl ?_
        refine r_iconst (v := 1) C dX4_delayFrom_39 (by decide) ?_
        refine r_ialdc C dX4_delayFrom_40 (in_28 hb (inb_lt h2)) (contW_28 g _ _ _ _ _) (by decide) (j := 1) (by decide) ?_
        refine r_bipush (v := 6) C dX4_delayFrom_41 (by decide) ?_
        refine r_icmp_lt (tgt := 50) C dX4_delayFrom_43 (by decide) (fun h7 => ?_) (fun h7 => ?_)
        · refine r_iconst (v := 0) C dX4_delayFrom_50 (by decide) ?_
          refine r_lv [1, 2, 3, 4, 5, 0] rfl ?_
          exact t_X4_delayFrom_51 C hm hb M k3 l1 l2 l3 l4 l4.toNatClampNeg 0 (inb_lt h2) hk3
        · refine r_iconst (v := 1) C dX4_delayFrom_46 (by decide) ?_
          refine r_goto (tgt := 51) C dX4_delayFrom_47 (by decide) ?_
          refine r_lv [1, 2, 3, 4, 5, 0] rfl ?_
          exact t_X4_delayFrom_51 C hm hb M k3 l1 l2 l3 l4 l4.toNatClampNeg 1 (inb_lt h2) hk3
      · refine r_iinc (c := 1) (lv' := fun v6 => [(4, .int v6), (5, .ref (gA g 28 b l4.toNatClampNeg)), (0, .ref (gA g 26 b 0)), (1, .int l1), (2, .int l2), (3, .int l3)]) C 5 dX4_delayFrom_62 rfl (by decide) (by decide) (fun _ => rfl) (fun v6 => ?_)
        refine r_goto (tgt := 3) C dX4_delayFrom_65 (by decide) ?_
        refine r_lv [2, 3, 4, 5, 0] rfl ?_
        exact hk3 v6
set_option maxRecDepth 100000 in
set_option maxHeartbeats 4000000 in
theorem tl_X4_delayFrom_3 {g : Gw} {x : Xw} (C : Cw g x cX4_delayFrom RX4 6 (some .int) 1) (hm : x.2.2.2.2.2.2.2.2.2.2.2 = (0, 0)) {b : Nat} (hb : b < 3) (M : Mw) (l1 : Int32) (l2 : Int32) (l3 : Int32) (n : Nat) : ∀ (l4 : Int32), Sw g x (fun v : Int32 => (some (.int v), M)) M 0 0 3 [(0, .ref (gA g 26 b 0)), (1, .int l1), (2, .int l2), (3, .int l3), (4, .int l4)] [] (it (fun _ => none) (B_X4_delayFrom_3 b l1 l2 l3 M) n l4) := by
  induction n with
  | zero =>
    intro l4
    exact r_none
  | succ n ih =>
    intro l4
    exact t_X4_delayFrom_3 C hm hb M l1 l2 l3 _ ih l4
set_option maxRecDepth 100000 in
set_option maxHeartbeats 4000000 in
theorem c_X4_delayFrom {g : Gw} {l : Launch} {b : Nat} (hb : b < 3) (p1 : Int32) (p2 : Int32) (p3 : Int32) (M : Mw) : Kw g l yX4_delayFrom cX4_delayFrom 6 (some .int) 1 0 0 [.ref (gA g 26 b 0), .int p1, .int p2, .int p3] M (fun v : Int32 => (some (.int v), M)) (F_X4_delayFrom b p1 p2 p3 M) := by
  refine Kw.of (own := RX4) (lv0 := [(0, .ref (gA g 26 b 0)), (1, .int p1), (2, .int p2), (3, .int p3)]) (by decide +kernel) rfl (Nat.le_of_ble_eq_true rfl) rfl (fun x C hl hm => ?_)
  subst hl
  unfold F_X4_delayFrom
  refine r_iconst (v := 0) C dX4_delayFrom_0 (by decide) ?_
  refine r_istore0 (lv' := [(4, .int 0), (0, .ref (gA g 26 b 0)), (1, .int p1), (2, .int p2), (3, .int p3)]) C dX4_delayFrom_1 (by decide) rfl ?_
  refine r_lv [1, 2, 3, 4, 0] rfl ?_
  exact tl_X4_delayFrom_3 C hm hb M p1 p2 p3 FU 0
def B_X5_delayOf_43 (b : Nat) (l2i : Nat) (l3 : Int32) (s0 : Int32) (M : Mw) : Option (Int32) :=
  (if s0 = (-1) then some (-1) else ((F_X4_delayFrom b s0 l3 (M.1 12 (b + 5) l2i 1) M).bind (fun v7 => some v7)))
def B_X5_delayOf_22 (b : Nat) (l2i : Nat) (s0 : Int32) (M : Mw) : Option (Int32) :=
  (if s0 = 0 then ((F_X5_beginOf b (M.1 12 (b + 5) l2i 1) (M.1 12 (b + 5) l2i 2) M).bind (fun v4 => (B_X5_delayOf_43 b l2i s0 v4 M))) else (B_X5_delayOf_43 b l2i s0 (M.1 12 (b + 5) l2i 2) M))
def F_X5_delayOf (b : Nat) (p1 : Int32) (M : Mw) : Option (Int32) :=
  (if inb p1 19 then (if (M.1 12 (b + 5) p1.toNatClampNeg 0) = 5 then (B_X5_delayOf_22 b p1.toNatClampNeg 1 M) else (B_X5_delayOf_22 b p1.toNatClampNeg 0 M)) else none)
set_option maxRecDepth 100000 in
set_option maxHeartbeats 4000000 in
theorem t_X5_delayOf_43 {g : Gw} {x : Xw} (C : Cw g x cX5_delayOf RX5 5 (some .int) 3) (hm : x.2.2.2.2.2.2.2.2.2.2.2 = (0, 0)) {b : Nat} (hb : b < 3) (M : Mw) (l2i : Nat) (l3 : Int32) (s0 : Int32) (hl2i : l2i < 19) : Sw g x (fun v : Int32 => (some (.int v), M)) M 0 0 43 [(0, .ref (gA g 23 b 0)), (2, .ref (gA g 12 (b + 5) l2i)), (3, .int l3)] [.int s0] (B_X5_delayOf_43 b l2i l3 s0 M) := by
  unfold B_X5_delayOf_43
  refine r_istore0 (lv' := [(4, .int s0), (0, .ref (gA g 23 b 0)), (2, .ref (gA g 12 (b + 5) l2i)), (3, .int l3)]) C dX5_delayOf_43 (by decide) rfl ?_
  refine r_iload C 0 dX5_delayOf_45 rfl ?_
  refine r_iconst (v := (-1)) C dX5_delayOf_47 (by decide) ?_
  refine r_icmp_ne (tgt := 55) C dX5_delayOf_48 (by decide) (fun h6 => ?_) (fun h6 => ?_)
  · refine r_iconst (v := (-1)) C dX5_delayOf_51 (by decide) ?_
    refine r_goto (tgt := 68) C dX5_delayOf_52 (by decide) ?_
    exact r_iret C dX5_delayOf_68 rfl rfl (xk0 hm) (xn0 hm)
  · refine r_aload_n C 1 dX5_delayOf_55 rfl rfl ?_
    refine gf_23_2 C dX5_delayOf_56 u_333 (in_23 hb) ?_
    refine r_iload C 0 dX5_delayOf_59 rfl ?_
    refine r_iload_n C 3 dX5_delayOf_61 rfl rfl ?_
    refine r_aload_n C 2 dX5_delayOf_62 rfl rfl ?_
    refine r_iconst (v := 1) C dX5_delayOf_63 (by decide) ?_
    refine r_ialdc C dX5_delayOf_64 (in_12 (lt85 hb) hl2i) (contW_12 g _ _ _ _ _) (by decide) (j := 1) (by decide) ?_
    refine r_callVRi (rest := []) C (c_X4_delayFrom hb s0 l3 (M.1 12 (b + 5) l2i 1) M) dX5_delayOf_65 u_992 (in_26 hb) (contW_26 g _ _ _ _ _) rfl u_993 u_994 mi_X4_delayFrom (by decide) rfl rfl (Nat.le_of_ble_eq_true rfl) (xk1 hm (by decide)) (xn1 hm (by decide)) (fun v7 h8 => ?_)
    exact r_iret C dX5_delayOf_68 rfl rfl (xk0 hm) (xn0 hm)
set_option maxRecDepth 100000 in
set_option maxHeartbeats 4000000 in
theorem t_X5_delayOf_22 {g : Gw} {x : Xw} (C : Cw g x cX5_delayOf RX5 5 (some .int) 3) (hm : x.2.2.2.2.2.2.2.2.2.2.2 = (0, 0)) {b : Nat} (hb : b < 3) (M : Mw) (l2i : Nat) (s0 : Int32) (hl2i : l2i < 19) : Sw g x (fun v : Int32 => (some (.int v), M)) M 0 0 22 [(0, .ref (gA g 23 b 0)), (2, .ref (gA g 12 (b + 5) l2i))] [.int s0] (B_X5_delayOf_22 b l2i s0 M) := by
  unfold B_X5_delayOf_22
  refine r_istore_n0 (lv' := [(3, .int s0), (0, .ref (gA g 23 b 0)), (2, .ref (gA g 12 (b + 5) l2i))]) C dX5_delayOf_22 rfl (by decide) rfl ?_
  refine r_iload_n C 0 dX5_delayOf_23 rfl rfl ?_
  refine r_if_eq (tgt := 33) C dX5_delayOf_24 (by decide) (fun h3 => ?_) (fun h3 => ?_)
  · refine r_aload_n C 1 dX5_delayOf_33 rfl rfl ?_
    refine r_aload_n C 2 dX5_delayOf_34 rfl rfl ?_
    refine r_iconst (v := 1) C dX5_delayOf_35 (by decide) ?_
    refine r_ialdc C dX5_delayOf_36 (in_12 (lt85 hb) hl2i) (contW_12 g _ _ _ _ _) (by decide) (j := 1) (by decide) ?_
    refine r_aload_n C 2 dX5_delayOf_37 rfl rfl ?_
    refine r_iconst (v := 2) C dX5_delayOf_38 (by decide) ?_
    refine r_ialdc C dX5_delayOf_39 (in_12 (lt85 hb) hl2i) (contW_12 g _ _ _ _ _) (by decide) (j := 2) (by decide) ?_
    refine r_callVRi (rest := []) C (c_X5_beginOf hb (M.1 12 (b + 5) l2i 1) (M.1 12 (b + 5) l2i 2) M) dX5_delayOf_40 u_988 (in_23 hb) (contW_23 g _ _ _ _ _) rfl u_989 u_990 mi_X5_beginOf (by decide) rfl rfl (Nat.le_of_ble_eq_true rfl) (xk1 hm (by decide)) (xn1 hm (by decide)) (fun v4 h5 => ?_)
    refine r_lv [1, 2, 0] rfl ?_
    exact t_X5_delayOf_43 C hm hb M l2i s0 v4 hl2i
  · refine r_aload_n C 2 dX5_delayOf_27 rfl rfl ?_
    refine r_iconst (v := 2) C dX5_delayOf_28 (by decide) ?_
    refine r_ialdc C dX5_delayOf_29 (in_12 (lt85 hb) hl2i) (contW_12 g _ _ _ _ _) (by decide) (j := 2) (by decide) ?_
    refine r_goto (tgt := 43) C dX5_delayOf_30 (by decide) ?_
    refine r_lv [1, 2, 0] rfl ?_
    exact t_X5_delayOf_43 C hm hb M l2i s0 (M.1 12 (b + 5) l2i 2) hl2i
set_option maxRecDepth 100000 in
set_option maxHeartbeats 4000000 in
theorem c_X5_delayOf {g : Gw} {l : Launch} {b : Nat} (hb : b < 3) (p1 : Int32) (M : Mw) : Kw g l yX5_delayOf cX5_delayOf 5 (some .int) 3 0 0 [.ref (gA g 23 b 0), .int p1] M (fun v : Int32 => (some (.int v), M)) (F_X5_delayOf b p1 M) := by
  refine Kw.of (own := RX5) (lv0 := [(0, .ref (gA g 23 b 0)), (1, .int p1)]) (by decide +kernel) rfl (Nat.le_of_ble_eq_true rfl) rfl (fun x C hl hm => ?_)
  subst hl
  unfold F_X5_delayOf
  refine r_aload_n C 0 dX5_delayOf_0 rfl rfl ?_
  refine gf_23_0 C dX5_delayOf_1 u_328 (in_23 hb) ?_
  refine gf_0_14 C dX5_delayOf_4 u_238 (in_0 (lt85 hb)) ?_
  refine r_iload_n C 1 dX5_delayOf_7 rfl rfl ?_
  refine r_aald (t0 := 5) (ty := .array .int) C dX5_delayOf_8 (in_11 (lt85 hb)) (contW_11 g _ _ _ _ _) rfl rfl (fun h1 => ?_)
  refine r_astore_n (lv' := [(2, .ref (gA g 12 (b + 5) p1.toNatClampNeg)), (0, .ref (gA g 23 b 0)), (1, .int p1)]) C dX5_delayOf_9 rfl (by decide) rfl ?_
  refine r_aload_n C 0 dX5_delayOf_10 rfl rfl ?_
  refine r_iconst (v := 0) C dX5_delayOf_11 (by decide) ?_
  refine r_ialdc C dX5_delayOf_12 (in_12 (lt85 hb) (inb_lt h1)) (contW_12 g _ _ _ _ _) (by decide) (j := 0) (by decide) ?_
  refine r_iconst (v := 5) C dX5_delayOf_13 (by decide) ?_
  refine r_icmp_ne (tgt := 21) C dX5_delayOf_14 (by decide) (fun h2 => ?_) (fun h2 => ?_)
  · refine r_iconst (v := 1) C dX5_delayOf_17 (by decide) ?_
    refine r_goto (tgt := 22) C dX5_delayOf_18 (by decide) ?_
    refine r_lv [1, 0] rfl ?_
    exact t_X5_delayOf_22 C hm hb M p1.toNatClampNeg 1 (inb_lt h1)
  · refine r_iconst (v := 0) C dX5_delayOf_21 (by decide) ?_
    refine r_lv [1, 0] rfl ?_
    exact t_X5_delayOf_22 C hm hb M p1.toNatClampNeg 0 (inb_lt h1)
def F_X9_caught (p1 : Int32) (M : Mw) : Option (Int32) :=
  ((F_X0_hasInjection 1 p1 M).bind (fun v1 => (if v1 = 0 then some (-2) else ((F_X5_delayOf 0 p1 M).bind (fun v4 => some v4)))))
set_option maxRecDepth 100000 in
set_option maxHeartbeats 4000000 in
theorem c_X9_caught {g : Gw} {l : Launch} (p1 : Int32) (M : Mw) : Kw g l yX9_caught cX9_caught 2 (some .int) 4 0 0 [.ref (gA g 41 0 0), .int p1] M (fun v : Int32 => (some (.int v), M)) (F_X9_caught p1 M) := by
  refine Kw.of (own := RX9) (lv0 := [(0, .ref (gA g 41 0 0)), (1, .int p1)]) (by decide +kernel) rfl (Nat.le_of_ble_eq_true rfl) rfl (fun x C hl hm => ?_)
  subst hl
  unfold F_X9_caught
  refine r_aload_n C 0 dX9_caught_0 rfl rfl ?_
  refine gf_41_1 C dX9_caught_1 u_365 in_41 ?_
  refine r_iload_n C 1 dX9_caught_4 rfl rfl ?_
  refine r_callVRi (rest := []) C (c_X0_hasInjection (by decide) p1 M) dX9_caught_5 u_717 (in_0 (by decide)) (contW_0 g _ _ _ _ _) rfl u_718 u_719 mi_X0_hasInjection (by decide) rfl rfl (Nat.le_of_ble_eq_true rfl) (xk1 hm (by decide)) (xn1 hm (by decide)) (fun v1 h2 => ?_)
  refine r_if_eq (tgt := 22) C dX9_caught_8 (by decide) (fun h3 => ?_) (fun h3 => ?_)
  · refine r_bipush (v := (-2)) C dX9_caught_22 (by decide) ?_
    exact r_iret C dX9_caught_24 rfl rfl (xk0 hm) (xn0 hm)
  · refine r_aload_n C 0 dX9_caught_11 rfl rfl ?_
    refine gf_41_6 C dX9_caught_12 u_370 in_41 ?_
    refine r_iload_n C 1 dX9_caught_15 rfl rfl ?_
    refine r_callVRi (rest := []) C (c_X5_delayOf (by decide) p1 M) dX9_caught_16 u_984 (in_23 (by decide)) (contW_23 g _ _ _ _ _) rfl u_985 u_986 mi_X5_delayOf (by decide) rfl rfl (Nat.le_of_ble_eq_true rfl) (xk1 hm (by decide)) (xn1 hm (by decide)) (fun v4 h5 => ?_)
    refine r_goto (tgt := 24) C dX9_caught_19 (by decide) ?_
    exact r_iret C dX9_caught_24 rfl rfl (xk0 hm) (xn0 hm)
def B_X0_dropInjection_2 (b : Nat) (l1 : Int32) (k2 : Int32 → Mw → Option (Mw)) (l2 : Int32) (M : Mw) : Option (Mw) :=
  (if (((M.1 0 b 0 6) + (M.1 0 b 0 7)) - 1) ≤ l2 then (if (M.1 0 b 0 6) ≤ l1 then (bd (uIw M 0 b 0 7 ((M.1 0 b 0 7) - 1)) (fun M3 => some M3)) else (bd (uIw M 0 b 0 6 ((M.1 0 b 0 6) - 1)) (fun M4 => some M4))) else (if inb (l2 + 1) 19 then (if inb l2 19 then (bd (rIw M 12 b l2.toNatClampNeg (va_cpy (M.1 12 b ((l2 + 1).toNatClampNeg)) (M.1 12 b l2.toNatClampNeg) 0 0 5)) (fun M7 => (bd (l2 + 1) (fun v8 => (k2 v8 M7))))) else none) else none))
def F_X0_dropInjection (b : Nat) (p1 : Int32) (M : Mw) : Option (Mw) :=
  (it (fun _ _ => none) (B_X0_dropInjection_2 b p1) FU p1 M)
set_option maxRecDepth 100000 in
set_option maxHeartbeats 4000000 in
theorem t_X0_dropInjection_2 {g : Gw} {x : Xw} (C : Cw g x cX0_dropInjection RX0 3 none 2) (hm : x.2.2.2.2.2.2.2.2.2.2.2 = (0, 0)) {b : Nat} (hb : b < 8) (l1 : Int32) (k2 : Int32 → Mw → Option (Mw)) (hk2 : ∀ (l2 : Int32) (M : Mw), Sw g x (fun M : Mw => (none, M)) M 0 0 2 [(0, .ref (gA g 0 b 0)), (1, .int l1), (2, .int l2)] [] (k2 l2 M)) (l2 : Int32) (M : Mw) : Sw g x (fun M : Mw => (none, M)) M 0 0 2 [(0, .ref (gA g 0 b 0)), (1, .int l1), (2, .int l2)] [] (B_X0_dropInjection_2 b l1 k2 l2 M) := by
  unfold B_X0_dropInjection_2
  refine r_iload_n C 2 dX0_dropInjection_2 rfl rfl ?_
  refine r_aload_n C 0 dX0_dropInjection_3 rfl rfl ?_
  refine gf_0_6 C dX0_dropInjection_4 u_205 (in_0 hb) ?_
  refine r_aload_n C 0 dX0_dropInjection_7 rfl rfl ?_
  refine gf_0_7 C dX0_dropInjection_8 u_210 (in_0 hb) ?_
  refine r_iadd C dX0_dropInjection_11 ?_
  refine r_iconst (v := 1) C dX0_dropInjection_12 (by decide) ?_
  refine r_isub C dX0_dropInjection_13 ?_
  refine r_icmp_ge (tgt := 43) C dX0_dropInjection_14 (by decide) (fun h1 => ?_) (fun h1 => ?_)
  · refine r_iload_n C 1 dX0_dropInjection_43 rfl rfl ?_
    refine r_aload_n C 0 dX0_dropInjection_44 rfl rfl ?_
    refine gf_0_6 C dX0_dropInjection_45 u_205 (in_0 hb) ?_
    refine r_icmp_ge (tgt := 64) C dX0_dropInjection_48 (by decide) (fun h2 => ?_) (fun h2 => ?_)
    · refine r_aload_n C 0 dX0_dropInjection_64 rfl rfl ?_
      refine r_dup C rfl dX0_dropInjection_65 ?_
      refine gf_0_7 C dX0_dropInjection_66 u_210 (in_0 hb) ?_
      refine r_iconst (v := 1) C dX0_dropInjection_69 (by decide) ?_
      refine r_isub C dX0_dropInjection_70 ?_
      refine pf_0_7 C dX0_dropInjection_71 u_210 (in_0 hb) (fun M3 => ?_)
      exact r_vret C dX0_dropInjection_74 rfl rfl (xk0 hm) (xn0 hm)
    · refine r_aload_n C 0 dX0_dropInjection_51 rfl rfl ?_
      refine r_dup C rfl dX0_dropInjection_52 ?_
      refine gf_0_6 C dX0_dropInjection_53 u_205 (in_0 hb) ?_
      refine r_iconst (v := 1) C dX0_dropInjection_56 (by decide) ?_
      refine r_isub C dX0_dropInjection_57 ?_
      refine pf_0_6 C dX0_dropInjection_58 u_205 (in_0 hb) (fun M4 => ?_)
      refine r_goto (tgt := 74) C dX0_dropInjection_61 (by decide) ?_
      exact r_vret C dX0_dropInjection_74 rfl rfl (xk0 hm) (xn0 hm)
  · refine r_aload_n C 0 dX0_dropInjection_17 rfl rfl ?_
    refine gf_0_14 C dX0_dropInjection_18 u_236 (in_0 hb) ?_
    refine r_iload_n C 2 dX0_dropInjection_21 rfl rfl ?_
    refine r_iconst (v := 1) C dX0_dropInjection_22 (by decide) ?_
    refine r_iadd C dX0_dropInjection_23 ?_
    refine r_aald (t0 := 5) (ty := .array .int) C dX0_dropInjection_24 (in_11 hb) (contW_11 g _ _ _ _ _) rfl rfl (fun h5 => ?_)
    refine r_iconst (v := 0) C dX0_dropInjection_25 (by decide) ?_
    refine r_aload_n C 0 dX0_dropInjection_26 rfl rfl ?_
    refine gf_0_14 C dX0_dropInjection_27 u_236 (in_0 hb) ?_
    refine r_iload_n C 2 dX0_dropInjection_30 rfl rfl ?_
    refine r_aald (t0 := 5) (ty := .array .int) C dX0_dropInjection_31 (in_11 hb) (contW_11 g _ _ _ _ _) rfl rfl (fun h6 => ?_)
    refine r_iconst (v := 0) C dX0_dropInjection_32 (by decide) ?_
    refine r_iconst (v := 5) C dX0_dropInjection_33 (by decide) ?_
    refine r_copy (L := 5) C u_548 u_550 u_549 u_141 dX0_dropInjection_34 (in_12 hb (inb_lt h5)) (in_12 hb (inb_lt h6)) (contW_12 g _ _) (contW_12 g _ _) (by decide) (by decide) (by decide) (by decide) (by decide) (Nat.le_of_ble_eq_true rfl) (fun M7 => ?_)
    refine r_iinc (c := 1) (lv' := fun v8 => [(2, .int v8), (0, .ref (gA g 0 b 0)), (1, .int l1)]) C 2 dX0_dropInjection_37 rfl (by decide) (by decide) (fun _ => rfl) (fun v8 => ?_)
    refine r_goto (tgt := 2) C dX0_dropInjection_40 (by decide) ?_
    refine r_lv [1, 2, 0] rfl ?_
    exact hk2 v8 M7
set_option maxRecDepth 100000 in
set_option maxHeartbeats 4000000 in
theorem tl_X0_dropInjection_2 {g : Gw} {x : Xw} (C : Cw g x cX0_dropInjection RX0 3 none 2) (hm : x.2.2.2.2.2.2.2.2.2.2.2 = (0, 0)) {b : Nat} (hb : b < 8) (l1 : Int32) (n : Nat) : ∀ (l2 : Int32) (M : Mw), Sw g x (fun M : Mw => (none, M)) M 0 0 2 [(0, .ref (gA g 0 b 0)), (1, .int l1), (2, .int l2)] [] (it (fun _ _ => none) (B_X0_dropInjection_2 b l1) n l2 M) := by
  induction n with
  | zero =>
    intro l2 M
    exact r_none
  | succ n ih =>
    intro l2 M
    exact t_X0_dropInjection_2 C hm hb l1 _ ih l2 M
set_option maxRecDepth 100000 in
set_option maxHeartbeats 4000000 in
theorem c_X0_dropInjection {g : Gw} {l : Launch} {b : Nat} (hb : b < 8) (p1 : Int32) (M : Mw) : Kw g l yX0_dropInjection cX0_dropInjection 3 none 2 0 0 [.ref (gA g 0 b 0), .int p1] M (fun M : Mw => (none, M)) (F_X0_dropInjection b p1 M) := by
  refine Kw.of (own := RX0) (lv0 := [(0, .ref (gA g 0 b 0)), (1, .int p1)]) (by decide +kernel) rfl (Nat.le_of_ble_eq_true rfl) rfl (fun x C hl hm => ?_)
  subst hl
  unfold F_X0_dropInjection
  refine r_iload_n C 1 dX0_dropInjection_0 rfl rfl ?_
  refine r_istore_n0 (lv' := [(2, .int p1), (0, .ref (gA g 0 b 0)), (1, .int p1)]) C dX0_dropInjection_1 rfl (by decide) rfl ?_
  refine r_lv [1, 2, 0] rfl ?_
  exact tl_X0_dropInjection_2 C hm hb p1 FU p1 M
def B_X5_countRecords_6 (b : Nat) (k6 : Int32 → Mw → Option (Int32 × Mw)) (l1 : Int32) (M : Mw) : Option (Int32 × Mw) :=
  (if (M.1 0 (b + 5) 0 0) ≤ l1 then some ((M.1 26 b 0 1), M) else (if (M.1 23 b 0 5) = (-1) then ((F_X5_step b M).bind (fun M5 => (bd (l1 + 1) (fun v7 => (k6 v7 M5))))) else some ((M.1 26 b 0 1), M)))
def F_X5_countRecords (b : Nat) (M : Mw) : Option (Int32 × Mw) :=
  ((F_X5_reset b M).bind (fun M1 => (it (fun _ _ => none) (B_X5_countRecords_6 b) FU 0 M1)))
set_option maxRecDepth 100000 in
set_option maxHeartbeats 4000000 in
theorem t_X5_countRecords_6 {g : Gw} {x : Xw} (C : Cw g x cX5_countRecords RX5 2 (some .int) 6) (hm : x.2.2.2.2.2.2.2.2.2.2.2 = (0, 0)) {b : Nat} (hb : b < 3) (k6 : Int32 → Mw → Option (Int32 × Mw)) (hk6 : ∀ (l1 : Int32) (M : Mw), Sw g x (fun q : Int32 × Mw => (some (.int q.1), q.2)) M 0 0 6 [(0, .ref (gA g 23 b 0)), (1, .int l1)] [] (k6 l1 M)) (l1 : Int32) (M : Mw) : Sw g x (fun q : Int32 × Mw => (some (.int q.1), q.2)) M 0 0 6 [(0, .ref (gA g 23 b 0)), (1, .int l1)] [] (B_X5_countRecords_6 b k6 l1 M) := by
  unfold B_X5_countRecords_6
  refine r_iload_n C 1 dX5_countRecords_6 rfl rfl ?_
  refine r_aload_n C 0 dX5_countRecords_7 rfl rfl ?_
  refine gf_23_0 C dX5_countRecords_8 u_328 (in_23 hb) ?_
  refine gf_0_0 C dX5_countRecords_11 u_181 (in_0 (lt85 hb)) ?_
  refine r_icmp_ge (tgt := 35) C dX5_countRecords_14 (by decide) (fun h3 => ?_) (fun h3 => ?_)
  · refine r_aload_n C 0 dX5_countRecords_35 rfl rfl ?_
    refine gf_23_2 C dX5_countRecords_36 u_333 (in_23 hb) ?_
    refine gf_26_1 C dX5_countRecords_39 u_284 (in_26 hb) ?_
    exact r_iret C dX5_countRecords_42 rfl rfl (xk0 hm) (xn0 hm)
  · refine r_aload_n C 0 dX5_countRecords_17 rfl rfl ?_
    refine gf_23_5 C dX5_countRecords_18 u_339 (in_23 hb) ?_
    refine r_iconst (v := (-1)) C dX5_countRecords_21 (by decide) ?_
    refine r_icmp_ne (tgt := 35) C dX5_countRecords_22 (by decide) (fun h4 => ?_) (fun h4 => ?_)
    · refine r_aload_n C 0 dX5_countRecords_25 rfl rfl ?_
      refine r_callVU (rest := []) C (c_X5_step hb M) dX5_countRecords_26 u_575 (in_23 hb) (contW_23 g _ _ _ _ _) rfl u_576 u_19 mi_X5_step (by decide) rfl rfl (Nat.le_of_ble_eq_true rfl) (xk1 hm (by decide)) (xn1 hm (by decide)) (fun M5 h6 => ?_)
      refine r_iinc (c := 1) (lv' := fun v7 => [(1, .int v7), (0, .ref (gA g 23 b 0))]) C 1 dX5_countRecords_29 rfl (by decide) (by decide) (fun _ => rfl) (fun v7 => ?_)
      refine r_goto (tgt := 6) C dX5_countRecords_32 (by decide) ?_
      refine r_lv [1, 0] rfl ?_
      exact hk6 v7 M5
    · refine r_aload_n C 0 dX5_countRecords_35 rfl rfl ?_
      refine gf_23_2 C dX5_countRecords_36 u_333 (in_23 hb) ?_
      refine gf_26_1 C dX5_countRecords_39 u_284 (in_26 hb) ?_
      exact r_iret C dX5_countRecords_42 rfl rfl (xk0 hm) (xn0 hm)
set_option maxRecDepth 100000 in
set_option maxHeartbeats 4000000 in
theorem tl_X5_countRecords_6 {g : Gw} {x : Xw} (C : Cw g x cX5_countRecords RX5 2 (some .int) 6) (hm : x.2.2.2.2.2.2.2.2.2.2.2 = (0, 0)) {b : Nat} (hb : b < 3) (n : Nat) : ∀ (l1 : Int32) (M : Mw), Sw g x (fun q : Int32 × Mw => (some (.int q.1), q.2)) M 0 0 6 [(0, .ref (gA g 23 b 0)), (1, .int l1)] [] (it (fun _ _ => none) (B_X5_countRecords_6 b) n l1 M) := by
  induction n with
  | zero =>
    intro l1 M
    exact r_none
  | succ n ih =>
    intro l1 M
    exact t_X5_countRecords_6 C hm hb _ ih l1 M
set_option maxRecDepth 100000 in
set_option maxHeartbeats 4000000 in
theorem c_X5_countRecords {g : Gw} {l : Launch} {b : Nat} (hb : b < 3) (M : Mw) : Kw g l yX5_countRecords cX5_countRecords 2 (some .int) 6 0 0 [.ref (gA g 23 b 0)] M (fun q : Int32 × Mw => (some (.int q.1), q.2)) (F_X5_countRecords b M) := by
  refine Kw.of (own := RX5) (lv0 := [(0, .ref (gA g 23 b 0))]) (by decide +kernel) rfl (Nat.le_of_ble_eq_true rfl) rfl (fun x C hl hm => ?_)
  subst hl
  unfold F_X5_countRecords
  refine r_aload_n C 0 dX5_countRecords_0 rfl rfl ?_
  refine r_callVU (rest := []) C (c_X5_reset hb M) dX5_countRecords_1 u_574 (in_23 hb) (contW_23 g _ _ _ _ _) rfl u_555 u_556 mi_X5_reset (by decide) rfl rfl (Nat.le_of_ble_eq_true rfl) (xk1 hm (by decide)) (xn1 hm (by decide)) (fun M1 h2 => ?_)
  refine r_iconst (v := 0) C dX5_countRecords_4 (by decide) ?_
  refine r_istore_n0 (lv' := [(1, .int 0), (0, .ref (gA g 23 b 0))]) C dX5_countRecords_5 rfl (by decide) rfl ?_
  refine r_lv [1, 0] rfl ?_
  exact tl_X5_countRecords_6 C hm hb FU 0 M1
def F_X8_recordsLacking (b1 : Nat) (p2 : Int32) (M : Mw) : Option (Int32 × Mw) :=
  ((F_X0_copyFrom (2 + 5) b1 M).bind (fun M1 => ((F_X0_dropInjection (2 + 5) p2 M1).bind (fun M3 => ((F_X5_countRecords 2 M3).bind (fun q5 => some (q5.1, q5.2)))))))
set_option maxRecDepth 100000 in
set_option maxHeartbeats 4000000 in
theorem c_X8_recordsLacking {g : Gw} {l : Launch} {b1 : Nat} (hb1 : b1 < 8) (p2 : Int32) (M : Mw) : Kw g l yX8_recordsLacking cX8_recordsLacking 3 (some .int) 7 0 0 [.ref (gA g 36 0 0), .ref (gA g 0 b1 0), .int p2] M (fun q : Int32 × Mw => (some (.int q.1), q.2)) (F_X8_recordsLacking b1 p2 M) := by
  refine Kw.of (own := RX8) (lv0 := [(0, .ref (gA g 36 0 0)), (1, .ref (gA g 0 b1 0)), (2, .int p2)]) (by decide +kernel) rfl (Nat.le_of_ble_eq_true rfl) rfl (fun x C hl hm => ?_)
  subst hl
  unfold F_X8_recordsLacking
  refine r_aload_n C 0 dX8_recordsLacking_0 rfl rfl ?_
  refine gf_36_2 C dX8_recordsLacking_1 u_363 in_36 ?_
  refine gf_23_0 C dX8_recordsLacking_4 u_329 (in_23 (by decide)) ?_
  refine r_aload_n C 1 dX8_recordsLacking_7 rfl rfl ?_
  refine r_callVU (rest := []) C (c_X0_copyFrom (lt85 (by decide)) hb1 M) dX8_recordsLacking_8 u_1004 (in_0 (lt85 (by decide))) (contW_0 g _ _ _ _ _) rfl u_545 u_546 mi_X0_copyFrom (by decide) rfl rfl (Nat.le_of_ble_eq_true rfl) (xk1 hm (by decide)) (xn1 hm (by decide)) (fun M1 h2 => ?_)
  refine r_aload_n C 0 dX8_recordsLacking_11 rfl rfl ?_
  refine gf_36_2 C dX8_recordsLacking_12 u_363 in_36 ?_
  refine gf_23_0 C dX8_recordsLacking_15 u_329 (in_23 (by decide)) ?_
  refine r_iload_n C 2 dX8_recordsLacking_18 rfl rfl ?_
  refine r_callVU (rest := []) C (c_X0_dropInjection (lt85 (by decide)) p2 M1) dX8_recordsLacking_19 u_1005 (in_0 (lt85 (by decide))) (contW_0 g _ _ _ _ _) rfl u_1006 u_1007 mi_X0_dropInjection (by decide) rfl rfl (Nat.le_of_ble_eq_true rfl) (xk1 hm (by decide)) (xn1 hm (by decide)) (fun M3 h4 => ?_)
  refine r_aload_n C 0 dX8_recordsLacking_22 rfl rfl ?_
  refine gf_36_2 C dX8_recordsLacking_23 u_363 in_36 ?_
  refine r_callVWi (rest := []) C (c_X5_countRecords (by decide) M3) dX8_recordsLacking_26 u_1009 (in_23 (by decide)) (contW_23 g _ _ _ _ _) rfl u_1010 u_1011 mi_X5_countRecords (by decide) rfl rfl (Nat.le_of_ble_eq_true rfl) (xk1 hm (by decide)) (xn1 hm (by decide)) (fun q5 h6 => ?_)
  exact r_iret C dX8_recordsLacking_29 rfl rfl (xk0 hm) (xn0 hm)
def F_X9_without (p1 : Int32) (M : Mw) : Option (Int32 × Mw) :=
  ((F_X0_hasInjection 1 p1 M).bind (fun v1 => (if v1 = 0 then some ((-2), M) else ((F_X8_recordsLacking 1 p1 M).bind (fun q4 => some (q4.1, q4.2))))))
set_option maxRecDepth 100000 in
set_option maxHeartbeats 4000000 in
theorem c_X9_without {g : Gw} {l : Launch} (p1 : Int32) (M : Mw) : Kw g l yX9_without cX9_without 2 (some .int) 8 0 0 [.ref (gA g 41 0 0), .int p1] M (fun q : Int32 × Mw => (some (.int q.1), q.2)) (F_X9_without p1 M) := by
  refine Kw.of (own := RX9) (lv0 := [(0, .ref (gA g 41 0 0)), (1, .int p1)]) (by decide +kernel) rfl (Nat.le_of_ble_eq_true rfl) rfl (fun x C hl hm => ?_)
  subst hl
  unfold F_X9_without
  refine r_aload_n C 0 dX9_without_0 rfl rfl ?_
  refine gf_41_1 C dX9_without_1 u_365 in_41 ?_
  refine r_iload_n C 1 dX9_without_4 rfl rfl ?_
  refine r_callVRi (rest := []) C (c_X0_hasInjection (by decide) p1 M) dX9_without_5 u_717 (in_0 (by decide)) (contW_0 g _ _ _ _ _) rfl u_718 u_719 mi_X0_hasInjection (by decide) rfl rfl (Nat.le_of_ble_eq_true rfl) (xk1 hm (by decide)) (xn1 hm (by decide)) (fun v1 h2 => ?_)
  refine r_if_eq (tgt := 26) C dX9_without_8 (by decide) (fun h3 => ?_) (fun h3 => ?_)
  · refine r_bipush (v := (-2)) C dX9_without_26 (by decide) ?_
    exact r_iret C dX9_without_28 rfl rfl (xk0 hm) (xn0 hm)
  · refine r_aload_n C 0 dX9_without_11 rfl rfl ?_
    refine gf_41_8 C dX9_without_12 u_372 in_41 ?_
    refine r_aload_n C 0 dX9_without_15 rfl rfl ?_
    refine gf_41_1 C dX9_without_16 u_365 in_41 ?_
    refine r_iload_n C 1 dX9_without_19 rfl rfl ?_
    refine r_callVWi (rest := []) C (c_X8_recordsLacking (by decide) p1 M) dX9_without_20 u_1000 in_36 (contW_36 g _ _ _ _ _) rfl u_1001 u_1002 mi_X8_recordsLacking (by decide) rfl rfl (Nat.le_of_ble_eq_true rfl) (xk1 hm (by decide)) (xn1 hm (by decide)) (fun q4 h5 => ?_)
    refine r_goto (tgt := 28) C dX9_without_23 (by decide) ?_
    exact r_iret C dX9_without_28 rfl rfl (xk0 hm) (xn0 hm)
def B_X9_blame_28 (k28 : Int32 → Int32 → Int32 → Mw → Option (Int32 × Mw)) (l1 : Int32) (l2 : Int32) (l3 : Int32) (M : Mw) : Option (Int32 × Mw) :=
  (if ((M.1 0 1 0 6) + (M.1 0 1 0 7)) ≤ l3 then some (l1, M) else ((F_X8_recordsLacking 1 l3 M).bind (fun q4 => (bd q4.1 (fun v6 => (if l2 ≤ v6 then (bd (l3 + 1) (fun v8 => (k28 l1 l2 v8 q4.2))) else (bd (l3 + 1) (fun v9 => (k28 l3 v6 v9 q4.2)))))))))
def F_X9_blame (M : Mw) : Option (Int32 × Mw) :=
  (if (M.1 0 1 0 3) = 0 then some ((-2), M) else (bd (M.1 26 0 0 1) (fun v2 => (it (fun _ _ _ _ => none) (B_X9_blame_28) FU (-1) v2 0 M))))
set_option maxRecDepth 100000 in
set_option maxHeartbeats 4000000 in
theorem t_X9_blame_28 {g : Gw} {x : Xw} (C : Cw g x cX9_blame RX9 5 (some .int) 8) (hm : x.2.2.2.2.2.2.2.2.2.2.2 = (0, 0)) (k28 : Int32 → Int32 → Int32 → Mw → Option (Int32 × Mw)) (hk28 : ∀ (l1 : Int32) (l2 : Int32) (l3 : Int32) (M : Mw), Sw g x (fun q : Int32 × Mw => (some (.int q.1), q.2)) M 0 0 28 [(0, .ref (gA g 41 0 0)), (1, .int l1), (2, .int l2), (3, .int l3)] [] (k28 l1 l2 l3 M)) (l1 : Int32) (l2 : Int32) (l3 : Int32) (M : Mw) : Sw g x (fun q : Int32 × Mw => (some (.int q.1), q.2)) M 0 0 28 [(0, .ref (gA g 41 0 0)), (1, .int l1), (2, .int l2), (3, .int l3)] [] (B_X9_blame_28 k28 l1 l2 l3 M) := by
  unfold B_X9_blame_28
  refine r_iload_n C 3 dX9_blame_28 rfl rfl ?_
  refine r_aload_n C 0 dX9_blame_29 rfl rfl ?_
  refine gf_41_1 C dX9_blame_30 u_365 in_41 ?_
  refine gf_0_6 C dX9_blame_33 u_209 (in_0 (by decide)) ?_
  refine r_aload_n C 0 dX9_blame_36 rfl rfl ?_
  refine gf_41_1 C dX9_blame_37 u_365 in_41 ?_
  refine gf_0_7 C dX9_blame_40 u_213 (in_0 (by decide)) ?_
  refine r_iadd C dX9_blame_43 ?_
  refine r_icmp_ge (tgt := 78) C dX9_blame_44 (by decide) (fun h3 => ?_) (fun h3 => ?_)
  · refine r_iload_n C 1 dX9_blame_78 rfl rfl ?_
    exact r_iret C dX9_blame_79 rfl rfl (xk0 hm) (xn0 hm)
  · refine r_aload_n C 0 dX9_blame_47 rfl rfl ?_
    refine gf_41_8 C dX9_blame_48 u_372 in_41 ?_
    refine r_aload_n C 0 dX9_blame_51 rfl rfl ?_
    refine gf_41_1 C dX9_blame_52 u_365 in_41 ?_
    refine r_iload_n C 3 dX9_blame_55 rfl rfl ?_
    refine r_callVWi (rest := []) C (c_X8_recordsLacking (by decide) l3 M) dX9_blame_56 u_1000 in_36 (contW_36 g _ _ _ _ _) rfl u_1001 u_1002 mi_X8_recordsLacking (by decide) rfl rfl (Nat.le_of_ble_eq_true rfl) (xk1 hm (by decide)) (xn1 hm (by decide)) (fun q4 h5 => ?_)
    refine r_istore (lv' := fun v6 => [(4, .int v6), (0, .ref (gA g 41 0 0)), (1, .int l1), (2, .int l2), (3, .int l3)]) C dX9_blame_59 (by decide) (fun _ => rfl) (fun v6 => ?_)
    refine r_iload C 0 dX9_blame_61 rfl ?_
    refine r_iload_n C 3 dX9_blame_63 rfl rfl ?_
    refine r_icmp_ge (tgt := 72) C dX9_blame_64 (by decide) (fun h7 => ?_) (fun h7 => ?_)
    · refine r_iinc (c := 1) (lv' := fun v8 => [(3, .int v8), (4, .int v6), (0, .ref (gA g 41 0 0)), (1, .int l1), (2, .int l2)]) C 4 dX9_blame_72 rfl (by decide) (by decide) (fun _ => rfl) (fun v8 => ?_)
      refine r_goto (tgt := 28) C dX9_blame_75 (by decide) ?_
      refine r_lv [2, 3, 4, 0] rfl ?_
      exact hk28 l1 l2 v8 q4.2
    · refine r_iload C 0 dX9_blame_67 rfl ?_
      refine r_istore_n0 (lv' := [(2, .int v6), (4, .int v6), (0, .ref (gA g 41 0 0)), (1, .int l1), (3, .int l3)]) C dX9_blame_69 rfl (by decide) rfl ?_
      refine r_iload_n C 4 dX9_blame_70 rfl rfl ?_
      refine r_istore_n0 (lv' := [(1, .int l3), (2, .int v6), (4, .int v6), (0, .ref (gA g 41 0 0)), (3, .int l3)]) C dX9_blame_71 rfl (by decide) rfl ?_
      refine r_iinc (c := 1) (lv' := fun v9 => [(3, .int v9), (1, .int l3), (2, .int v6), (4, .int v6), (0, .ref (gA g 41 0 0))]) C 4 dX9_blame_72 rfl (by decide) (by decide) (fun _ => rfl) (fun v9 => ?_)
      refine r_goto (tgt := 28) C dX9_blame_75 (by decide) ?_
      refine r_lv [4, 1, 2, 0] rfl ?_
      exact hk28 l3 v6 v9 q4.2
set_option maxRecDepth 100000 in
set_option maxHeartbeats 4000000 in
theorem tl_X9_blame_28 {g : Gw} {x : Xw} (C : Cw g x cX9_blame RX9 5 (some .int) 8) (hm : x.2.2.2.2.2.2.2.2.2.2.2 = (0, 0)) (n : Nat) : ∀ (l1 : Int32) (l2 : Int32) (l3 : Int32) (M : Mw), Sw g x (fun q : Int32 × Mw => (some (.int q.1), q.2)) M 0 0 28 [(0, .ref (gA g 41 0 0)), (1, .int l1), (2, .int l2), (3, .int l3)] [] (it (fun _ _ _ _ => none) (B_X9_blame_28) n l1 l2 l3 M) := by
  induction n with
  | zero =>
    intro l1 l2 l3 M
    exact r_none
  | succ n ih =>
    intro l1 l2 l3 M
    exact t_X9_blame_28 C hm _ ih l1 l2 l3 M
set_option maxRecDepth 100000 in
set_option maxHeartbeats 4000000 in
theorem c_X9_blame {g : Gw} {l : Launch} (M : Mw) : Kw g l yX9_blame cX9_blame 5 (some .int) 8 0 0 [.ref (gA g 41 0 0)] M (fun q : Int32 × Mw => (some (.int q.1), q.2)) (F_X9_blame M) := by
  refine Kw.of (own := RX9) (lv0 := [(0, .ref (gA g 41 0 0))]) (by decide +kernel) rfl (Nat.le_of_ble_eq_true rfl) rfl (fun x C hl hm => ?_)
  subst hl
  unfold F_X9_blame
  refine r_aload_n C 0 dX9_blame_0 rfl rfl ?_
  refine gf_41_1 C dX9_blame_1 u_365 in_41 ?_
  refine gf_0_3 C dX9_blame_4 u_195 (in_0 (by decide)) ?_
  refine r_if_ne (tgt := 13) C dX9_blame_7 (by decide) (fun h1 => ?_) (fun h1 => ?_)
  · refine r_bipush (v := (-2)) C dX9_blame_10 (by decide) ?_
    exact r_iret C dX9_blame_12 rfl rfl (xk0 hm) (xn0 hm)
  · refine r_iconst (v := (-1)) C dX9_blame_13 (by decide) ?_
    refine r_istore_n0 (lv' := [(1, .int (-1)), (0, .ref (gA g 41 0 0))]) C dX9_blame_14 rfl (by decide) rfl ?_
    refine r_aload_n C 1 dX9_blame_15 rfl rfl ?_
    refine gf_41_6 C dX9_blame_16 u_370 in_41 ?_
    refine gf_23_2 C dX9_blame_19 u_334 (in_23 (by decide)) ?_
    refine gf_26_1 C dX9_blame_22 u_285 (in_26 (by decide)) ?_
    refine r_istore_n (lv' := fun v2 => [(2, .int v2), (1, .int (-1)), (0, .ref (gA g 41 0 0))]) C dX9_blame_25 rfl (by decide) (fun _ => rfl) (fun v2 => ?_)
    refine r_iconst (v := 0) C dX9_blame_26 (by decide) ?_
    refine r_istore_n0 (lv' := [(3, .int 0), (2, .int v2), (1, .int (-1)), (0, .ref (gA g 41 0 0))]) C dX9_blame_27 rfl (by decide) rfl ?_
    refine r_lv [3, 2, 1, 0] rfl ?_
    exact tl_X9_blame_28 C hm FU (-1) v2 0 M
def F_X8_recordsWindowed (b1 : Nat) (p2 : Int32) (p3 : Int32) (p4 : Int32) (M : Mw) : Option (Int32 × Mw) :=
  ((F_X0_copyFrom (2 + 5) b1 M).bind (fun M1 => (if inb p2 5 then (bd (uIw M1 4 (2 + 5) p2.toNatClampNeg 2 p3) (fun M4 => (if inb p2 5 then (bd (uIw M4 4 (2 + 5) p2.toNatClampNeg 3 p4) (fun M6 => ((F_X5_countRecords 2 M6).bind (fun q7 => some (q7.1, q7.2))))) else none))) else none)))
set_option maxRecDepth 100000 in
set_option maxHeartbeats 4000000 in
theorem c_X8_recordsWindowed {g : Gw} {l : Launch} {b1 : Nat} (hb1 : b1 < 8) (p2 : Int32) (p3 : Int32) (p4 : Int32) (M : Mw) : Kw g l yX8_recordsWindowed cX8_recordsWindowed 5 (some .int) 7 0 0 [.ref (gA g 36 0 0), .ref (gA g 0 b1 0), .int p2, .int p3, .int p4] M (fun q : Int32 × Mw => (some (.int q.1), q.2)) (F_X8_recordsWindowed b1 p2 p3 p4 M) := by
  refine Kw.of (own := RX8) (lv0 := [(0, .ref (gA g 36 0 0)), (1, .ref (gA g 0 b1 0)), (2, .int p2), (3, .int p3), (4, .int p4)]) (by decide +kernel) rfl (Nat.le_of_ble_eq_true rfl) rfl (fun x C hl hm => ?_)
  subst hl
  unfold F_X8_recordsWindowed
  refine r_aload_n C 0 dX8_recordsWindowed_0 rfl rfl ?_
  refine gf_36_2 C dX8_recordsWindowed_1 u_363 in_36 ?_
  refine gf_23_0 C dX8_recordsWindowed_4 u_329 (in_23 (by decide)) ?_
  refine r_aload_n C 1 dX8_recordsWindowed_7 rfl rfl ?_
  refine r_callVU (rest := []) C (c_X0_copyFrom (lt85 (by decide)) hb1 M) dX8_recordsWindowed_8 u_1004 (in_0 (lt85 (by decide))) (contW_0 g _ _ _ _ _) rfl u_545 u_546 mi_X0_copyFrom (by decide) rfl rfl (Nat.le_of_ble_eq_true rfl) (xk1 hm (by decide)) (xn1 hm (by decide)) (fun M1 h2 => ?_)
  refine r_aload_n C 0 dX8_recordsWindowed_11 rfl rfl ?_
  refine gf_36_2 C dX8_recordsWindowed_12 u_363 in_36 ?_
  refine gf_23_0 C dX8_recordsWindowed_15 u_329 (in_23 (by decide)) ?_
  refine gf_0_10 C dX8_recordsWindowed_18 u_220 (in_0 (lt85 (by decide))) ?_
  refine r_iload_n C 2 dX8_recordsWindowed_21 rfl rfl ?_
  refine r_aald (t0 := 5) (ty := .array .int) C dX8_recordsWindowed_22 (in_3 (lt85 (by decide))) (contW_3 g _ _ _ _ _) rfl rfl (fun h3 => ?_)
  refine r_iconst (v := 2) C dX8_recordsWindowed_23 (by decide) ?_
  refine r_iload_n C 3 dX8_recordsWindowed_24 rfl rfl ?_
  refine r_iastc C dX8_recordsWindowed_25 (in_4 (lt85 (by decide)) (inb_lt h3)) (contW_4 g _ _) (by decide) (j := 2) (by decide) (fun M4 => ?_)
  refine r_aload_n C 0 dX8_recordsWindowed_26 rfl rfl ?_
  refine gf_36_2 C dX8_recordsWindowed_27 u_363 in_36 ?_
  refine gf_23_0 C dX8_recordsWindowed_30 u_329 (in_23 (by decide)) ?_
  refine gf_0_10 C dX8_recordsWindowed_33 u_220 (in_0 (lt85 (by decide))) ?_
  refine r_iload_n C 2 dX8_recordsWindowed_36 rfl rfl ?_
  refine r_aald (t0 := 5) (ty := .array .int) C dX8_recordsWindowed_37 (in_3 (lt85 (by decide))) (contW_3 g _ _ _ _ _) rfl rfl (fun h5 => ?_)
  refine r_iconst (v := 3) C dX8_recordsWindowed_38 (by decide) ?_
  refine r_iload C 4 dX8_recordsWindowed_39 rfl ?_
  refine r_iastc C dX8_recordsWindowed_41 (in_4 (lt85 (by decide)) (inb_lt h5)) (contW_4 g _ _) (by decide) (j := 3) (by decide) (fun M6 => ?_)
  refine r_aload_n C 0 dX8_recordsWindowed_42 rfl rfl ?_
  refine gf_36_2 C dX8_recordsWindowed_43 u_363 in_36 ?_
  refine r_callVWi (rest := []) C (c_X5_countRecords (by decide) M6) dX8_recordsWindowed_46 u_1009 (in_23 (by decide)) (contW_23 g _ _ _ _ _) rfl u_1010 u_1011 mi_X5_countRecords (by decide) rfl rfl (Nat.le_of_ble_eq_true rfl) (xk1 hm (by decide)) (xn1 hm (by decide)) (fun q7 h8 => ?_)
  exact r_iret C dX8_recordsWindowed_49 rfl rfl (xk0 hm) (xn0 hm)
