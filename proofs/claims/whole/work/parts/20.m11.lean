def F_X9_with (p1 : Int32) (p2 : Int32) (p3 : Int32) (M : Mw) : Option (Int32 × Mw) :=
  ((F_X0_hasTask 1 p1 M).bind (fun v1 => (if v1 = 0 then some ((-2), M) else (if p2 < 0 then some ((-2), M) else (if 99 < p2 then some ((-2), M) else (if p3 ≤ p2 then some ((-2), M) else (if p3 ≤ 120 then ((F_X8_recordsWindowed 1 p1 p2 p3 M).bind (fun q8 => some (q8.1, q8.2))) else some ((-2), M))))))))
set_option maxRecDepth 100000 in
set_option maxHeartbeats 4000000 in
theorem c_X9_with {g : Gw} {l : Launch} (p1 : Int32) (p2 : Int32) (p3 : Int32) (M : Mw) : Kw g l yX9_with cX9_with 4 (some .int) 8 0 0 [.ref (gA g 41 0 0), .int p1, .int p2, .int p3] M (fun q : Int32 × Mw => (some (.int q.1), q.2)) (F_X9_with p1 p2 p3 M) := by
  refine Kw.of (own := RX9) (lv0 := [(0, .ref (gA g 41 0 0)), (1, .int p1), (2, .int p2), (3, .int p3)]) (by decide +kernel) rfl (Nat.le_of_ble_eq_true rfl) rfl (fun x C hl hm => ?_)
  subst hl
  unfold F_X9_with
  refine r_aload_n C 0 dX9_with_0 rfl rfl ?_
  refine gf_41_1 C dX9_with_1 u_365 in_41 ?_
  refine r_iload_n C 1 dX9_with_4 rfl rfl ?_
  refine r_callVRi (rest := []) C (c_X0_hasTask (by decide) p1 M) dX9_with_5 u_699 (in_0 (by decide)) (contW_0 g _ _ _ _ _) rfl u_510 u_511 mi_X0_hasTask (by decide) rfl rfl (Nat.le_of_ble_eq_true rfl) (xk1 hm (by decide)) (xn1 hm (by decide)) (fun v1 h2 => ?_)
  refine r_if_eq (tgt := 32) C dX9_with_8 (by decide) (fun h3 => ?_) (fun h3 => ?_)
  · refine r_bipush (v := (-2)) C dX9_with_32 (by decide) ?_
    exact r_iret C dX9_with_34 rfl rfl (xk0 hm) (xn0 hm)
  · refine r_iload_n C 2 dX9_with_11 rfl rfl ?_
    refine r_if_lt (tgt := 32) C dX9_with_12 (by decide) (fun h4 => ?_) (fun h4 => ?_)
    · refine r_bipush (v := (-2)) C dX9_with_32 (by decide) ?_
      exact r_iret C dX9_with_34 rfl rfl (xk0 hm) (xn0 hm)
    · refine r_iload_n C 2 dX9_with_15 rfl rfl ?_
      refine r_bipush (v := 99) C dX9_with_16 (by decide) ?_
      refine r_icmp_gt (tgt := 32) C dX9_with_18 (by decide) (fun h5 => ?_) (fun h5 => ?_)
      · refine r_bipush (v := (-2)) C dX9_with_32 (by decide) ?_
        exact r_iret C dX9_with_34 rfl rfl (xk0 hm) (xn0 hm)
      · refine r_iload_n C 3 dX9_with_21 rfl rfl ?_
        refine r_iload_n C 2 dX9_with_22 rfl rfl ?_
        refine r_icmp_le (tgt := 32) C dX9_with_23 (by decide) (fun h6 => ?_) (fun h6 => ?_)
        · refine r_bipush (v := (-2)) C dX9_with_32 (by decide) ?_
          exact r_iret C dX9_with_34 rfl rfl (xk0 hm) (xn0 hm)
        · refine r_iload_n C 3 dX9_with_26 rfl rfl ?_
          refine r_bipush (v := 120) C dX9_with_27 (by decide) ?_
          refine r_icmp_le (tgt := 35) C dX9_with_29 (by decide) (fun h7 => ?_) (fun h7 => ?_)
          · refine r_aload_n C 0 dX9_with_35 rfl rfl ?_
            refine gf_41_8 C dX9_with_36 u_372 in_41 ?_
            refine r_aload_n C 0 dX9_with_39 rfl rfl ?_
            refine gf_41_1 C dX9_with_40 u_365 in_41 ?_
            refine r_iload_n C 1 dX9_with_43 rfl rfl ?_
            refine r_iload_n C 2 dX9_with_44 rfl rfl ?_
            refine r_iload_n C 3 dX9_with_45 rfl rfl ?_
            refine r_callVWi (rest := []) C (c_X8_recordsWindowed (by decide) p1 p2 p3 M) dX9_with_46 u_1021 in_36 (contW_36 g _ _ _ _ _) rfl u_1022 u_1023 mi_X8_recordsWindowed (by decide) rfl rfl (Nat.le_of_ble_eq_true rfl) (xk1 hm (by decide)) (xn1 hm (by decide)) (fun q8 h9 => ?_)
            exact r_iret C dX9_with_49 rfl rfl (xk0 hm) (xn0 hm)
          · refine r_bipush (v := (-2)) C dX9_with_32 (by decide) ?_
            exact r_iret C dX9_with_34 rfl rfl (xk0 hm) (xn0 hm)
def B_X9_tight_43 (l1 : Int32) (l2 : Int32) (l3 : Int32) (k43 : Int32 → Mw → Option (Int32 × Mw)) (l4 : Int32) (M : Mw) : Option (Int32 × Mw) :=
  (if l3 ≤ l4 then some (l4, M) else ((F_X8_recordsWindowed 1 l1 l2 l4 M).bind (fun q10 => (if q10.1 ≤ (q10.2.1 26 0 0 1) then some (l4, q10.2) else (bd (l4 + 1) (fun v13 => (k43 v13 q10.2)))))))
def F_X9_tight (p1 : Int32) (M : Mw) : Option (Int32 × Mw) :=
  ((F_X0_hasTask 1 p1 M).bind (fun v1 => (if v1 = 0 then some ((-2), M) else (if inb p1 5 then (bd (M.1 4 1 p1.toNatClampNeg 2) (fun v5 => (if inb p1 5 then (bd (M.1 4 1 p1.toNatClampNeg 3) (fun v7 => (bd (v5 + 1) (fun v8 => (it (fun _ _ => none) (B_X9_tight_43 p1 v5 v7) FU v8 M))))) else none))) else none))))
set_option maxRecDepth 100000 in
set_option maxHeartbeats 4000000 in
theorem t_X9_tight_43 {g : Gw} {x : Xw} (C : Cw g x cX9_tight RX9 5 (some .int) 8) (hm : x.2.2.2.2.2.2.2.2.2.2.2 = (0, 0)) (l1 : Int32) (l2 : Int32) (l3 : Int32) (k43 : Int32 → Mw → Option (Int32 × Mw)) (hk43 : ∀ (l4 : Int32) (M : Mw), Sw g x (fun q : Int32 × Mw => (some (.int q.1), q.2)) M 0 0 43 [(0, .ref (gA g 41 0 0)), (1, .int l1), (2, .int l2), (3, .int l3), (4, .int l4)] [] (k43 l4 M)) (l4 : Int32) (M : Mw) : Sw g x (fun q : Int32 × Mw => (some (.int q.1), q.2)) M 0 0 43 [(0, .ref (gA g 41 0 0)), (1, .int l1), (2, .int l2), (3, .int l3), (4, .int l4)] [] (B_X9_tight_43 l1 l2 l3 k43 l4 M) := by
  unfold B_X9_tight_43
  refine r_iload C 4 dX9_tight_43 rfl ?_
  refine r_iload_n C 3 dX9_tight_45 rfl rfl ?_
  refine r_icmp_ge (tgt := 83) C dX9_tight_46 (by decide) (fun h9 => ?_) (fun h9 => ?_)
  · refine r_iload C 4 dX9_tight_83 rfl ?_
    exact r_iret C dX9_tight_85 rfl rfl (xk0 hm) (xn0 hm)
  · refine r_aload_n C 0 dX9_tight_49 rfl rfl ?_
    refine gf_41_8 C dX9_tight_50 u_372 in_41 ?_
    refine r_aload_n C 0 dX9_tight_53 rfl rfl ?_
    refine gf_41_1 C dX9_tight_54 u_365 in_41 ?_
    refine r_iload_n C 1 dX9_tight_57 rfl rfl ?_
    refine r_iload_n C 2 dX9_tight_58 rfl rfl ?_
    refine r_iload C 4 dX9_tight_59 rfl ?_
    refine r_callVWi (rest := []) C (c_X8_recordsWindowed (by decide) l1 l2 l4 M) dX9_tight_61 u_1021 in_36 (contW_36 g _ _ _ _ _) rfl u_1022 u_1023 mi_X8_recordsWindowed (by decide) rfl rfl (Nat.le_of_ble_eq_true rfl) (xk1 hm (by decide)) (xn1 hm (by decide)) (fun q10 h11 => ?_)
    refine r_aload_n C 0 dX9_tight_64 rfl rfl ?_
    refine gf_41_6 C dX9_tight_65 u_370 in_41 ?_
    refine gf_23_2 C dX9_tight_68 u_334 (in_23 (by decide)) ?_
    refine gf_26_1 C dX9_tight_71 u_285 (in_26 (by decide)) ?_
    refine r_icmp_le (tgt := 83) C dX9_tight_74 (by decide) (fun h12 => ?_) (fun h12 => ?_)
    · refine r_iload C 4 dX9_tight_83 rfl ?_
      exact r_iret C dX9_tight_85 rfl rfl (xk0 hm) (xn0 hm)
    · refine r_iinc (c := 1) (lv' := fun v13 => [(4, .int v13), (0, .ref (gA g 41 0 0)), (1, .int l1), (2, .int l2), (3, .int l3)]) C 4 dX9_tight_77 rfl (by decide) (by decide) (fun _ => rfl) (fun v13 => ?_)
      refine r_goto (tgt := 43) C dX9_tight_80 (by decide) ?_
      refine r_lv [1, 2, 3, 4, 0] rfl ?_
      exact hk43 v13 q10.2
set_option maxRecDepth 100000 in
set_option maxHeartbeats 4000000 in
theorem tl_X9_tight_43 {g : Gw} {x : Xw} (C : Cw g x cX9_tight RX9 5 (some .int) 8) (hm : x.2.2.2.2.2.2.2.2.2.2.2 = (0, 0)) (l1 : Int32) (l2 : Int32) (l3 : Int32) (n : Nat) : ∀ (l4 : Int32) (M : Mw), Sw g x (fun q : Int32 × Mw => (some (.int q.1), q.2)) M 0 0 43 [(0, .ref (gA g 41 0 0)), (1, .int l1), (2, .int l2), (3, .int l3), (4, .int l4)] [] (it (fun _ _ => none) (B_X9_tight_43 l1 l2 l3) n l4 M) := by
  induction n with
  | zero =>
    intro l4 M
    exact r_none
  | succ n ih =>
    intro l4 M
    exact t_X9_tight_43 C hm l1 l2 l3 _ ih l4 M
set_option maxRecDepth 100000 in
set_option maxHeartbeats 4000000 in
theorem c_X9_tight {g : Gw} {l : Launch} (p1 : Int32) (M : Mw) : Kw g l yX9_tight cX9_tight 5 (some .int) 8 0 0 [.ref (gA g 41 0 0), .int p1] M (fun q : Int32 × Mw => (some (.int q.1), q.2)) (F_X9_tight p1 M) := by
  refine Kw.of (own := RX9) (lv0 := [(0, .ref (gA g 41 0 0)), (1, .int p1)]) (by decide +kernel) rfl (Nat.le_of_ble_eq_true rfl) rfl (fun x C hl hm => ?_)
  subst hl
  unfold F_X9_tight
  refine r_aload_n C 0 dX9_tight_0 rfl rfl ?_
  refine gf_41_1 C dX9_tight_1 u_365 in_41 ?_
  refine r_iload_n C 1 dX9_tight_4 rfl rfl ?_
  refine r_callVRi (rest := []) C (c_X0_hasTask (by decide) p1 M) dX9_tight_5 u_699 (in_0 (by decide)) (contW_0 g _ _ _ _ _) rfl u_510 u_511 mi_X0_hasTask (by decide) rfl rfl (Nat.le_of_ble_eq_true rfl) (xk1 hm (by decide)) (xn1 hm (by decide)) (fun v1 h2 => ?_)
  refine r_if_ne (tgt := 14) C dX9_tight_8 (by decide) (fun h3 => ?_) (fun h3 => ?_)
  · refine r_bipush (v := (-2)) C dX9_tight_11 (by decide) ?_
    exact r_iret C dX9_tight_13 rfl rfl (xk0 hm) (xn0 hm)
  · refine r_aload_n C 0 dX9_tight_14 rfl rfl ?_
    refine gf_41_1 C dX9_tight_15 u_365 in_41 ?_
    refine gf_0_10 C dX9_tight_18 u_222 (in_0 (by decide)) ?_
    refine r_iload_n C 1 dX9_tight_21 rfl rfl ?_
    refine r_aald (t0 := 5) (ty := .array .int) C dX9_tight_22 (in_3 (by decide)) (contW_3 g _ _ _ _ _) rfl rfl (fun h4 => ?_)
    refine r_iconst (v := 2) C dX9_tight_23 (by decide) ?_
    refine r_ialdc C dX9_tight_24 (in_4 (by decide) (inb_lt h4)) (contW_4 g _ _ _ _ _) (by decide) (j := 2) (by decide) ?_
    refine r_istore_n (lv' := fun v5 => [(2, .int v5), (0, .ref (gA g 41 0 0)), (1, .int p1)]) C dX9_tight_25 rfl (by decide) (fun _ => rfl) (fun v5 => ?_)
    refine r_aload_n C 1 dX9_tight_26 rfl rfl ?_
    refine gf_41_1 C dX9_tight_27 u_365 in_41 ?_
    refine gf_0_10 C dX9_tight_30 u_222 (in_0 (by decide)) ?_
    refine r_iload_n C 2 dX9_tight_33 rfl rfl ?_
    refine r_aald (t0 := 5) (ty := .array .int) C dX9_tight_34 (in_3 (by decide)) (contW_3 g _ _ _ _ _) rfl rfl (fun h6 => ?_)
    refine r_iconst (v := 3) C dX9_tight_35 (by decide) ?_
    refine r_ialdc C dX9_tight_36 (in_4 (by decide) (inb_lt h6)) (contW_4 g _ _ _ _ _) (by decide) (j := 3) (by decide) ?_
    refine r_istore_n (lv' := fun v7 => [(3, .int v7), (2, .int v5), (0, .ref (gA g 41 0 0)), (1, .int p1)]) C dX9_tight_37 rfl (by decide) (fun _ => rfl) (fun v7 => ?_)
    refine r_iload_n C 1 dX9_tight_38 rfl rfl ?_
    refine r_iconst (v := 1) C dX9_tight_39 (by decide) ?_
    refine r_iadd C dX9_tight_40 ?_
    refine r_istore (lv' := fun v8 => [(4, .int v8), (3, .int v7), (2, .int v5), (0, .ref (gA g 41 0 0)), (1, .int p1)]) C dX9_tight_41 (by decide) (fun _ => rfl) (fun v8 => ?_)
    refine r_lv [3, 4, 2, 1, 0] rfl ?_
    exact tl_X9_tight_43 C hm p1 v5 v7 FU v8 M
def B_X9_loose_48 (l1 : Int32) (l2 : Int32) (l3 : Int32) (k48 : Int32 → Mw → Option (Int32 × Mw)) (l4 : Int32) (M : Mw) : Option (Int32 × Mw) :=
  (if l4 ≤ l2 then some (l4, M) else ((F_X8_recordsWindowed 1 l1 l4 l3 M).bind (fun q10 => (if q10.1 ≤ (q10.2.1 26 0 0 1) then some (l4, q10.2) else (bd (l4 + (-1)) (fun v13 => (k48 v13 q10.2)))))))
def F_X9_loose (p1 : Int32) (M : Mw) : Option (Int32 × Mw) :=
  ((F_X0_hasTask 1 p1 M).bind (fun v1 => (if v1 = 0 then some ((-2), M) else (if inb p1 5 then (bd (M.1 4 1 p1.toNatClampNeg 2) (fun v5 => (if inb p1 5 then (bd (M.1 4 1 p1.toNatClampNeg 3) (fun v7 => (bd (if 99 < (v7 - 1) then 99 else (v7 - 1)) (fun v8 => (it (fun _ _ => none) (B_X9_loose_48 p1 v5 v7) FU v8 M))))) else none))) else none))))
set_option maxRecDepth 100000 in
set_option maxHeartbeats 4000000 in
theorem t_X9_loose_48 {g : Gw} {x : Xw} (C : Cw g x cX9_loose RX9 5 (some .int) 8) (hm : x.2.2.2.2.2.2.2.2.2.2.2 = (0, 0)) (l1 : Int32) (l2 : Int32) (l3 : Int32) (k48 : Int32 → Mw → Option (Int32 × Mw)) (hk48 : ∀ (l4 : Int32) (M : Mw), Sw g x (fun q : Int32 × Mw => (some (.int q.1), q.2)) M 0 0 48 [(0, .ref (gA g 41 0 0)), (1, .int l1), (2, .int l2), (3, .int l3), (4, .int l4)] [] (k48 l4 M)) (l4 : Int32) (M : Mw) : Sw g x (fun q : Int32 × Mw => (some (.int q.1), q.2)) M 0 0 48 [(0, .ref (gA g 41 0 0)), (1, .int l1), (2, .int l2), (3, .int l3), (4, .int l4)] [] (B_X9_loose_48 l1 l2 l3 k48 l4 M) := by
  unfold B_X9_loose_48
  refine r_iload C 4 dX9_loose_48 rfl ?_
  refine r_iload_n C 2 dX9_loose_50 rfl rfl ?_
  refine r_icmp_le (tgt := 88) C dX9_loose_51 (by decide) (fun h9 => ?_) (fun h9 => ?_)
  · refine r_iload C 4 dX9_loose_88 rfl ?_
    exact r_iret C dX9_loose_90 rfl rfl (xk0 hm) (xn0 hm)
  · refine r_aload_n C 0 dX9_loose_54 rfl rfl ?_
    refine gf_41_8 C dX9_loose_55 u_372 in_41 ?_
    refine r_aload_n C 0 dX9_loose_58 rfl rfl ?_
    refine gf_41_1 C dX9_loose_59 u_365 in_41 ?_
    refine r_iload_n C 1 dX9_loose_62 rfl rfl ?_
    refine r_iload C 4 dX9_loose_63 rfl ?_
    refine r_iload_n C 3 dX9_loose_65 rfl rfl ?_
    refine r_callVWi (rest := []) C (c_X8_recordsWindowed (by decide) l1 l4 l3 M) dX9_loose_66 u_1021 in_36 (contW_36 g _ _ _ _ _) rfl u_1022 u_1023 mi_X8_recordsWindowed (by decide) rfl rfl (Nat.le_of_ble_eq_true rfl) (xk1 hm (by decide)) (xn1 hm (by decide)) (fun q10 h11 => ?_)
    refine r_aload_n C 0 dX9_loose_69 rfl rfl ?_
    refine gf_41_6 C dX9_loose_70 u_370 in_41 ?_
    refine gf_23_2 C dX9_loose_73 u_334 (in_23 (by decide)) ?_
    refine gf_26_1 C dX9_loose_76 u_285 (in_26 (by decide)) ?_
    refine r_icmp_le (tgt := 88) C dX9_loose_79 (by decide) (fun h12 => ?_) (fun h12 => ?_)
    · refine r_iload C 4 dX9_loose_88 rfl ?_
      exact r_iret C dX9_loose_90 rfl rfl (xk0 hm) (xn0 hm)
    · refine r_iinc (c := (-1)) (lv' := fun v13 => [(4, .int v13), (0, .ref (gA g 41 0 0)), (1, .int l1), (2, .int l2), (3, .int l3)]) C 4 dX9_loose_82 rfl (by decide) (by decide) (fun _ => rfl) (fun v13 => ?_)
      refine r_goto (tgt := 48) C dX9_loose_85 (by decide) ?_
      refine r_lv [1, 2, 3, 4, 0] rfl ?_
      exact hk48 v13 q10.2
set_option maxRecDepth 100000 in
set_option maxHeartbeats 4000000 in
theorem tl_X9_loose_48 {g : Gw} {x : Xw} (C : Cw g x cX9_loose RX9 5 (some .int) 8) (hm : x.2.2.2.2.2.2.2.2.2.2.2 = (0, 0)) (l1 : Int32) (l2 : Int32) (l3 : Int32) (n : Nat) : ∀ (l4 : Int32) (M : Mw), Sw g x (fun q : Int32 × Mw => (some (.int q.1), q.2)) M 0 0 48 [(0, .ref (gA g 41 0 0)), (1, .int l1), (2, .int l2), (3, .int l3), (4, .int l4)] [] (it (fun _ _ => none) (B_X9_loose_48 l1 l2 l3) n l4 M) := by
  induction n with
  | zero =>
    intro l4 M
    exact r_none
  | succ n ih =>
    intro l4 M
    exact t_X9_loose_48 C hm l1 l2 l3 _ ih l4 M
set_option maxRecDepth 100000 in
set_option maxHeartbeats 4000000 in
theorem c_X9_loose {g : Gw} {l : Launch} (p1 : Int32) (M : Mw) : Kw g l yX9_loose cX9_loose 5 (some .int) 8 0 0 [.ref (gA g 41 0 0), .int p1] M (fun q : Int32 × Mw => (some (.int q.1), q.2)) (F_X9_loose p1 M) := by
  refine Kw.of (own := RX9) (lv0 := [(0, .ref (gA g 41 0 0)), (1, .int p1)]) (by decide +kernel) rfl (Nat.le_of_ble_eq_true rfl) rfl (fun x C hl hm => ?_)
  subst hl
  unfold F_X9_loose
  refine r_aload_n C 0 dX9_loose_0 rfl rfl ?_
  refine gf_41_1 C dX9_loose_1 u_365 in_41 ?_
  refine r_iload_n C 1 dX9_loose_4 rfl rfl ?_
  refine r_callVRi (rest := []) C (c_X0_hasTask (by decide) p1 M) dX9_loose_5 u_699 (in_0 (by decide)) (contW_0 g _ _ _ _ _) rfl u_510 u_511 mi_X0_hasTask (by decide) rfl rfl (Nat.le_of_ble_eq_true rfl) (xk1 hm (by decide)) (xn1 hm (by decide)) (fun v1 h2 => ?_)
  refine r_if_ne (tgt := 14) C dX9_loose_8 (by decide) (fun h3 => ?_) (fun h3 => ?_)
  · refine r_bipush (v := (-2)) C dX9_loose_11 (by decide) ?_
    exact r_iret C dX9_loose_13 rfl rfl (xk0 hm) (xn0 hm)
  · refine r_aload_n C 0 dX9_loose_14 rfl rfl ?_
    refine gf_41_1 C dX9_loose_15 u_365 in_41 ?_
    refine gf_0_10 C dX9_loose_18 u_222 (in_0 (by decide)) ?_
    refine r_iload_n C 1 dX9_loose_21 rfl rfl ?_
    refine r_aald (t0 := 5) (ty := .array .int) C dX9_loose_22 (in_3 (by decide)) (contW_3 g _ _ _ _ _) rfl rfl (fun h4 => ?_)
    refine r_iconst (v := 2) C dX9_loose_23 (by decide) ?_
    refine r_ialdc C dX9_loose_24 (in_4 (by decide) (inb_lt h4)) (contW_4 g _ _ _ _ _) (by decide) (j := 2) (by decide) ?_
    refine r_istore_n (lv' := fun v5 => [(2, .int v5), (0, .ref (gA g 41 0 0)), (1, .int p1)]) C dX9_loose_25 rfl (by decide) (fun _ => rfl) (fun v5 => ?_)
    refine r_aload_n C 1 dX9_loose_26 rfl rfl ?_
    refine gf_41_1 C dX9_loose_27 u_365 in_41 ?_
    refine gf_0_10 C dX9_loose_30 u_222 (in_0 (by decide)) ?_
    refine r_iload_n C 2 dX9_loose_33 rfl rfl ?_
    refine r_aald (t0 := 5) (ty := .array .int) C dX9_loose_34 (in_3 (by decide)) (contW_3 g _ _ _ _ _) rfl rfl (fun h6 => ?_)
    refine r_iconst (v := 3) C dX9_loose_35 (by decide) ?_
    refine r_ialdc C dX9_loose_36 (in_4 (by decide) (inb_lt h6)) (contW_4 g _ _ _ _ _) (by decide) (j := 3) (by decide) ?_
    refine r_istore_n (lv' := fun v7 => [(3, .int v7), (2, .int v5), (0, .ref (gA g 41 0 0)), (1, .int p1)]) C dX9_loose_37 rfl (by decide) (fun _ => rfl) (fun v7 => ?_)
    refine r_iload_n C 0 dX9_loose_38 rfl rfl ?_
    refine r_iconst (v := 1) C dX9_loose_39 (by decide) ?_
    refine r_isub C dX9_loose_40 ?_
    refine r_bipush (v := 99) C dX9_loose_41 (by decide) ?_
    refine r_mmin C u_1033 u_539 u_140 u_540 dX9_loose_43 (by decide) (Nat.le_of_ble_eq_true rfl) (xk1 hm (by decide)) (xn1 hm (by decide)) ?_
    refine r_istore (lv' := fun v8 => [(4, .int v8), (3, .int v7), (2, .int v5), (0, .ref (gA g 41 0 0)), (1, .int p1)]) C dX9_loose_46 (by decide) (fun _ => rfl) (fun v8 => ?_)
    refine r_lv [3, 4, 2, 1, 0] rfl ?_
    exact tl_X9_loose_48 C hm p1 v5 v7 FU v8 M
def B_X4_copyFrom_10 (b : Nat) (b1 : Nat) (k10 : Int32 → Mw → Option (Mw)) (l2 : Int32) (M : Mw) : Option (Mw) :=
  (if (M.1 26 b 0 1) ≤ l2 then some M else (if inb l2 128 then (if inb l2 128 then (bd (rIw M 28 b l2.toNatClampNeg (va_cpy (M.1 28 b1 l2.toNatClampNeg) (M.1 28 b l2.toNatClampNeg) 0 0 4)) (fun M5 => (bd (l2 + 1) (fun v6 => (k10 v6 M5))))) else none) else none))
def F_X4_copyFrom (b : Nat) (b1 : Nat) (M : Mw) : Option (Mw) :=
  (bd (uIw M 26 b 0 1 (M.1 26 b1 0 1)) (fun M1 => (it (fun _ _ => none) (B_X4_copyFrom_10 b b1) FU 0 M1)))
set_option maxRecDepth 100000 in
set_option maxHeartbeats 4000000 in
theorem t_X4_copyFrom_10 {g : Gw} {x : Xw} (C : Cw g x cX4_copyFrom RX4 3 none 2) (hm : x.2.2.2.2.2.2.2.2.2.2.2 = (0, 0)) {b : Nat} (hb : b < 3) {b1 : Nat} (hb1 : b1 < 3) (k10 : Int32 → Mw → Option (Mw)) (hk10 : ∀ (l2 : Int32) (M : Mw), Sw g x (fun M : Mw => (none, M)) M 0 0 10 [(0, .ref (gA g 26 b 0)), (1, .ref (gA g 26 b1 0)), (2, .int l2)] [] (k10 l2 M)) (l2 : Int32) (M : Mw) : Sw g x (fun M : Mw => (none, M)) M 0 0 10 [(0, .ref (gA g 26 b 0)), (1, .ref (gA g 26 b1 0)), (2, .int l2)] [] (B_X4_copyFrom_10 b b1 k10 l2 M) := by
  unfold B_X4_copyFrom_10
  refine r_iload_n C 2 dX4_copyFrom_10 rfl rfl ?_
  refine r_aload_n C 0 dX4_copyFrom_11 rfl rfl ?_
  refine gf_26_1 C dX4_copyFrom_12 u_283 (in_26 hb) ?_
  refine r_icmp_ge (tgt := 42) C dX4_copyFrom_15 (by decide) (fun h2 => ?_) (fun h2 => ?_)
  · exact r_vret C dX4_copyFrom_42 rfl rfl (xk0 hm) (xn0 hm)
  · refine r_aload_n C 1 dX4_copyFrom_18 rfl rfl ?_
    refine gf_26_0 C dX4_copyFrom_19 u_281 (in_26 hb1) ?_
    refine r_iload_n C 2 dX4_copyFrom_22 rfl rfl ?_
    refine r_aald (t0 := 5) (ty := .array .int) C dX4_copyFrom_23 (in_27 hb1) (contW_27 g _ _ _ _ _) rfl rfl (fun h3 => ?_)
    refine r_iconst (v := 0) C dX4_copyFrom_24 (by decide) ?_
    refine r_aload_n C 0 dX4_copyFrom_25 rfl rfl ?_
    refine gf_26_0 C dX4_copyFrom_26 u_281 (in_26 hb) ?_
    refine r_iload_n C 2 dX4_copyFrom_29 rfl rfl ?_
    refine r_aald (t0 := 5) (ty := .array .int) C dX4_copyFrom_30 (in_27 hb) (contW_27 g _ _ _ _ _) rfl rfl (fun h4 => ?_)
    refine r_iconst (v := 0) C dX4_copyFrom_31 (by decide) ?_
    refine r_iconst (v := 4) C dX4_copyFrom_32 (by decide) ?_
    refine r_copy (L := 4) C u_1053 u_550 u_549 u_141 dX4_copyFrom_33 (in_28 hb1 (inb_lt h3)) (in_28 hb (inb_lt h4)) (contW_28 g _ _) (contW_28 g _ _) (by decide) (by decide) (by decide) (by decide) (by decide) (Nat.le_of_ble_eq_true rfl) (fun M5 => ?_)
    refine r_iinc (c := 1) (lv' := fun v6 => [(2, .int v6), (0, .ref (gA g 26 b 0)), (1, .ref (gA g 26 b1 0))]) C 2 dX4_copyFrom_36 rfl (by decide) (by decide) (fun _ => rfl) (fun v6 => ?_)
    refine r_goto (tgt := 10) C dX4_copyFrom_39 (by decide) ?_
    refine r_lv [1, 2, 0] rfl ?_
    exact hk10 v6 M5
set_option maxRecDepth 100000 in
set_option maxHeartbeats 4000000 in
theorem tl_X4_copyFrom_10 {g : Gw} {x : Xw} (C : Cw g x cX4_copyFrom RX4 3 none 2) (hm : x.2.2.2.2.2.2.2.2.2.2.2 = (0, 0)) {b : Nat} (hb : b < 3) {b1 : Nat} (hb1 : b1 < 3) (n : Nat) : ∀ (l2 : Int32) (M : Mw), Sw g x (fun M : Mw => (none, M)) M 0 0 10 [(0, .ref (gA g 26 b 0)), (1, .ref (gA g 26 b1 0)), (2, .int l2)] [] (it (fun _ _ => none) (B_X4_copyFrom_10 b b1) n l2 M) := by
  induction n with
  | zero =>
    intro l2 M
    exact r_none
  | succ n ih =>
    intro l2 M
    exact t_X4_copyFrom_10 C hm hb hb1 _ ih l2 M
set_option maxRecDepth 100000 in
set_option maxHeartbeats 4000000 in
theorem c_X4_copyFrom {g : Gw} {l : Launch} {b : Nat} (hb : b < 3) {b1 : Nat} (hb1 : b1 < 3) (M : Mw) : Kw g l yX4_copyFrom cX4_copyFrom 3 none 2 0 0 [.ref (gA g 26 b 0), .ref (gA g 26 b1 0)] M (fun M : Mw => (none, M)) (F_X4_copyFrom b b1 M) := by
  refine Kw.of (own := RX4) (lv0 := [(0, .ref (gA g 26 b 0)), (1, .ref (gA g 26 b1 0))]) (by decide +kernel) rfl (Nat.le_of_ble_eq_true rfl) rfl (fun x C hl hm => ?_)
  subst hl
  unfold F_X4_copyFrom
  refine r_aload_n C 0 dX4_copyFrom_0 rfl rfl ?_
  refine r_aload_n C 1 dX4_copyFrom_1 rfl rfl ?_
  refine gf_26_1 C dX4_copyFrom_2 u_283 (in_26 hb1) ?_
  refine pf_26_1 C dX4_copyFrom_5 u_283 (in_26 hb) (fun M1 => ?_)
  refine r_iconst (v := 0) C dX4_copyFrom_8 (by decide) ?_
  refine r_istore_n0 (lv' := [(2, .int 0), (0, .ref (gA g 26 b 0)), (1, .ref (gA g 26 b1 0))]) C dX4_copyFrom_9 rfl (by decide) rfl ?_
  refine r_lv [1, 2, 0] rfl ?_
  exact tl_X4_copyFrom_10 C hm hb hb1 FU 0 M1
def F_X7_copyFrom (b : Nat) (i : Nat) (b1 : Nat) (i1 : Nat) (M : Mw) : Option (Mw) :=
  (bd (uIw M 25 b i 0 (M.1 25 b1 i1 0)) (fun M1 => (bd (uIw M1 25 b i 1 (M1.1 25 b1 i1 1)) (fun M2 => (bd (uIw M2 25 b i 2 (M2.1 25 b1 i1 2)) (fun M3 => (bd (uIw M3 25 b i 3 (M3.1 25 b1 i1 3)) (fun M4 => (bd (uIw M4 25 b i 4 (M4.1 25 b1 i1 4)) (fun M5 => (bd (uIw M5 25 b i 5 (M5.1 25 b1 i1 5)) (fun M6 => (bd (uIw M6 25 b i 6 (M6.1 25 b1 i1 6)) (fun M7 => (bd (uIw M7 25 b i 7 (M7.1 25 b1 i1 7)) (fun M8 => (bd (uIw M8 25 b i 8 (M8.1 25 b1 i1 8)) (fun M9 => (if bz (M9.1 25 b1 i1 9) then (bd (uIw M9 25 b i 9 (M9.1 25 b1 i1 9)) (fun M10 => (bd (uIw M10 25 b i 10 (M10.1 25 b1 i1 10)) (fun M11 => (bd (uFw M11 25 b i 11 (M11.2.1 25 b1 i1 11)) (fun M12 => (bd (uIw M12 25 b i 12 (M12.1 25 b1 i1 12)) (fun M13 => (bd (uIw M13 25 b i 13 (M13.1 25 b1 i1 13)) (fun M14 => (bd (uIw M14 25 b i 14 (M14.1 25 b1 i1 14)) (fun M15 => (bd (uFw M15 25 b i 15 (M15.2.1 25 b1 i1 15)) (fun M16 => (bd (uDw M16 25 b i 16 (M16.2.2 25 b1 i1 16)) (fun M17 => some M17)))))))))))))))) else none)))))))))))))))))))
set_option maxRecDepth 100000 in
set_option maxHeartbeats 4000000 in
theorem c_X7_copyFrom {g : Gw} {l : Launch} {b : Nat} (hb : b < 3) {i : Nat} (hi : i < 5) {b1 : Nat} (hb1 : b1 < 3) {i1 : Nat} (hi1 : i1 < 5) (M : Mw) : Kw g l yX7_copyFrom cX7_copyFrom 2 none 1 0 0 [.ref (gA g 25 b i), .ref (gA g 25 b1 i1)] M (fun M : Mw => (none, M)) (F_X7_copyFrom b i b1 i1 M) := by
  refine Kw.of (own := RX7) (lv0 := [(0, .ref (gA g 25 b i)), (1, .ref (gA g 25 b1 i1))]) (by decide +kernel) rfl (Nat.le_of_ble_eq_true rfl) rfl (fun x C hl hm => ?_)
  subst hl
  unfold F_X7_copyFrom
  refine r_aload_n C 0 dX7_copyFrom_0 rfl rfl ?_
  refine r_aload_n C 1 dX7_copyFrom_1 rfl rfl ?_
  refine gf_25_0 C dX7_copyFrom_2 u_291 (in_25 hb1 hi1) ?_
  refine pf_25_0 C dX7_copyFrom_5 u_291 (in_25 hb hi) (fun M1 => ?_)
  refine r_aload_n C 0 dX7_copyFrom_8 rfl rfl ?_
  refine r_aload_n C 1 dX7_copyFrom_9 rfl rfl ?_
  refine gf_25_1 C dX7_copyFrom_10 u_294 (in_25 hb1 hi1) ?_
  refine pf_25_1 C dX7_copyFrom_13 u_294 (in_25 hb hi) (fun M2 => ?_)
  refine r_aload_n C 0 dX7_copyFrom_16 rfl rfl ?_
  refine r_aload_n C 1 dX7_copyFrom_17 rfl rfl ?_
  refine gf_25_2 C dX7_copyFrom_18 u_297 (in_25 hb1 hi1) ?_
  refine pf_25_2 C dX7_copyFrom_21 u_297 (in_25 hb hi) (fun M3 => ?_)
  refine r_aload_n C 0 dX7_copyFrom_24 rfl rfl ?_
  refine r_aload_n C 1 dX7_copyFrom_25 rfl rfl ?_
  refine gf_25_3 C dX7_copyFrom_26 u_300 (in_25 hb1 hi1) ?_
  refine pf_25_3 C dX7_copyFrom_29 u_300 (in_25 hb hi) (fun M4 => ?_)
  refine r_aload_n C 0 dX7_copyFrom_32 rfl rfl ?_
  refine r_aload_n C 1 dX7_copyFrom_33 rfl rfl ?_
  refine gf_25_4 C dX7_copyFrom_34 u_302 (in_25 hb1 hi1) ?_
  refine pf_25_4 C dX7_copyFrom_37 u_302 (in_25 hb hi) (fun M5 => ?_)
  refine r_aload_n C 0 dX7_copyFrom_40 rfl rfl ?_
  refine r_aload_n C 1 dX7_copyFrom_41 rfl rfl ?_
  refine gf_25_5 C dX7_copyFrom_42 u_304 (in_25 hb1 hi1) ?_
  refine pf_25_5 C dX7_copyFrom_45 u_304 (in_25 hb hi) (fun M6 => ?_)
  refine r_aload_n C 0 dX7_copyFrom_48 rfl rfl ?_
  refine r_aload_n C 1 dX7_copyFrom_49 rfl rfl ?_
  refine gf_25_6 C dX7_copyFrom_50 u_306 (in_25 hb1 hi1) ?_
  refine pf_25_6 C dX7_copyFrom_53 u_306 (in_25 hb hi) (fun M7 => ?_)
  refine r_aload_n C 0 dX7_copyFrom_56 rfl rfl ?_
  refine r_aload_n C 1 dX7_copyFrom_57 rfl rfl ?_
  refine gf_25_7 C dX7_copyFrom_58 u_308 (in_25 hb1 hi1) ?_
  refine pf_25_7 C dX7_copyFrom_61 u_308 (in_25 hb hi) (fun M8 => ?_)
  refine r_aload_n C 0 dX7_copyFrom_64 rfl rfl ?_
  refine r_aload_n C 1 dX7_copyFrom_65 rfl rfl ?_
  refine gf_25_8 C dX7_copyFrom_66 u_311 (in_25 hb1 hi1) ?_
  refine pf_25_8 C dX7_copyFrom_69 u_311 (in_25 hb hi) (fun M9 => ?_)
  refine r_aload_n C 0 dX7_copyFrom_72 rfl rfl ?_
  refine r_aload_n C 1 dX7_copyFrom_73 rfl rfl ?_
  refine gf_25_9 C dX7_copyFrom_74 u_312 (in_25 hb1 hi1) ?_
  refine pz_25_9 C dX7_copyFrom_77 u_312 (in_25 hb hi) (fun M10 => ?_)
  refine r_aload_n C 0 dX7_copyFrom_80 rfl rfl ?_
  refine r_aload_n C 1 dX7_copyFrom_81 rfl rfl ?_
  refine gf_25_10 C dX7_copyFrom_82 u_313 (in_25 hb1 hi1) ?_
  refine pf_25_10 C dX7_copyFrom_85 u_313 (in_25 hb hi) (fun M11 => ?_)
  refine r_aload_n C 0 dX7_copyFrom_88 rfl rfl ?_
  refine r_aload_n C 1 dX7_copyFrom_89 rfl rfl ?_
  refine gf_25_11 C dX7_copyFrom_90 u_315 (in_25 hb1 hi1) ?_
  refine pf_25_11 C dX7_copyFrom_93 u_315 (in_25 hb hi) (fun M12 => ?_)
  refine r_aload_n C 0 dX7_copyFrom_96 rfl rfl ?_
  refine r_aload_n C 1 dX7_copyFrom_97 rfl rfl ?_
  refine gf_25_12 C dX7_copyFrom_98 u_318 (in_25 hb1 hi1) ?_
  refine pf_25_12 C dX7_copyFrom_101 u_318 (in_25 hb hi) (fun M13 => ?_)
  refine r_aload_n C 0 dX7_copyFrom_104 rfl rfl ?_
  refine r_aload_n C 1 dX7_copyFrom_105 rfl rfl ?_
  refine gf_25_13 C dX7_copyFrom_106 u_320 (in_25 hb1 hi1) ?_
  refine pf_25_13 C dX7_copyFrom_109 u_320 (in_25 hb hi) (fun M14 => ?_)
  refine r_aload_n C 0 dX7_copyFrom_112 rfl rfl ?_
  refine r_aload_n C 1 dX7_copyFrom_113 rfl rfl ?_
  refine gf_25_14 C dX7_copyFrom_114 u_322 (in_25 hb1 hi1) ?_
  refine pf_25_14 C dX7_copyFrom_117 u_322 (in_25 hb hi) (fun M15 => ?_)
  refine r_aload_n C 0 dX7_copyFrom_120 rfl rfl ?_
  refine r_aload_n C 1 dX7_copyFrom_121 rfl rfl ?_
  refine gf_25_15 C dX7_copyFrom_122 u_324 (in_25 hb1 hi1) ?_
  refine pf_25_15 C dX7_copyFrom_125 u_324 (in_25 hb hi) (fun M16 => ?_)
  refine r_aload_n C 0 dX7_copyFrom_128 rfl rfl ?_
  refine r_aload_n C 1 dX7_copyFrom_129 rfl rfl ?_
  refine gf_25_16 C dX7_copyFrom_130 u_326 (in_25 hb1 hi1) ?_
  refine pf_25_16 C dX7_copyFrom_133 u_326 (in_25 hb hi) (fun M17 => ?_)
  exact r_vret C dX7_copyFrom_136 rfl rfl (xk0 hm) (xn0 hm)
def B_X5_resume_86 (b : Nat) (b1 : Nat) (k86 : Int32 → Mw → Option (Mw)) (l2 : Int32) (M : Mw) : Option (Mw) :=
  (if 3 ≤ l2 then some M else (if inb l2 3 then (if inb l2 3 then (bd (uIw M 33 b 0 l2.toNatClampNeg (M.1 33 b1 0 l2.toNatClampNeg)) (fun M12 => (if inb l2 3 then (if inb l2 3 then (bd (uIw M12 34 b 0 l2.toNatClampNeg (vp_nar .boolean (M12.1 34 b1 0 l2.toNatClampNeg))) (fun M15 => (bd (l2 + 1) (fun v17 => (k86 v17 M15))))) else none) else none))) else none) else none))
def B_X5_resume_58 (b : Nat) (b1 : Nat) (k58 : Int32 → Mw → Option (Mw)) (l2 : Int32) (M : Mw) : Option (Mw) :=
  (if 5 ≤ l2 then (it (fun _ _ => none) (B_X5_resume_86 b b1) FU 0 M) else (if inb l2 5 then (if inb l2 5 then ((F_X7_copyFrom b l2.toNatClampNeg b1 l2.toNatClampNeg M).bind (fun M20 => (bd (l2 + 1) (fun v22 => (k58 v22 M20))))) else none) else none))
def F_X5_resume (b : Nat) (b1 : Nat) (M : Mw) : Option (Mw) :=
  (bd (uIw M 23 b 0 6 (M.1 23 b1 0 6)) (fun M1 => (bd (uIw M1 23 b 0 3 (M1.1 23 b1 0 3)) (fun M2 => (bd (uIw M2 23 b 0 4 (M2.1 23 b1 0 4)) (fun M3 => (bd (uIw M3 23 b 0 5 (M3.1 23 b1 0 5)) (fun M4 => (bd (uIw M4 23 b 0 7 (M4.1 23 b1 0 7)) (fun M5 => (bd (uIw M5 23 b 0 12 0) (fun M6 => ((F_X4_copyFrom b b1 M6).bind (fun M7 => (it (fun _ _ => none) (B_X5_resume_58 b b1) FU 0 M7)))))))))))))))
set_option maxRecDepth 100000 in
set_option maxHeartbeats 4000000 in
theorem t_X5_resume_86 {g : Gw} {x : Xw} (C : Cw g x cX5_resume RX5 3 none 3) (hm : x.2.2.2.2.2.2.2.2.2.2.2 = (0, 0)) {b : Nat} (hb : b < 3) {b1 : Nat} (hb1 : b1 < 3) (k86 : Int32 → Mw → Option (Mw)) (hk86 : ∀ (l2 : Int32) (M : Mw), Sw g x (fun M : Mw => (none, M)) M 0 0 86 [(0, .ref (gA g 23 b 0)), (1, .ref (gA g 23 b1 0)), (2, .int l2)] [] (k86 l2 M)) (l2 : Int32) (M : Mw) : Sw g x (fun M : Mw => (none, M)) M 0 0 86 [(0, .ref (gA g 23 b 0)), (1, .ref (gA g 23 b1 0)), (2, .int l2)] [] (B_X5_resume_86 b b1 k86 l2 M) := by
  unfold B_X5_resume_86
  refine r_iload_n C 2 dX5_resume_86 rfl rfl ?_
  refine r_iconst (v := 3) C dX5_resume_87 (by decide) ?_
  refine r_icmp_ge (tgt := 121) C dX5_resume_88 (by decide) (fun h10 => ?_) (fun h10 => ?_)
  · exact r_vret C dX5_resume_121 rfl rfl (xk0 hm) (xn0 hm)
  · refine r_aload_n C 0 dX5_resume_91 rfl rfl ?_
    refine gf_23_13 C dX5_resume_92 u_348 (in_23 hb) ?_
    refine r_iload_n C 2 dX5_resume_95 rfl rfl ?_
    refine r_aload_n C 1 dX5_resume_96 rfl rfl ?_
    refine gf_23_13 C dX5_resume_97 u_348 (in_23 hb1) ?_
    refine r_iload_n C 2 dX5_resume_100 rfl rfl ?_
    refine r_iald C dX5_resume_101 (in_33 hb1) (contW_33 g _ _ _ _ _) (fun h11 => ?_)
    refine r_iast C dX5_resume_102 (in_33 hb) (contW_33 g _ _) (fun M12 h13 => ?_)
    refine r_aload_n C 0 dX5_resume_103 rfl rfl ?_
    refine gf_23_14 C dX5_resume_104 u_349 (in_23 hb) ?_
    refine r_iload_n C 2 dX5_resume_107 rfl rfl ?_
    refine r_aload_n C 1 dX5_resume_108 rfl rfl ?_
    refine gf_23_14 C dX5_resume_109 u_349 (in_23 hb1) ?_
    refine r_iload_n C 2 dX5_resume_112 rfl rfl ?_
    refine r_zald C dX5_resume_113 (in_34 hb1) (contW_34 g _ _ _ _ _) (fun h14 => ?_)
    refine r_zast C dX5_resume_114 (in_34 hb) (contW_34 g _ _) (fun M15 h16 => ?_)
    refine r_iinc (c := 1) (lv' := fun v17 => [(2, .int v17), (0, .ref (gA g 23 b 0)), (1, .ref (gA g 23 b1 0))]) C 2 dX5_resume_115 rfl (by decide) (by decide) (fun _ => rfl) (fun v17 => ?_)
    refine r_goto (tgt := 86) C dX5_resume_118 (by decide) ?_
    refine r_lv [1, 2, 0] rfl ?_
    exact hk86 v17 M15
set_option maxRecDepth 100000 in
set_option maxHeartbeats 4000000 in
theorem tl_X5_resume_86 {g : Gw} {x : Xw} (C : Cw g x cX5_resume RX5 3 none 3) (hm : x.2.2.2.2.2.2.2.2.2.2.2 = (0, 0)) {b : Nat} (hb : b < 3) {b1 : Nat} (hb1 : b1 < 3) (n : Nat) : ∀ (l2 : Int32) (M : Mw), Sw g x (fun M : Mw => (none, M)) M 0 0 86 [(0, .ref (gA g 23 b 0)), (1, .ref (gA g 23 b1 0)), (2, .int l2)] [] (it (fun _ _ => none) (B_X5_resume_86 b b1) n l2 M) := by
  induction n with
  | zero =>
    intro l2 M
    exact r_none
  | succ n ih =>
    intro l2 M
    exact t_X5_resume_86 C hm hb hb1 _ ih l2 M
set_option maxRecDepth 100000 in
set_option maxHeartbeats 4000000 in
theorem t_X5_resume_58 {g : Gw} {x : Xw} (C : Cw g x cX5_resume RX5 3 none 3) (hm : x.2.2.2.2.2.2.2.2.2.2.2 = (0, 0)) {b : Nat} (hb : b < 3) {b1 : Nat} (hb1 : b1 < 3) (k58 : Int32 → Mw → Option (Mw)) (hk58 : ∀ (l2 : Int32) (M : Mw), Sw g x (fun M : Mw => (none, M)) M 0 0 58 [(0, .ref (gA g 23 b 0)), (1, .ref (gA g 23 b1 0)), (2, .int l2)] [] (k58 l2 M)) (l2 : Int32) (M : Mw) : Sw g x (fun M : Mw => (none, M)) M 0 0 58 [(0, .ref (gA g 23 b 0)), (1, .ref (gA g 23 b1 0)), (2, .int l2)] [] (B_X5_resume_58 b b1 k58 l2 M) := by
  unfold B_X5_resume_58
  refine r_iload_n C 2 dX5_resume_58 rfl rfl ?_
  refine r_iconst (v := 5) C dX5_resume_59 (by decide) ?_
  refine r_icmp_ge (tgt := 84) C dX5_resume_60 (by decide) (fun h9 => ?_) (fun h9 => ?_)
  · refine r_iconst (v := 0) C dX5_resume_84 (by decide) ?_
    refine r_istore_n0 (lv' := [(2, .int 0), (0, .ref (gA g 23 b 0)), (1, .ref (gA g 23 b1 0))]) C dX5_resume_85 rfl (by decide) rfl ?_
    refine r_lv [1, 2, 0] rfl ?_
    exact tl_X5_resume_86 C hm hb hb1 FU 0 M
  · refine r_aload_n C 0 dX5_resume_63 rfl rfl ?_
    refine gf_23_1 C dX5_resume_64 u_331 (in_23 hb) ?_
    refine r_iload_n C 2 dX5_resume_67 rfl rfl ?_
    refine r_aald (t0 := 7) (ty := .object "WatchStack$TaskState") C dX5_resume_68 (in_24 hb) (contW_24 g _ _ _ _ _) rfl rfl (fun h18 => ?_)
    refine r_aload_n C 1 dX5_resume_69 rfl rfl ?_
    refine gf_23_1 C dX5_resume_70 u_331 (in_23 hb1) ?_
    refine r_iload_n C 2 dX5_resume_73 rfl rfl ?_
    refine r_aald (t0 := 7) (ty := .object "WatchStack$TaskState") C dX5_resume_74 (in_24 hb1) (contW_24 g _ _ _ _ _) rfl rfl (fun h19 => ?_)
    refine r_callVU (rest := []) C (c_X7_copyFrom hb (inb_lt h18) hb1 (inb_lt h19) M) dX5_resume_75 u_1054 (in_25 hb (inb_lt h18)) (contW_25 g _ _ _ _ _) rfl u_1055 u_1056 mi_X7_copyFrom (by decide) rfl rfl (Nat.le_of_ble_eq_true rfl) (xk1 hm (by decide)) (xn1 hm (by decide)) (fun M20 h21 => ?_)
    refine r_iinc (c := 1) (lv' := fun v22 => [(2, .int v22), (0, .ref (gA g 23 b 0)), (1, .ref (gA g 23 b1 0))]) C 2 dX5_resume_78 rfl (by decide) (by decide) (fun _ => rfl) (fun v22 => ?_)
    refine r_goto (tgt := 58) C dX5_resume_81 (by decide) ?_
    refine r_lv [1, 2, 0] rfl ?_
    exact hk58 v22 M20
set_option maxRecDepth 100000 in
set_option maxHeartbeats 4000000 in
theorem tl_X5_resume_58 {g : Gw} {x : Xw} (C : Cw g x cX5_resume RX5 3 none 3) (hm : x.2.2.2.2.2.2.2.2.2.2.2 = (0, 0)) {b : Nat} (hb : b < 3) {b1 : Nat} (hb1 : b1 < 3) (n : Nat) : ∀ (l2 : Int32) (M : Mw), Sw g x (fun M : Mw => (none, M)) M 0 0 58 [(0, .ref (gA g 23 b 0)), (1, .ref (gA g 23 b1 0)), (2, .int l2)] [] (it (fun _ _ => none) (B_X5_resume_58 b b1) n l2 M) := by
  induction n with
  | zero =>
    intro l2 M
    exact r_none
  | succ n ih =>
    intro l2 M
    exact t_X5_resume_58 C hm hb hb1 _ ih l2 M
set_option maxRecDepth 100000 in
set_option maxHeartbeats 4000000 in
theorem c_X5_resume {g : Gw} {l : Launch} {b : Nat} (hb : b < 3) {b1 : Nat} (hb1 : b1 < 3) (M : Mw) : Kw g l yX5_resume cX5_resume 3 none 3 0 0 [.ref (gA g 23 b 0), .ref (gA g 23 b1 0)] M (fun M : Mw => (none, M)) (F_X5_resume b b1 M) := by
  refine Kw.of (own := RX5) (lv0 := [(0, .ref (gA g 23 b 0)), (1, .ref (gA g 23 b1 0))]) (by decide +kernel) rfl (Nat.le_of_ble_eq_true rfl) rfl (fun x C hl hm => ?_)
  subst hl
  unfold F_X5_resume
  refine r_aload_n C 0 dX5_resume_0 rfl rfl ?_
  refine r_aload_n C 1 dX5_resume_1 rfl rfl ?_
  refine gf_23_6 C dX5_resume_2 u_341 (in_23 hb1) ?_
  refine pf_23_6 C dX5_resume_5 u_341 (in_23 hb) (fun M1 => ?_)
  refine r_aload_n C 0 dX5_resume_8 rfl rfl ?_
  refine r_aload_n C 1 dX5_resume_9 rfl rfl ?_
  refine gf_23_3 C dX5_resume_10 u_335 (in_23 hb1) ?_
  refine pf_23_3 C dX5_resume_13 u_335 (in_23 hb) (fun M2 => ?_)
  refine r_aload_n C 0 dX5_resume_16 rfl rfl ?_
  refine r_aload_n C 1 dX5_resume_17 rfl rfl ?_
  refine gf_23_4 C dX5_resume_18 u_337 (in_23 hb1) ?_
  refine pf_23_4 C dX5_resume_21 u_337 (in_23 hb) (fun M3 => ?_)
  refine r_aload_n C 0 dX5_resume_24 rfl rfl ?_
  refine r_aload_n C 1 dX5_resume_25 rfl rfl ?_
  refine gf_23_5 C dX5_resume_26 u_339 (in_23 hb1) ?_
  refine pf_23_5 C dX5_resume_29 u_339 (in_23 hb) (fun M4 => ?_)
  refine r_aload_n C 0 dX5_resume_32 rfl rfl ?_
  refine r_aload_n C 1 dX5_resume_33 rfl rfl ?_
  refine gf_23_7 C dX5_resume_34 u_342 (in_23 hb1) ?_
  refine pf_23_7 C dX5_resume_37 u_342 (in_23 hb) (fun M5 => ?_)
  refine r_aload_n C 0 dX5_resume_40 rfl rfl ?_
  refine r_iconst (v := 0) C dX5_resume_41 (by decide) ?_
  refine pf_23_12 C dX5_resume_42 u_347 (in_23 hb) (fun M6 => ?_)
  refine r_aload_n C 0 dX5_resume_45 rfl rfl ?_
  refine gf_23_2 C dX5_resume_46 u_333 (in_23 hb) ?_
  refine r_aload_n C 1 dX5_resume_49 rfl rfl ?_
  refine gf_23_2 C dX5_resume_50 u_333 (in_23 hb1) ?_
  refine r_callVU (rest := []) C (c_X4_copyFrom hb hb1 M6) dX5_resume_53 u_1049 (in_26 hb) (contW_26 g _ _ _ _ _) rfl u_1050 u_1051 mi_X4_copyFrom (by decide) rfl rfl (Nat.le_of_ble_eq_true rfl) (xk1 hm (by decide)) (xn1 hm (by decide)) (fun M7 h8 => ?_)
  refine r_iconst (v := 0) C dX5_resume_56 (by decide) ?_
  refine r_istore_n0 (lv' := [(2, .int 0), (0, .ref (gA g 23 b 0)), (1, .ref (gA g 23 b1 0))]) C dX5_resume_57 rfl (by decide) rfl ?_
  refine r_lv [1, 2, 0] rfl ?_
  exact tl_X5_resume_58 C hm hb hb1 FU 0 M7
def B_X5_delayOfNext_5 (b : Nat) (l1 : Int32) (l2 : Int32) (k5 : Int32 → Mw → Option (Int32 × Mw)) (l3 : Int32) (M : Mw) : Option (Int32 × Mw) :=
  (if (M.1 0 (b + 5) 0 0) ≤ l3 then some ((-1), M) else (if (M.1 23 b 0 5) = (-1) then ((F_X5_step b M).bind (fun M4 => ((F_X4_delayFrom b l2 0 l1 M4).bind (fun v6 => (if v6 = (-1) then (bd (l3 + 1) (fun v9 => (k5 v9 M4))) else some (v6, M4)))))) else some ((-1), M)))
def F_X5_delayOfNext (b : Nat) (p1 : Int32) (p2 : Int32) (M : Mw) : Option (Int32 × Mw) :=
  (bd (M.1 23 b 0 6) (fun v1 => (it (fun _ _ => none) (B_X5_delayOfNext_5 b p1 p2) FU v1 M)))
set_option maxRecDepth 100000 in
set_option maxHeartbeats 4000000 in
theorem t_X5_delayOfNext_5 {g : Gw} {x : Xw} (C : Cw g x cX5_delayOfNext RX5 5 (some .int) 6) (hm : x.2.2.2.2.2.2.2.2.2.2.2 = (0, 0)) {b : Nat} (hb : b < 3) (l1 : Int32) (l2 : Int32) (k5 : Int32 → Mw → Option (Int32 × Mw)) (hk5 : ∀ (l3 : Int32) (M : Mw), Sw g x (fun q : Int32 × Mw => (some (.int q.1), q.2)) M 0 0 5 [(0, .ref (gA g 23 b 0)), (1, .int l1), (2, .int l2), (3, .int l3)] [] (k5 l3 M)) (l3 : Int32) (M : Mw) : Sw g x (fun q : Int32 × Mw => (some (.int q.1), q.2)) M 0 0 5 [(0, .ref (gA g 23 b 0)), (1, .int l1), (2, .int l2), (3, .int l3)] [] (B_X5_delayOfNext_5 b l1 l2 k5 l3 M) := by
  unfold B_X5_delayOfNext_5
  refine r_iload_n C 3 dX5_delayOfNext_5 rfl rfl ?_
  refine r_aload_n C 0 dX5_delayOfNext_6 rfl rfl ?_
  refine gf_23_0 C dX5_delayOfNext_7 u_328 (in_23 hb) ?_
  refine gf_0_0 C dX5_delayOfNext_10 u_181 (in_0 (lt85 hb)) ?_
  refine r_icmp_ge (tgt := 55) C dX5_delayOfNext_13 (by decide) (fun h2 => ?_) (fun h2 => ?_)
  · refine r_iconst (v := (-1)) C dX5_delayOfNext_55 (by decide) ?_
    exact r_iret C dX5_delayOfNext_56 rfl rfl (xk0 hm) (xn0 hm)
  · refine r_aload_n C 0 dX5_delayOfNext_16 rfl rfl ?_
    refine gf_23_5 C dX5_delayOfNext_17 u_339 (in_23 hb) ?_
    refine r_iconst (v := (-1)) C dX5_delayOfNext_20 (by decide) ?_
    refine r_icmp_ne (tgt := 55) C dX5_delayOfNext_21 (by decide) (fun h3 => ?_) (fun h3 => ?_)
    · refine r_aload_n C 0 dX5_delayOfNext_24 rfl rfl ?_
      refine r_callVU (rest := []) C (c_X5_step hb M) dX5_delayOfNext_25 u_575 (in_23 hb) (contW_23 g _ _ _ _ _) rfl u_576 u_19 mi_X5_step (by decide) rfl rfl (Nat.le_of_ble_eq_true rfl) (xk1 hm (by decide)) (xn1 hm (by decide)) (fun M4 h5 => ?_)
      refine r_aload_n C 0 dX5_delayOfNext_28 rfl rfl ?_
      refine gf_23_2 C dX5_delayOfNext_29 u_333 (in_23 hb) ?_
      refine r_iload_n C 2 dX5_delayOfNext_32 rfl rfl ?_
      refine r_iconst (v := 0) C dX5_delayOfNext_33 (by decide) ?_
      refine r_iload_n C 1 dX5_delayOfNext_34 rfl rfl ?_
      refine r_callVRi (rest := []) C (c_X4_delayFrom hb l2 0 l1 M4) dX5_delayOfNext_35 u_992 (in_26 hb) (contW_26 g _ _ _ _ _) rfl u_993 u_994 mi_X4_delayFrom (by decide) rfl rfl (Nat.le_of_ble_eq_true rfl) (xk1 hm (by decide)) (xn1 hm (by decide)) (fun v6 h7 => ?_)
      refine r_istore0 (lv' := [(4, .int v6), (0, .ref (gA g 23 b 0)), (1, .int l1), (2, .int l2), (3, .int l3)]) C dX5_delayOfNext_38 (by decide) rfl ?_
      refine r_iload C 0 dX5_delayOfNext_40 rfl ?_
      refine r_iconst (v := (-1)) C dX5_delayOfNext_42 (by decide) ?_
      refine r_icmp_eq (tgt := 49) C dX5_delayOfNext_43 (by decide) (fun h8 => ?_) (fun h8 => ?_)
      · refine r_iinc (c := 1) (lv' := fun v9 => [(3, .int v9), (4, .int v6), (0, .ref (gA g 23 b 0)), (1, .int l1), (2, .int l2)]) C 4 dX5_delayOfNext_49 rfl (by decide) (by decide) (fun _ => rfl) (fun v9 => ?_)
        refine r_goto (tgt := 5) C dX5_delayOfNext_52 (by decide) ?_
        refine r_lv [2, 3, 4, 0] rfl ?_
        exact hk5 v9 M4
      · refine r_iload C 0 dX5_delayOfNext_46 rfl ?_
        exact r_iret C dX5_delayOfNext_48 rfl rfl (xk0 hm) (xn0 hm)
    · refine r_iconst (v := (-1)) C dX5_delayOfNext_55 (by decide) ?_
      exact r_iret C dX5_delayOfNext_56 rfl rfl (xk0 hm) (xn0 hm)
set_option maxRecDepth 100000 in
set_option maxHeartbeats 4000000 in
theorem tl_X5_delayOfNext_5 {g : Gw} {x : Xw} (C : Cw g x cX5_delayOfNext RX5 5 (some .int) 6) (hm : x.2.2.2.2.2.2.2.2.2.2.2 = (0, 0)) {b : Nat} (hb : b < 3) (l1 : Int32) (l2 : Int32) (n : Nat) : ∀ (l3 : Int32) (M : Mw), Sw g x (fun q : Int32 × Mw => (some (.int q.1), q.2)) M 0 0 5 [(0, .ref (gA g 23 b 0)), (1, .int l1), (2, .int l2), (3, .int l3)] [] (it (fun _ _ => none) (B_X5_delayOfNext_5 b l1 l2) n l3 M) := by
  induction n with
  | zero =>
    intro l3 M
    exact r_none
  | succ n ih =>
    intro l3 M
    exact t_X5_delayOfNext_5 C hm hb l1 l2 _ ih l3 M
set_option maxRecDepth 100000 in
set_option maxHeartbeats 4000000 in
theorem c_X5_delayOfNext {g : Gw} {l : Launch} {b : Nat} (hb : b < 3) (p1 : Int32) (p2 : Int32) (M : Mw) : Kw g l yX5_delayOfNext cX5_delayOfNext 5 (some .int) 6 0 0 [.ref (gA g 23 b 0), .int p1, .int p2] M (fun q : Int32 × Mw => (some (.int q.1), q.2)) (F_X5_delayOfNext b p1 p2 M) := by
  refine Kw.of (own := RX5) (lv0 := [(0, .ref (gA g 23 b 0)), (1, .int p1), (2, .int p2)]) (by decide +kernel) rfl (Nat.le_of_ble_eq_true rfl) rfl (fun x C hl hm => ?_)
  subst hl
  unfold F_X5_delayOfNext
  refine r_aload_n C 0 dX5_delayOfNext_0 rfl rfl ?_
  refine gf_23_6 C dX5_delayOfNext_1 u_341 (in_23 hb) ?_
  refine r_istore_n (lv' := fun v1 => [(3, .int v1), (0, .ref (gA g 23 b 0)), (1, .int p1), (2, .int p2)]) C dX5_delayOfNext_4 rfl (by decide) (fun _ => rfl) (fun v1 => ?_)
  refine r_lv [1, 2, 3, 0] rfl ?_
  exact tl_X5_delayOfNext_5 C hm hb p1 p2 FU v1 M
def B_X8_noteDelay_17 (l1 : Int32) (l2 : Int32) (l3 : Int32) (M : Mw) : Option (Mw) :=
  (if inb l1 5 then (if inb l1 5 then (if inb l2 5 then (if inb l2 5 then (bd (uIw M 38 0 l1.toNatClampNeg l2.toNatClampNeg (if (M.1 38 0 l1.toNatClampNeg l2.toNatClampNeg) < l3 then l3 else (M.1 38 0 l1.toNatClampNeg l2.toNatClampNeg))) (fun M5 => some M5)) else none) else none) else none) else none)
def F_X8_noteDelay (p1 : Int32) (p2 : Int32) (p3 : Int32) (M : Mw) : Option (Mw) :=
  (if p3 = (-1) then (if inb p1 5 then (if inb p2 5 then (if inb p2 5 then (bd (uIw M 40 0 p1.toNatClampNeg p2.toNatClampNeg ((M.1 40 0 p1.toNatClampNeg p2.toNatClampNeg) + 1)) (fun M9 => (B_X8_noteDelay_17 p1 p2 p3 M9))) else none) else none) else none) else (B_X8_noteDelay_17 p1 p2 p3 M))
set_option maxRecDepth 100000 in
set_option maxHeartbeats 4000000 in
theorem t_X8_noteDelay_17 {g : Gw} {x : Xw} (C : Cw g x cX8_noteDelay RX8 4 none 2) (hm : x.2.2.2.2.2.2.2.2.2.2.2 = (0, 0)) (l1 : Int32) (l2 : Int32) (l3 : Int32) (M : Mw) : Sw g x (fun M : Mw => (none, M)) M 0 0 17 [(0, .ref (gA g 36 0 0)), (1, .int l1), (2, .int l2), (3, .int l3)] [] (B_X8_noteDelay_17 l1 l2 l3 M) := by
  unfold B_X8_noteDelay_17
  refine r_aload_n C 0 dX8_noteDelay_17 rfl rfl ?_
  refine gf_36_0 C dX8_noteDelay_18 u_359 in_36 ?_
  refine r_iload_n C 1 dX8_noteDelay_21 rfl rfl ?_
  refine r_aald (t0 := 5) (ty := .array .int) C dX8_noteDelay_22 in_37 (contW_37 g _ _ _ _ _) rfl rfl (fun h2 => ?_)
  refine r_iload_n C 2 dX8_noteDelay_23 rfl rfl ?_
  refine r_aload_n C 0 dX8_noteDelay_24 rfl rfl ?_
  refine gf_36_0 C dX8_noteDelay_25 u_359 in_36 ?_
  refine r_iload_n C 1 dX8_noteDelay_28 rfl rfl ?_
  refine r_aald (t0 := 5) (ty := .array .int) C dX8_noteDelay_29 in_37 (contW_37 g _ _ _ _ _) rfl rfl (fun h3 => ?_)
  refine r_iload_n C 2 dX8_noteDelay_30 rfl rfl ?_
  refine r_iald C dX8_noteDelay_31 (in_38 (inb_lt h3)) (contW_38 g _ _ _ _ _) (fun h4 => ?_)
  refine r_iload_n C 3 dX8_noteDelay_32 rfl rfl ?_
  refine r_mmax C u_1065 u_542 u_140 u_543 dX8_noteDelay_33 (by decide) (Nat.le_of_ble_eq_true rfl) (xk1 hm (by decide)) (xn1 hm (by decide)) ?_
  refine r_iast C dX8_noteDelay_36 (in_38 (inb_lt h2)) (contW_38 g _ _) (fun M5 h6 => ?_)
  exact r_vret C dX8_noteDelay_37 rfl rfl (xk0 hm) (xn0 hm)
set_option maxRecDepth 100000 in
set_option maxHeartbeats 4000000 in
theorem c_X8_noteDelay {g : Gw} {l : Launch} (p1 : Int32) (p2 : Int32) (p3 : Int32) (M : Mw) : Kw g l yX8_noteDelay cX8_noteDelay 4 none 2 0 0 [.ref (gA g 36 0 0), .int p1, .int p2, .int p3] M (fun M : Mw => (none, M)) (F_X8_noteDelay p1 p2 p3 M) := by
  refine Kw.of (own := RX8) (lv0 := [(0, .ref (gA g 36 0 0)), (1, .int p1), (2, .int p2), (3, .int p3)]) (by decide +kernel) rfl (Nat.le_of_ble_eq_true rfl) rfl (fun x C hl hm => ?_)
  subst hl
  unfold F_X8_noteDelay
  refine r_iload_n C 3 dX8_noteDelay_0 rfl rfl ?_
  refine r_iconst (v := (-1)) C dX8_noteDelay_1 (by decide) ?_
  refine r_icmp_ne (tgt := 17) C dX8_noteDelay_2 (by decide) (fun h1 => ?_) (fun h1 => ?_)
  · refine r_aload_n C 0 dX8_noteDelay_5 rfl rfl ?_
    refine gf_36_1 C dX8_noteDelay_6 u_361 in_36 ?_
    refine r_iload_n C 1 dX8_noteDelay_9 rfl rfl ?_
    refine r_aald (t0 := 5) (ty := .array .int) C dX8_noteDelay_10 in_39 (contW_39 g _ _ _ _ _) rfl rfl (fun h7 => ?_)
    refine r_iload_n C 2 dX8_noteDelay_11 rfl rfl ?_
    refine r_dup2 C rfl rfl dX8_noteDelay_12 ?_
    refine r_iald C dX8_noteDelay_13 (in_40 (inb_lt h7)) (contW_40 g _ _ _ _ _) (fun h8 => ?_)
    refine r_iconst (v := 1) C dX8_noteDelay_14 (by decide) ?_
    refine r_iadd C dX8_noteDelay_15 ?_
    refine r_iast C dX8_noteDelay_16 (in_40 (inb_lt h7)) (contW_40 g _ _) (fun M9 h10 => ?_)
    exact t_X8_noteDelay_17 C hm p1 p2 p3 M9
  · exact t_X8_noteDelay_17 C hm p1 p2 p3 M
