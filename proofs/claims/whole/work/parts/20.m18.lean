def B_X10_goesWays_32 (rec : Int32 → Int32 → Int32 → Mw → Option (Mw)) (l1 : Int32) (l2 : Int32) (l4 : Int32) (k32 : Int32 → Mw → Option (Mw)) (l5 : Int32) (M : Mw) : Option (Mw) :=
  ((F_X10_nodesOf l1 M).bind (fun v7 => (if v7 ≤ l5 then some M else ((F_X10_isBehind l1 l5 l2 M).bind (fun v10 => (if v10 = 0 then (bd (l5 + 1) (fun v13 => (k32 v13 M))) else ((rec l1 l5 l4 M).bind (fun M14 => (bd (l5 + 1) (fun v16 => (k32 v16 M14)))))))))))
def B_X10_goesWays_27 (rec : Int32 → Int32 → Int32 → Mw → Option (Mw)) (l1 : Int32) (l2 : Int32) (l4 : Int32) (M : Mw) : Option (Mw) :=
  (bd (l2 + 1) (fun v6 => (it (fun _ _ => none) (B_X10_goesWays_32 rec l1 l2 l4) FU v6 M)))
def F_X10_goesWays (rec : Int32 → Int32 → Int32 → Mw → Option (Mw)) (p1 : Int32) (p2 : Int32) (p3 : Int32) (M : Mw) : Option (Mw) :=
  ((F_X10_answered p3 p2 M).bind (fun v1 => ((F_X10_followers p1 p2 M).bind (fun v3 => (if v3 = 0 then (if inb v1 64 then (if inb v1 64 then (bd (uIw M 63 0 0 v1.toNatClampNeg ((M.1 63 0 0 v1.toNatClampNeg) + 1)) (fun M18 => (B_X10_goesWays_27 rec p1 p2 v1 M18))) else none) else none) else (B_X10_goesWays_27 rec p1 p2 v1 M))))))
set_option maxRecDepth 100000 in
set_option maxHeartbeats 4000000 in
theorem t_X10_goesWays_32 {g : Gw} {x : Xw} {d0 : Nat} (C : Cw g x cX10_goesWays RX10 6 none (d0 + 1)) (hm : x.2.2.2.2.2.2.2.2.2.2.2 = (0, 0)) (rec : Int32 → Int32 → Int32 → Mw → Option (Mw)) (hrec : ∀ (p1 : Int32) (p2 : Int32) (p3 : Int32) (M : Mw), Kw g x.2.1 yX10_goesWays cX10_goesWays 6 none d0 0 0 [.ref (gA g 50 0 0), .int p1, .int p2, .int p3] M (fun M : Mw => (none, M)) (rec p1 p2 p3 M)) (hd1 : 4 ≤ d0 + 1) (l1 : Int32) (l2 : Int32) (l4 : Int32) (k32 : Int32 → Mw → Option (Mw)) (hk32 : ∀ (l5 : Int32) (M : Mw), Sw g x (fun M : Mw => (none, M)) M 0 0 32 [(0, .ref (gA g 50 0 0)), (1, .int l1), (2, .int l2), (4, .int l4), (5, .int l5)] [] (k32 l5 M)) (l5 : Int32) (M : Mw) : Sw g x (fun M : Mw => (none, M)) M 0 0 32 [(0, .ref (gA g 50 0 0)), (1, .int l1), (2, .int l2), (4, .int l4), (5, .int l5)] [] (B_X10_goesWays_32 rec l1 l2 l4 k32 l5 M) := by
  unfold B_X10_goesWays_32
  refine r_iload C 4 dX10_goesWays_32 rfl ?_
  refine r_aload_n C 0 dX10_goesWays_34 rfl rfl ?_
  refine r_iload_n C 1 dX10_goesWays_35 rfl rfl ?_
  refine r_callVRi (rest := [.int l5]) C (c_X10_nodesOf l1 M) dX10_goesWays_36 u_1277 in_50 (contW_50 g _ _ _ _ _) rfl u_1278 u_68 mi_X10_nodesOf (by omega) rfl rfl (Nat.le_of_ble_eq_true rfl) (xk1 hm (by decide)) (xn1 hm (by decide)) (fun v7 h8 => ?_)
  refine r_icmp_ge (tgt := 68) C dX10_goesWays_39 (by decide) (fun h9 => ?_) (fun h9 => ?_)
  · exact r_vret C dX10_goesWays_68 rfl rfl (xk0 hm) (xn0 hm)
  · refine r_aload_n C 0 dX10_goesWays_42 rfl rfl ?_
    refine r_iload_n C 1 dX10_goesWays_43 rfl rfl ?_
    refine r_iload C 4 dX10_goesWays_44 rfl ?_
    refine r_iload_n C 2 dX10_goesWays_46 rfl rfl ?_
    refine r_callVRi (rest := []) C (c_X10_isBehind l1 l5 l2 M) dX10_goesWays_47 u_1286 in_50 (contW_50 g _ _ _ _ _) rfl u_1287 u_71 mi_X10_isBehind (by omega) rfl rfl (Nat.le_of_ble_eq_true rfl) (xk1 hm (by decide)) (xn1 hm (by decide)) (fun v10 h11 => ?_)
    refine r_if_eq (tgt := 62) C dX10_goesWays_50 (by decide) (fun h12 => ?_) (fun h12 => ?_)
    · refine r_iinc (c := 1) (lv' := fun v13 => [(5, .int v13), (0, .ref (gA g 50 0 0)), (1, .int l1), (2, .int l2), (4, .int l4)]) C 4 dX10_goesWays_62 rfl (by decide) (by decide) (fun _ => rfl) (fun v13 => ?_)
      refine r_goto (tgt := 32) C dX10_goesWays_65 (by decide) ?_
      refine r_lv [1, 2, 3, 4, 0] rfl ?_
      exact hk32 v13 M
    · refine r_aload_n C 0 dX10_goesWays_53 rfl rfl ?_
      refine r_iload_n C 1 dX10_goesWays_54 rfl rfl ?_
      refine r_iload C 4 dX10_goesWays_55 rfl ?_
      refine r_iload C 3 dX10_goesWays_57 rfl ?_
      refine r_callVU (rest := []) C (hrec l1 l5 l4 M) dX10_goesWays_59 u_1408 in_50 (contW_50 g _ _ _ _ _) rfl u_1409 u_87 mi_X10_goesWays (by omega) rfl rfl (Nat.le_of_ble_eq_true rfl) (xk1 hm (by decide)) (xn1 hm (by decide)) (fun M14 h15 => ?_)
      refine r_iinc (c := 1) (lv' := fun v16 => [(5, .int v16), (0, .ref (gA g 50 0 0)), (1, .int l1), (2, .int l2), (4, .int l4)]) C 4 dX10_goesWays_62 rfl (by decide) (by decide) (fun _ => rfl) (fun v16 => ?_)
      refine r_goto (tgt := 32) C dX10_goesWays_65 (by decide) ?_
      refine r_lv [1, 2, 3, 4, 0] rfl ?_
      exact hk32 v16 M14
set_option maxRecDepth 100000 in
set_option maxHeartbeats 4000000 in
theorem tl_X10_goesWays_32 {g : Gw} {x : Xw} {d0 : Nat} (C : Cw g x cX10_goesWays RX10 6 none (d0 + 1)) (hm : x.2.2.2.2.2.2.2.2.2.2.2 = (0, 0)) (rec : Int32 → Int32 → Int32 → Mw → Option (Mw)) (hrec : ∀ (p1 : Int32) (p2 : Int32) (p3 : Int32) (M : Mw), Kw g x.2.1 yX10_goesWays cX10_goesWays 6 none d0 0 0 [.ref (gA g 50 0 0), .int p1, .int p2, .int p3] M (fun M : Mw => (none, M)) (rec p1 p2 p3 M)) (hd1 : 4 ≤ d0 + 1) (l1 : Int32) (l2 : Int32) (l4 : Int32) (n : Nat) : ∀ (l5 : Int32) (M : Mw), Sw g x (fun M : Mw => (none, M)) M 0 0 32 [(0, .ref (gA g 50 0 0)), (1, .int l1), (2, .int l2), (4, .int l4), (5, .int l5)] [] (it (fun _ _ => none) (B_X10_goesWays_32 rec l1 l2 l4) n l5 M) := by
  induction n with
  | zero =>
    intro l5 M
    exact r_none
  | succ n ih =>
    intro l5 M
    exact t_X10_goesWays_32 C hm rec hrec hd1 l1 l2 l4 _ ih l5 M
set_option maxRecDepth 100000 in
set_option maxHeartbeats 4000000 in
theorem t_X10_goesWays_27 {g : Gw} {x : Xw} {d0 : Nat} (C : Cw g x cX10_goesWays RX10 6 none (d0 + 1)) (hm : x.2.2.2.2.2.2.2.2.2.2.2 = (0, 0)) (rec : Int32 → Int32 → Int32 → Mw → Option (Mw)) (hrec : ∀ (p1 : Int32) (p2 : Int32) (p3 : Int32) (M : Mw), Kw g x.2.1 yX10_goesWays cX10_goesWays 6 none d0 0 0 [.ref (gA g 50 0 0), .int p1, .int p2, .int p3] M (fun M : Mw => (none, M)) (rec p1 p2 p3 M)) (hd1 : 4 ≤ d0 + 1) (l1 : Int32) (l2 : Int32) (l4 : Int32) (M : Mw) : Sw g x (fun M : Mw => (none, M)) M 0 0 27 [(0, .ref (gA g 50 0 0)), (1, .int l1), (2, .int l2), (4, .int l4)] [] (B_X10_goesWays_27 rec l1 l2 l4 M) := by
  unfold B_X10_goesWays_27
  refine r_iload_n C 2 dX10_goesWays_27 rfl rfl ?_
  refine r_iconst (v := 1) C dX10_goesWays_28 (by decide) ?_
  refine r_iadd C dX10_goesWays_29 ?_
  refine r_istore (lv' := fun v6 => [(5, .int v6), (0, .ref (gA g 50 0 0)), (1, .int l1), (2, .int l2), (4, .int l4)]) C dX10_goesWays_30 (by decide) (fun _ => rfl) (fun v6 => ?_)
  refine r_lv [1, 2, 3, 4, 0] rfl ?_
  exact tl_X10_goesWays_32 C hm rec hrec hd1 l1 l2 l4 FU v6 M
def F_X10_goesWaysR : Nat → Int32 → Int32 → Int32 → Mw → Option (Mw)
  | 0 => fun _ _ _ _ => none
  | n + 1 => F_X10_goesWays (F_X10_goesWaysR n)
set_option maxRecDepth 100000 in
set_option maxHeartbeats 4000000 in
theorem c_X10_goesWaysR {g : Gw} {l : Launch} (n : Nat) : ∀ (p1 : Int32) (p2 : Int32) (p3 : Int32) (M : Mw), Kw g l yX10_goesWays cX10_goesWays 6 none (4 + n) 0 0 [.ref (gA g 50 0 0), .int p1, .int p2, .int p3] M (fun M : Mw => (none, M)) (F_X10_goesWaysR n p1 p2 p3 M) := by
  induction n with
  | zero =>
    intro p1 p2 p3 M sz r hr
    cases hr
  | succ n ih =>
    intro p1 p2 p3 M
    show Kw g l _ _ _ _ _ _ _ _ M _ (F_X10_goesWays (F_X10_goesWaysR n) p1 p2 p3 M)
    refine Kw.of (own := RX10) (lv0 := [(0, .ref (gA g 50 0 0)), (1, .int p1), (2, .int p2), (3, .int p3)]) (by decide +kernel) rfl (Nat.le_of_ble_eq_true rfl) rfl (fun x C hl hm => ?_)
    subst hl
    have hrec := ih
    have hd1 : 4 ≤ (4 + n) + 1 := by omega
    generalize F_X10_goesWaysR n = rec at hrec ⊢
    unfold F_X10_goesWays
    refine r_iload_n C 3 dX10_goesWays_0 rfl rfl ?_
    refine r_iload_n C 2 dX10_goesWays_1 rfl rfl ?_
    refine r_callSRi (rest := []) C (c_X10_answered p3 p2 M) dX10_goesWays_2 u_1401 u_1402 mi_X10_answered (by omega) rfl rfl (Nat.le_of_ble_eq_true rfl) (xk1 hm (by decide)) (xn1 hm (by decide)) (fun v1 h2 => ?_)
    refine r_istore0 (lv' := [(4, .int v1), (0, .ref (gA g 50 0 0)), (1, .int p1), (2, .int p2), (3, .int p3)]) C dX10_goesWays_5 (by decide) rfl ?_
    refine r_aload_n C 1 dX10_goesWays_7 rfl rfl ?_
    refine r_iload_n C 2 dX10_goesWays_8 rfl rfl ?_
    refine r_iload_n C 3 dX10_goesWays_9 rfl rfl ?_
    refine r_callVRi (rest := []) C (c_X10_followers p1 p2 M) dX10_goesWays_10 u_1314 in_50 (contW_50 g _ _ _ _ _) rfl u_1315 u_76 mi_X10_followers (by omega) rfl rfl (Nat.le_of_ble_eq_true rfl) (xk1 hm (by decide)) (xn1 hm (by decide)) (fun v3 h4 => ?_)
    refine r_if_ne (tgt := 27) C dX10_goesWays_13 (by decide) (fun h5 => ?_) (fun h5 => ?_)
    · refine r_aload_n C 1 dX10_goesWays_16 rfl rfl ?_
      refine gf_50_22 C dX10_goesWays_17 u_1127 in_50 ?_
      refine r_iload C 0 dX10_goesWays_20 rfl ?_
      refine r_dup2 C rfl rfl dX10_goesWays_22 ?_
      refine r_iald C dX10_goesWays_23 in_63 (contW_63 g _ _ _ _ _) (fun h17 => ?_)
      refine r_iconst (v := 1) C dX10_goesWays_24 (by decide) ?_
      refine r_iadd C dX10_goesWays_25 ?_
      refine r_iast C dX10_goesWays_26 in_63 (contW_63 g _ _) (fun M18 h19 => ?_)
      refine r_lv [1, 2, 3, 0] rfl ?_
      exact t_X10_goesWays_27 C hm rec hrec hd1 p1 p2 v1 M18
    · refine r_lv [1, 2, 3, 0] rfl ?_
      exact t_X10_goesWays_27 C hm rec hrec hd1 p1 p2 v1 M
def B_X10_alike_56 (M : Mw) (k56 : Int32 → Int32 → Option (Int32 × Mw)) (l3 : Int32) (l4 : Int32) : Option (Int32 × Mw) :=
  (if 64 ≤ l4 then some (l3, M) else (if inb l4 64 then (if inb l4 64 then (if 2 = 0 then none else (bd (l3 + (((M.1 63 0 0 l4.toNatClampNeg) * ((M.1 63 0 0 l4.toNatClampNeg) - 1)) / 2)) (fun v14 => (bd (l4 + 1) (fun v15 => (k56 v14 v15)))))) else none) else none))
def B_X10_alike_25 (l1 : Int32) (l2 : Int32) (k25 : Int32 → Mw → Option (Int32 × Mw)) (l3 : Int32) (M : Mw) : Option (Int32 × Mw) :=
  (if 64 ≤ l3 then ((F_X10_goesWaysR 7 l1 0 l2 M).bind (fun M8 => (it (fun _ _ => none) (B_X10_alike_56 M8) FU 0 0))) else (if inb l3 64 then (bd (uIw M 63 0 0 l3.toNatClampNeg 0) (fun M16 => (bd (l3 + 1) (fun v18 => (k25 v18 M16))))) else none))
def F_X10_alike (p1 : Int32) (p2 : Int32) (M : Mw) : Option (Int32 × Mw) :=
  ((F_X10_isTask p1 M).bind (fun v1 => (if v1 = 0 then some ((-2), M) else ((F_X10_in ((p2).toInt64) 0 63 M).bind (fun v4 => (if v4 = 0 then some ((-2), M) else (it (fun _ _ => none) (B_X10_alike_25 p1 p2) FU 0 M)))))))
set_option maxRecDepth 100000 in
set_option maxHeartbeats 4000000 in
theorem t_X10_alike_56 {g : Gw} {x : Xw} (C : Cw g x cX10_alike RX10 5 (some .int) 12) (hm : x.2.2.2.2.2.2.2.2.2.2.2 = (0, 0)) (M : Mw) (k56 : Int32 → Int32 → Option (Int32 × Mw)) (hk56 : ∀ (l3 : Int32) (l4 : Int32), Sw g x (fun q : Int32 × Mw => (some (.int q.1), q.2)) M 0 0 56 [(0, .ref (gA g 50 0 0)), (3, .int l3), (4, .int l4)] [] (k56 l3 l4)) (l3 : Int32) (l4 : Int32) : Sw g x (fun q : Int32 × Mw => (some (.int q.1), q.2)) M 0 0 56 [(0, .ref (gA g 50 0 0)), (3, .int l3), (4, .int l4)] [] (B_X10_alike_56 M k56 l3 l4) := by
  unfold B_X10_alike_56
  refine r_iload C 2 dX10_alike_56 rfl ?_
  refine r_bipush (v := 64) C dX10_alike_58 (by decide) ?_
  refine r_icmp_ge (tgt := 91) C dX10_alike_60 (by decide) (fun h10 => ?_) (fun h10 => ?_)
  · refine r_iload_n C 1 dX10_alike_91 rfl rfl ?_
    exact r_iret C dX10_alike_92 rfl rfl (xk0 hm) (xn0 hm)
  · refine r_iload_n C 1 dX10_alike_63 rfl rfl ?_
    refine r_aload_n C 0 dX10_alike_64 rfl rfl ?_
    refine gf_50_22 C dX10_alike_65 u_1127 in_50 ?_
    refine r_iload C 2 dX10_alike_68 rfl ?_
    refine r_iald C dX10_alike_70 in_63 (contW_63 g _ _ _ _ _) (fun h11 => ?_)
    refine r_aload_n C 0 dX10_alike_71 rfl rfl ?_
    refine gf_50_22 C dX10_alike_72 u_1127 in_50 ?_
    refine r_iload C 2 dX10_alike_75 rfl ?_
    refine r_iald C dX10_alike_77 in_63 (contW_63 g _ _ _ _ _) (fun h12 => ?_)
    refine r_iconst (v := 1) C dX10_alike_78 (by decide) ?_
    refine r_isub C dX10_alike_79 ?_
    refine r_imul C dX10_alike_80 ?_
    refine r_iconst (v := 2) C dX10_alike_81 (by decide) ?_
    refine r_idiv C dX10_alike_82 (fun h13 => ?_)
    refine r_iadd C dX10_alike_83 ?_
    refine r_istore_n (lv' := fun v14 => [(3, .int v14), (0, .ref (gA g 50 0 0)), (4, .int l4)]) C dX10_alike_84 rfl (by decide) (fun _ => rfl) (fun v14 => ?_)
    refine r_iinc (c := 1) (lv' := fun v15 => [(4, .int v15), (3, .int v14), (0, .ref (gA g 50 0 0))]) C 2 dX10_alike_85 rfl (by decide) (by decide) (fun _ => rfl) (fun v15 => ?_)
    refine r_goto (tgt := 56) C dX10_alike_88 (by decide) ?_
    refine r_lv [2, 1, 0] rfl ?_
    exact hk56 v14 v15
set_option maxRecDepth 100000 in
set_option maxHeartbeats 4000000 in
theorem tl_X10_alike_56 {g : Gw} {x : Xw} (C : Cw g x cX10_alike RX10 5 (some .int) 12) (hm : x.2.2.2.2.2.2.2.2.2.2.2 = (0, 0)) (M : Mw) (n : Nat) : ∀ (l3 : Int32) (l4 : Int32), Sw g x (fun q : Int32 × Mw => (some (.int q.1), q.2)) M 0 0 56 [(0, .ref (gA g 50 0 0)), (3, .int l3), (4, .int l4)] [] (it (fun _ _ => none) (B_X10_alike_56 M) n l3 l4) := by
  induction n with
  | zero =>
    intro l3 l4
    exact r_none
  | succ n ih =>
    intro l3 l4
    exact t_X10_alike_56 C hm M _ ih l3 l4
set_option maxRecDepth 100000 in
set_option maxHeartbeats 4000000 in
theorem t_X10_alike_25 {g : Gw} {x : Xw} (C : Cw g x cX10_alike RX10 5 (some .int) 12) (hm : x.2.2.2.2.2.2.2.2.2.2.2 = (0, 0)) (l1 : Int32) (l2 : Int32) (k25 : Int32 → Mw → Option (Int32 × Mw)) (hk25 : ∀ (l3 : Int32) (M : Mw), Sw g x (fun q : Int32 × Mw => (some (.int q.1), q.2)) M 0 0 25 [(0, .ref (gA g 50 0 0)), (1, .int l1), (2, .int l2), (3, .int l3)] [] (k25 l3 M)) (l3 : Int32) (M : Mw) : Sw g x (fun q : Int32 × Mw => (some (.int q.1), q.2)) M 0 0 25 [(0, .ref (gA g 50 0 0)), (1, .int l1), (2, .int l2), (3, .int l3)] [] (B_X10_alike_25 l1 l2 k25 l3 M) := by
  unfold B_X10_alike_25
  refine r_iload_n C 3 dX10_alike_25 rfl rfl ?_
  refine r_bipush (v := 64) C dX10_alike_26 (by decide) ?_
  refine r_icmp_ge (tgt := 44) C dX10_alike_28 (by decide) (fun h7 => ?_) (fun h7 => ?_)
  · refine r_aload_n C 0 dX10_alike_44 rfl rfl ?_
    refine r_iload_n C 1 dX10_alike_45 rfl rfl ?_
    refine r_iconst (v := 0) C dX10_alike_46 (by decide) ?_
    refine r_iload_n C 2 dX10_alike_47 rfl rfl ?_
    refine r_callVU (rest := []) C (c_X10_goesWaysR 7 l1 0 l2 M) dX10_alike_48 u_1408 in_50 (contW_50 g _ _ _ _ _) rfl u_1409 u_87 mi_X10_goesWays (by decide) rfl rfl (Nat.le_of_ble_eq_true rfl) (xk1 hm (by decide)) (xn1 hm (by decide)) (fun M8 h9 => ?_)
    refine r_iconst (v := 0) C dX10_alike_51 (by decide) ?_
    refine r_istore_n0 (lv' := [(3, .int 0), (0, .ref (gA g 50 0 0)), (1, .int l1), (2, .int l2)]) C dX10_alike_52 rfl (by decide) rfl ?_
    refine r_iconst (v := 0) C dX10_alike_53 (by decide) ?_
    refine r_istore0 (lv' := [(4, .int 0), (3, .int 0), (0, .ref (gA g 50 0 0)), (1, .int l1), (2, .int l2)]) C dX10_alike_54 (by decide) rfl ?_
    refine r_lv [2, 1, 0] rfl ?_
    exact tl_X10_alike_56 C hm M8 FU 0 0
  · refine r_aload_n C 0 dX10_alike_31 rfl rfl ?_
    refine gf_50_22 C dX10_alike_32 u_1127 in_50 ?_
    refine r_iload_n C 3 dX10_alike_35 rfl rfl ?_
    refine r_iconst (v := 0) C dX10_alike_36 (by decide) ?_
    refine r_iast C dX10_alike_37 in_63 (contW_63 g _ _) (fun M16 h17 => ?_)
    refine r_iinc (c := 1) (lv' := fun v18 => [(3, .int v18), (0, .ref (gA g 50 0 0)), (1, .int l1), (2, .int l2)]) C 3 dX10_alike_38 rfl (by decide) (by decide) (fun _ => rfl) (fun v18 => ?_)
    refine r_goto (tgt := 25) C dX10_alike_41 (by decide) ?_
    refine r_lv [1, 2, 3, 0] rfl ?_
    exact hk25 v18 M16
set_option maxRecDepth 100000 in
set_option maxHeartbeats 4000000 in
theorem tl_X10_alike_25 {g : Gw} {x : Xw} (C : Cw g x cX10_alike RX10 5 (some .int) 12) (hm : x.2.2.2.2.2.2.2.2.2.2.2 = (0, 0)) (l1 : Int32) (l2 : Int32) (n : Nat) : ∀ (l3 : Int32) (M : Mw), Sw g x (fun q : Int32 × Mw => (some (.int q.1), q.2)) M 0 0 25 [(0, .ref (gA g 50 0 0)), (1, .int l1), (2, .int l2), (3, .int l3)] [] (it (fun _ _ => none) (B_X10_alike_25 l1 l2) n l3 M) := by
  induction n with
  | zero =>
    intro l3 M
    exact r_none
  | succ n ih =>
    intro l3 M
    exact t_X10_alike_25 C hm l1 l2 _ ih l3 M
set_option maxRecDepth 100000 in
set_option maxHeartbeats 4000000 in
theorem c_X10_alike {g : Gw} {l : Launch} (p1 : Int32) (p2 : Int32) (M : Mw) : Kw g l yX10_alike cX10_alike 5 (some .int) 12 0 0 [.ref (gA g 50 0 0), .int p1, .int p2] M (fun q : Int32 × Mw => (some (.int q.1), q.2)) (F_X10_alike p1 p2 M) := by
  refine Kw.of (own := RX10) (lv0 := [(0, .ref (gA g 50 0 0)), (1, .int p1), (2, .int p2)]) (by decide +kernel) rfl (Nat.le_of_ble_eq_true rfl) rfl (fun x C hl hm => ?_)
  subst hl
  unfold F_X10_alike
  refine r_aload_n C 0 dX10_alike_0 rfl rfl ?_
  refine r_iload_n C 1 dX10_alike_1 rfl rfl ?_
  refine r_callVRi (rest := []) C (c_X10_isTask p1 M) dX10_alike_2 u_1266 in_50 (contW_50 g _ _ _ _ _) rfl u_1267 u_66 mi_X10_isTask (by decide) rfl rfl (Nat.le_of_ble_eq_true rfl) (xk1 hm (by decide)) (xn1 hm (by decide)) (fun v1 h2 => ?_)
  refine r_if_eq (tgt := 20) C dX10_alike_5 (by decide) (fun h3 => ?_) (fun h3 => ?_)
  · refine r_bipush (v := (-2)) C dX10_alike_20 (by decide) ?_
    exact r_iret C dX10_alike_22 rfl rfl (xk0 hm) (xn0 hm)
  · refine r_iload_n C 2 dX10_alike_8 rfl rfl ?_
    refine r_i2l C dX10_alike_9 ?_
    refine r_lconst (v := 0) C dX10_alike_10 (by decide) ?_
    refine r_ldc2 (v := 63) C u_1400 dX10_alike_11 ?_
    refine r_callSRi (rest := []) C (c_X10_in ((p2).toInt64) 0 63 M) dX10_alike_14 u_1174 u_1175 mi_X10_in (by decide) rfl rfl (Nat.le_of_ble_eq_true rfl) (xk1 hm (by decide)) (xn1 hm (by decide)) (fun v4 h5 => ?_)
    refine r_if_ne (tgt := 23) C dX10_alike_17 (by decide) (fun h6 => ?_) (fun h6 => ?_)
    · refine r_bipush (v := (-2)) C dX10_alike_20 (by decide) ?_
      exact r_iret C dX10_alike_22 rfl rfl (xk0 hm) (xn0 hm)
    · refine r_iconst (v := 0) C dX10_alike_23 (by decide) ?_
      refine r_istore_n0 (lv' := [(3, .int 0), (0, .ref (gA g 50 0 0)), (1, .int p1), (2, .int p2)]) C dX10_alike_24 rfl (by decide) rfl ?_
      refine r_lv [1, 2, 3, 0] rfl ?_
      exact tl_X10_alike_25 C hm p1 p2 FU 0 M
def F_X10_asTold (M : Mw) : Option (Mw) :=
  (bd (uIw M 50 0 0 23 (-1)) (fun M1 => (bd (uIw M1 50 0 0 24 (-1)) (fun M2 => (bd (uIw M2 50 0 0 27 0) (fun M3 => some M3))))))
set_option maxRecDepth 100000 in
set_option maxHeartbeats 4000000 in
theorem c_X10_asTold {g : Gw} {l : Launch} (M : Mw) : Kw g l yX10_asTold cX10_asTold 1 none 1 0 0 [.ref (gA g 50 0 0)] M (fun M : Mw => (none, M)) (F_X10_asTold M) := by
  refine Kw.of (own := RX10) (lv0 := [(0, .ref (gA g 50 0 0))]) (by decide +kernel) rfl (Nat.le_of_ble_eq_true rfl) rfl (fun x C hl hm => ?_)
  subst hl
  unfold F_X10_asTold
  refine r_aload_n C 0 dX10_asTold_0 rfl rfl ?_
  refine r_iconst (v := (-1)) C dX10_asTold_1 (by decide) ?_
  refine pf_50_23 C dX10_asTold_2 u_1128 in_50 (fun M1 => ?_)
  refine r_aload_n C 0 dX10_asTold_5 rfl rfl ?_
  refine r_iconst (v := (-1)) C dX10_asTold_6 (by decide) ?_
  refine pf_50_24 C dX10_asTold_7 u_1129 in_50 (fun M2 => ?_)
  refine r_aload_n C 0 dX10_asTold_10 rfl rfl ?_
  refine r_iconst (v := 0) C dX10_asTold_11 (by decide) ?_
  refine pf_50_27 C dX10_asTold_12 u_1132 in_50 (fun M3 => ?_)
  exact r_vret C dX10_asTold_15 rfl rfl (xk0 hm) (xn0 hm)
def B_X10_beginRun_190 (k190 : Int32 → Mw → Option (Mw)) (l1 : Int32) (M : Mw) : Option (Mw) :=
  (if 200 ≤ l1 then (bd (uIw M 50 0 0 56 0) (fun M6 => (bd (uIw M6 50 0 0 57 0) (fun M7 => (bd (uIw M7 50 0 0 59 (-1)) (fun M8 => some M8)))))) else (if inb l1 200 then (bd (uIw M 87 0 0 l1.toNatClampNeg (-1)) (fun M9 => (bd (l1 + 1) (fun v11 => (k190 v11 M9))))) else none))
def B_X10_beginRun_163 (k163 : Int32 → Mw → Option (Mw)) (l1 : Int32) (M : Mw) : Option (Mw) :=
  (if 3 ≤ l1 then (it (fun _ _ => none) (B_X10_beginRun_190) FU 0 M) else (if inb l1 3 then (bd (uIw M 85 0 0 l1.toNatClampNeg (vp_nar .boolean 0)) (fun M12 => (if inb l1 3 then (bd (uIw M12 86 0 0 l1.toNatClampNeg (vp_nar .boolean 0)) (fun M14 => (bd (l1 + 1) (fun v16 => (k163 v16 M14))))) else none))) else none))
def B_X10_beginRun_142 (k142 : Int32 → Mw → Option (Mw)) (l1 : Int32) (M : Mw) : Option (Mw) :=
  (if 18 < l1 then (it (fun _ _ => none) (B_X10_beginRun_163) FU 0 M) else (if inb l1 19 then (bd (uIw M 84 0 0 l1.toNatClampNeg (vp_nar .boolean 0)) (fun M17 => (bd (l1 + 1) (fun v19 => (k142 v19 M17))))) else none))
def B_X10_beginRun_120 (k120 : Int32 → Mw → Option (Mw)) (l1 : Int32) (M : Mw) : Option (Mw) :=
  (if 255 ≤ l1 then (it (fun _ _ => none) (B_X10_beginRun_142) FU 0 M) else (if inb l1 255 then (bd (uIw M 83 0 0 l1.toNatClampNeg (-1)) (fun M20 => (bd (l1 + 1) (fun v22 => (k120 v22 M20))))) else none))
def B_X10_beginRun_2 (k2 : Int32 → Mw → Option (Mw)) (l1 : Int32) (M : Mw) : Option (Mw) :=
  (if 5 ≤ l1 then (it (fun _ _ => none) (B_X10_beginRun_120) FU 0 M) else (if inb l1 5 then (bd (uIw M 64 0 0 l1.toNatClampNeg 0) (fun M23 => (if inb l1 5 then (bd (uIw M23 65 0 0 l1.toNatClampNeg (-1)) (fun M25 => (if inb l1 5 then (bd (uIw M25 66 0 0 l1.toNatClampNeg 0) (fun M27 => (if inb l1 5 then (bd (uIw M27 69 0 0 l1.toNatClampNeg 1) (fun M29 => (if inb l1 5 then (bd (uIw M29 70 0 0 l1.toNatClampNeg (-1)) (fun M31 => (if inb l1 5 then (bd (uIw M31 71 0 0 l1.toNatClampNeg (vp_nar .boolean 0)) (fun M33 => (if inb l1 5 then (bd (uIw M33 72 0 0 l1.toNatClampNeg 0) (fun M35 => (if inb l1 5 then (bd (uIw M35 73 0 0 l1.toNatClampNeg 0) (fun M37 => (if inb l1 5 then (bd (uFw M37 74 0 0 l1.toNatClampNeg FP.fconst1) (fun M39 => (if inb l1 5 then (bd (uIw M39 75 0 0 l1.toNatClampNeg 0) (fun M41 => (if inb l1 5 then (bd (uIw M41 76 0 0 l1.toNatClampNeg (vp_nar .boolean 0)) (fun M43 => (if inb l1 5 then (bd (uIw M43 77 0 0 l1.toNatClampNeg 0) (fun M45 => (if inb l1 5 then (bd (uIw M45 78 0 0 l1.toNatClampNeg (-1)) (fun M47 => (if inb l1 5 then (bd (uDw M47 80 0 0 l1.toNatClampNeg FP.dconst0) (fun M49 => (if inb l1 5 then (bd (uIw M49 81 0 0 l1.toNatClampNeg 0) (fun M51 => (bd (l1 + 1) (fun v53 => (k2 v53 M51))))) else none))) else none))) else none))) else none))) else none))) else none))) else none))) else none))) else none))) else none))) else none))) else none))) else none))) else none))) else none))
def F_X10_beginRun (M : Mw) : Option (Mw) :=
  (it (fun _ _ => none) (B_X10_beginRun_2) FU 0 M)
set_option maxRecDepth 100000 in
set_option maxHeartbeats 4000000 in
theorem t_X10_beginRun_190 {g : Gw} {x : Xw} (C : Cw g x cX10_beginRun RX10 2 none 1) (hm : x.2.2.2.2.2.2.2.2.2.2.2 = (0, 0)) (k190 : Int32 → Mw → Option (Mw)) (hk190 : ∀ (l1 : Int32) (M : Mw), Sw g x (fun M : Mw => (none, M)) M 0 0 190 [(0, .ref (gA g 50 0 0)), (1, .int l1)] [] (k190 l1 M)) (l1 : Int32) (M : Mw) : Sw g x (fun M : Mw => (none, M)) M 0 0 190 [(0, .ref (gA g 50 0 0)), (1, .int l1)] [] (B_X10_beginRun_190 k190 l1 M) := by
  unfold B_X10_beginRun_190
  refine r_iload_n C 1 dX10_beginRun_190 rfl rfl ?_
  refine r_sipush (v := 200) C dX10_beginRun_191 (by decide) ?_
  refine r_icmp_ge (tgt := 210) C dX10_beginRun_194 (by decide) (fun h5 => ?_) (fun h5 => ?_)
  · refine r_aload_n C 0 dX10_beginRun_210 rfl rfl ?_
    refine r_iconst (v := 0) C dX10_beginRun_211 (by decide) ?_
    refine pf_50_56 C dX10_beginRun_212 u_1161 in_50 (fun M6 => ?_)
    refine r_aload_n C 0 dX10_beginRun_215 rfl rfl ?_
    refine r_iconst (v := 0) C dX10_beginRun_216 (by decide) ?_
    refine pf_50_57 C dX10_beginRun_217 u_1162 in_50 (fun M7 => ?_)
    refine r_aload_n C 0 dX10_beginRun_220 rfl rfl ?_
    refine r_iconst (v := (-1)) C dX10_beginRun_221 (by decide) ?_
    refine pf_50_59 C dX10_beginRun_222 u_1164 in_50 (fun M8 => ?_)
    exact r_vret C dX10_beginRun_225 rfl rfl (xk0 hm) (xn0 hm)
  · refine r_aload_n C 0 dX10_beginRun_197 rfl rfl ?_
    refine gf_50_51 C dX10_beginRun_198 u_1156 in_50 ?_
    refine r_iload_n C 1 dX10_beginRun_201 rfl rfl ?_
    refine r_iconst (v := (-1)) C dX10_beginRun_202 (by decide) ?_
    refine r_iast C dX10_beginRun_203 in_87 (contW_87 g _ _) (fun M9 h10 => ?_)
    refine r_iinc (c := 1) (lv' := fun v11 => [(1, .int v11), (0, .ref (gA g 50 0 0))]) C 1 dX10_beginRun_204 rfl (by decide) (by decide) (fun _ => rfl) (fun v11 => ?_)
    refine r_goto (tgt := 190) C dX10_beginRun_207 (by decide) ?_
    refine r_lv [1, 0] rfl ?_
    exact hk190 v11 M9
set_option maxRecDepth 100000 in
set_option maxHeartbeats 4000000 in
theorem tl_X10_beginRun_190 {g : Gw} {x : Xw} (C : Cw g x cX10_beginRun RX10 2 none 1) (hm : x.2.2.2.2.2.2.2.2.2.2.2 = (0, 0)) (n : Nat) : ∀ (l1 : Int32) (M : Mw), Sw g x (fun M : Mw => (none, M)) M 0 0 190 [(0, .ref (gA g 50 0 0)), (1, .int l1)] [] (it (fun _ _ => none) (B_X10_beginRun_190) n l1 M) := by
  induction n with
  | zero =>
    intro l1 M
    exact r_none
  | succ n ih =>
    intro l1 M
    exact t_X10_beginRun_190 C hm _ ih l1 M
set_option maxRecDepth 100000 in
set_option maxHeartbeats 4000000 in
theorem t_X10_beginRun_163 {g : Gw} {x : Xw} (C : Cw g x cX10_beginRun RX10 2 none 1) (hm : x.2.2.2.2.2.2.2.2.2.2.2 = (0, 0)) (k163 : Int32 → Mw → Option (Mw)) (hk163 : ∀ (l1 : Int32) (M : Mw), Sw g x (fun M : Mw => (none, M)) M 0 0 163 [(0, .ref (gA g 50 0 0)), (1, .int l1)] [] (k163 l1 M)) (l1 : Int32) (M : Mw) : Sw g x (fun M : Mw => (none, M)) M 0 0 163 [(0, .ref (gA g 50 0 0)), (1, .int l1)] [] (B_X10_beginRun_163 k163 l1 M) := by
  unfold B_X10_beginRun_163
  refine r_iload_n C 1 dX10_beginRun_163 rfl rfl ?_
  refine r_iconst (v := 3) C dX10_beginRun_164 (by decide) ?_
  refine r_icmp_ge (tgt := 188) C dX10_beginRun_165 (by decide) (fun h4 => ?_) (fun h4 => ?_)
  · refine r_iconst (v := 0) C dX10_beginRun_188 (by decide) ?_
    refine r_istore_n0 (lv' := [(1, .int 0), (0, .ref (gA g 50 0 0))]) C dX10_beginRun_189 rfl (by decide) rfl ?_
    refine r_lv [1, 0] rfl ?_
    exact tl_X10_beginRun_190 C hm FU 0 M
  · refine r_aload_n C 0 dX10_beginRun_168 rfl rfl ?_
    refine gf_50_49 C dX10_beginRun_169 u_1154 in_50 ?_
    refine r_iload_n C 1 dX10_beginRun_172 rfl rfl ?_
    refine r_iconst (v := 0) C dX10_beginRun_173 (by decide) ?_
    refine r_zast C dX10_beginRun_174 in_85 (contW_85 g _ _) (fun M12 h13 => ?_)
    refine r_aload_n C 0 dX10_beginRun_175 rfl rfl ?_
    refine gf_50_50 C dX10_beginRun_176 u_1155 in_50 ?_
    refine r_iload_n C 1 dX10_beginRun_179 rfl rfl ?_
    refine r_iconst (v := 0) C dX10_beginRun_180 (by decide) ?_
    refine r_zast C dX10_beginRun_181 in_86 (contW_86 g _ _) (fun M14 h15 => ?_)
    refine r_iinc (c := 1) (lv' := fun v16 => [(1, .int v16), (0, .ref (gA g 50 0 0))]) C 1 dX10_beginRun_182 rfl (by decide) (by decide) (fun _ => rfl) (fun v16 => ?_)
    refine r_goto (tgt := 163) C dX10_beginRun_185 (by decide) ?_
    refine r_lv [1, 0] rfl ?_
    exact hk163 v16 M14
set_option maxRecDepth 100000 in
set_option maxHeartbeats 4000000 in
theorem tl_X10_beginRun_163 {g : Gw} {x : Xw} (C : Cw g x cX10_beginRun RX10 2 none 1) (hm : x.2.2.2.2.2.2.2.2.2.2.2 = (0, 0)) (n : Nat) : ∀ (l1 : Int32) (M : Mw), Sw g x (fun M : Mw => (none, M)) M 0 0 163 [(0, .ref (gA g 50 0 0)), (1, .int l1)] [] (it (fun _ _ => none) (B_X10_beginRun_163) n l1 M) := by
  induction n with
  | zero =>
    intro l1 M
    exact r_none
  | succ n ih =>
    intro l1 M
    exact t_X10_beginRun_163 C hm _ ih l1 M
set_option maxRecDepth 100000 in
set_option maxHeartbeats 4000000 in
theorem t_X10_beginRun_142 {g : Gw} {x : Xw} (C : Cw g x cX10_beginRun RX10 2 none 1) (hm : x.2.2.2.2.2.2.2.2.2.2.2 = (0, 0)) (k142 : Int32 → Mw → Option (Mw)) (hk142 : ∀ (l1 : Int32) (M : Mw), Sw g x (fun M : Mw => (none, M)) M 0 0 142 [(0, .ref (gA g 50 0 0)), (1, .int l1)] [] (k142 l1 M)) (l1 : Int32) (M : Mw) : Sw g x (fun M : Mw => (none, M)) M 0 0 142 [(0, .ref (gA g 50 0 0)), (1, .int l1)] [] (B_X10_beginRun_142 k142 l1 M) := by
  unfold B_X10_beginRun_142
  refine r_iload_n C 1 dX10_beginRun_142 rfl rfl ?_
  refine r_bipush (v := 18) C dX10_beginRun_143 (by decide) ?_
  refine r_icmp_gt (tgt := 161) C dX10_beginRun_145 (by decide) (fun h3 => ?_) (fun h3 => ?_)
  · refine r_iconst (v := 0) C dX10_beginRun_161 (by decide) ?_
    refine r_istore_n0 (lv' := [(1, .int 0), (0, .ref (gA g 50 0 0))]) C dX10_beginRun_162 rfl (by decide) rfl ?_
    refine r_lv [1, 0] rfl ?_
    exact tl_X10_beginRun_163 C hm FU 0 M
  · refine r_aload_n C 0 dX10_beginRun_148 rfl rfl ?_
    refine gf_50_48 C dX10_beginRun_149 u_1153 in_50 ?_
    refine r_iload_n C 1 dX10_beginRun_152 rfl rfl ?_
    refine r_iconst (v := 0) C dX10_beginRun_153 (by decide) ?_
    refine r_zast C dX10_beginRun_154 in_84 (contW_84 g _ _) (fun M17 h18 => ?_)
    refine r_iinc (c := 1) (lv' := fun v19 => [(1, .int v19), (0, .ref (gA g 50 0 0))]) C 1 dX10_beginRun_155 rfl (by decide) (by decide) (fun _ => rfl) (fun v19 => ?_)
    refine r_goto (tgt := 142) C dX10_beginRun_158 (by decide) ?_
    refine r_lv [1, 0] rfl ?_
    exact hk142 v19 M17
set_option maxRecDepth 100000 in
set_option maxHeartbeats 4000000 in
theorem tl_X10_beginRun_142 {g : Gw} {x : Xw} (C : Cw g x cX10_beginRun RX10 2 none 1) (hm : x.2.2.2.2.2.2.2.2.2.2.2 = (0, 0)) (n : Nat) : ∀ (l1 : Int32) (M : Mw), Sw g x (fun M : Mw => (none, M)) M 0 0 142 [(0, .ref (gA g 50 0 0)), (1, .int l1)] [] (it (fun _ _ => none) (B_X10_beginRun_142) n l1 M) := by
  induction n with
  | zero =>
    intro l1 M
    exact r_none
  | succ n ih =>
    intro l1 M
    exact t_X10_beginRun_142 C hm _ ih l1 M
set_option maxRecDepth 100000 in
set_option maxHeartbeats 4000000 in
theorem t_X10_beginRun_120 {g : Gw} {x : Xw} (C : Cw g x cX10_beginRun RX10 2 none 1) (hm : x.2.2.2.2.2.2.2.2.2.2.2 = (0, 0)) (k120 : Int32 → Mw → Option (Mw)) (hk120 : ∀ (l1 : Int32) (M : Mw), Sw g x (fun M : Mw => (none, M)) M 0 0 120 [(0, .ref (gA g 50 0 0)), (1, .int l1)] [] (k120 l1 M)) (l1 : Int32) (M : Mw) : Sw g x (fun M : Mw => (none, M)) M 0 0 120 [(0, .ref (gA g 50 0 0)), (1, .int l1)] [] (B_X10_beginRun_120 k120 l1 M) := by
  unfold B_X10_beginRun_120
  refine r_iload_n C 1 dX10_beginRun_120 rfl rfl ?_
  refine r_sipush (v := 255) C dX10_beginRun_121 (by decide) ?_
  refine r_icmp_ge (tgt := 140) C dX10_beginRun_124 (by decide) (fun h2 => ?_) (fun h2 => ?_)
  · refine r_iconst (v := 0) C dX10_beginRun_140 (by decide) ?_
    refine r_istore_n0 (lv' := [(1, .int 0), (0, .ref (gA g 50 0 0))]) C dX10_beginRun_141 rfl (by decide) rfl ?_
    refine r_lv [1, 0] rfl ?_
    exact tl_X10_beginRun_142 C hm FU 0 M
  · refine r_aload_n C 0 dX10_beginRun_127 rfl rfl ?_
    refine gf_50_47 C dX10_beginRun_128 u_1152 in_50 ?_
    refine r_iload_n C 1 dX10_beginRun_131 rfl rfl ?_
    refine r_iconst (v := (-1)) C dX10_beginRun_132 (by decide) ?_
    refine r_iast C dX10_beginRun_133 in_83 (contW_83 g _ _) (fun M20 h21 => ?_)
    refine r_iinc (c := 1) (lv' := fun v22 => [(1, .int v22), (0, .ref (gA g 50 0 0))]) C 1 dX10_beginRun_134 rfl (by decide) (by decide) (fun _ => rfl) (fun v22 => ?_)
    refine r_goto (tgt := 120) C dX10_beginRun_137 (by decide) ?_
    refine r_lv [1, 0] rfl ?_
    exact hk120 v22 M20
set_option maxRecDepth 100000 in
set_option maxHeartbeats 4000000 in
theorem tl_X10_beginRun_120 {g : Gw} {x : Xw} (C : Cw g x cX10_beginRun RX10 2 none 1) (hm : x.2.2.2.2.2.2.2.2.2.2.2 = (0, 0)) (n : Nat) : ∀ (l1 : Int32) (M : Mw), Sw g x (fun M : Mw => (none, M)) M 0 0 120 [(0, .ref (gA g 50 0 0)), (1, .int l1)] [] (it (fun _ _ => none) (B_X10_beginRun_120) n l1 M) := by
  induction n with
  | zero =>
    intro l1 M
    exact r_none
  | succ n ih =>
    intro l1 M
    exact t_X10_beginRun_120 C hm _ ih l1 M
set_option maxRecDepth 100000 in
set_option maxHeartbeats 4000000 in
theorem t_X10_beginRun_2 {g : Gw} {x : Xw} (C : Cw g x cX10_beginRun RX10 2 none 1) (hm : x.2.2.2.2.2.2.2.2.2.2.2 = (0, 0)) (k2 : Int32 → Mw → Option (Mw)) (hk2 : ∀ (l1 : Int32) (M : Mw), Sw g x (fun M : Mw => (none, M)) M 0 0 2 [(0, .ref (gA g 50 0 0)), (1, .int l1)] [] (k2 l1 M)) (l1 : Int32) (M : Mw) : Sw g x (fun M : Mw => (none, M)) M 0 0 2 [(0, .ref (gA g 50 0 0)), (1, .int l1)] [] (B_X10_beginRun_2 k2 l1 M) := by
  unfold B_X10_beginRun_2
  refine r_iload_n C 1 dX10_beginRun_2 rfl rfl ?_
  refine r_iconst (v := 5) C dX10_beginRun_3 (by decide) ?_
  refine r_icmp_ge (tgt := 118) C dX10_beginRun_4 (by decide) (fun h1 => ?_) (fun h1 => ?_)
  · refine r_iconst (v := 0) C dX10_beginRun_118 (by decide) ?_
    refine r_istore_n0 (lv' := [(1, .int 0), (0, .ref (gA g 50 0 0))]) C dX10_beginRun_119 rfl (by decide) rfl ?_
    refine r_lv [1, 0] rfl ?_
    exact tl_X10_beginRun_120 C hm FU 0 M
  · refine r_aload_n C 0 dX10_beginRun_7 rfl rfl ?_
    refine gf_50_28 C dX10_beginRun_8 u_1133 in_50 ?_
    refine r_iload_n C 1 dX10_beginRun_11 rfl rfl ?_
    refine r_iconst (v := 0) C dX10_beginRun_12 (by decide) ?_
    refine r_iast C dX10_beginRun_13 in_64 (contW_64 g _ _) (fun M23 h24 => ?_)
    refine r_aload_n C 0 dX10_beginRun_14 rfl rfl ?_
    refine gf_50_29 C dX10_beginRun_15 u_1134 in_50 ?_
    refine r_iload_n C 1 dX10_beginRun_18 rfl rfl ?_
    refine r_iconst (v := (-1)) C dX10_beginRun_19 (by decide) ?_
    refine r_iast C dX10_beginRun_20 in_65 (contW_65 g _ _) (fun M25 h26 => ?_)
    refine r_aload_n C 0 dX10_beginRun_21 rfl rfl ?_
    refine gf_50_30 C dX10_beginRun_22 u_1135 in_50 ?_
    refine r_iload_n C 1 dX10_beginRun_25 rfl rfl ?_
    refine r_iconst (v := 0) C dX10_beginRun_26 (by decide) ?_
    refine r_iast C dX10_beginRun_27 in_66 (contW_66 g _ _) (fun M27 h28 => ?_)
    refine r_aload_n C 0 dX10_beginRun_28 rfl rfl ?_
    refine gf_50_33 C dX10_beginRun_29 u_1138 in_50 ?_
    refine r_iload_n C 1 dX10_beginRun_32 rfl rfl ?_
    refine r_iconst (v := 1) C dX10_beginRun_33 (by decide) ?_
    refine r_iast C dX10_beginRun_34 in_69 (contW_69 g _ _) (fun M29 h30 => ?_)
    refine r_aload_n C 0 dX10_beginRun_35 rfl rfl ?_
    refine gf_50_34 C dX10_beginRun_36 u_1139 in_50 ?_
    refine r_iload_n C 1 dX10_beginRun_39 rfl rfl ?_
    refine r_iconst (v := (-1)) C dX10_beginRun_40 (by decide) ?_
    refine r_iast C dX10_beginRun_41 in_70 (contW_70 g _ _) (fun M31 h32 => ?_)
    refine r_aload_n C 0 dX10_beginRun_42 rfl rfl ?_
    refine gf_50_35 C dX10_beginRun_43 u_1140 in_50 ?_
    refine r_iload_n C 1 dX10_beginRun_46 rfl rfl ?_
    refine r_iconst (v := 0) C dX10_beginRun_47 (by decide) ?_
    refine r_zast C dX10_beginRun_48 in_71 (contW_71 g _ _) (fun M33 h34 => ?_)
    refine r_aload_n C 0 dX10_beginRun_49 rfl rfl ?_
    refine gf_50_36 C dX10_beginRun_50 u_1141 in_50 ?_
    refine r_iload_n C 1 dX10_beginRun_53 rfl rfl ?_
    refine r_iconst (v := 0) C dX10_beginRun_54 (by decide) ?_
    refine r_iast C dX10_beginRun_55 in_72 (contW_72 g _ _) (fun M35 h36 => ?_)
    refine r_aload_n C 0 dX10_beginRun_56 rfl rfl ?_
    refine gf_50_37 C dX10_beginRun_57 u_1142 in_50 ?_
    refine r_iload_n C 1 dX10_beginRun_60 rfl rfl ?_
    refine r_iconst (v := 0) C dX10_beginRun_61 (by decide) ?_
    refine r_iast C dX10_beginRun_62 in_73 (contW_73 g _ _) (fun M37 h38 => ?_)
    refine r_aload_n C 0 dX10_beginRun_63 rfl rfl ?_
    refine gf_50_38 C dX10_beginRun_64 u_1143 in_50 ?_
    refine r_iload_n C 1 dX10_beginRun_67 rfl rfl ?_
    refine r_fconst1 C dX10_beginRun_68 ?_
    refine r_fast C dX10_beginRun_69 in_74 (contW_74 g _ _) (fun M39 h40 => ?_)
    refine r_aload_n C 0 dX10_beginRun_70 rfl rfl ?_
    refine gf_50_39 C dX10_beginRun_71 u_1144 in_50 ?_
    refine r_iload_n C 1 dX10_beginRun_74 rfl rfl ?_
    refine r_iconst (v := 0) C dX10_beginRun_75 (by decide) ?_
    refine r_iast C dX10_beginRun_76 in_75 (contW_75 g _ _) (fun M41 h42 => ?_)
    refine r_aload_n C 0 dX10_beginRun_77 rfl rfl ?_
    refine gf_50_40 C dX10_beginRun_78 u_1145 in_50 ?_
    refine r_iload_n C 1 dX10_beginRun_81 rfl rfl ?_
    refine r_iconst (v := 0) C dX10_beginRun_82 (by decide) ?_
    refine r_zast C dX10_beginRun_83 in_76 (contW_76 g _ _) (fun M43 h44 => ?_)
    refine r_aload_n C 0 dX10_beginRun_84 rfl rfl ?_
    refine gf_50_41 C dX10_beginRun_85 u_1146 in_50 ?_
    refine r_iload_n C 1 dX10_beginRun_88 rfl rfl ?_
    refine r_iconst (v := 0) C dX10_beginRun_89 (by decide) ?_
    refine r_iast C dX10_beginRun_90 in_77 (contW_77 g _ _) (fun M45 h46 => ?_)
    refine r_aload_n C 0 dX10_beginRun_91 rfl rfl ?_
    refine gf_50_42 C dX10_beginRun_92 u_1147 in_50 ?_
    refine r_iload_n C 1 dX10_beginRun_95 rfl rfl ?_
    refine r_iconst (v := (-1)) C dX10_beginRun_96 (by decide) ?_
    refine r_iast C dX10_beginRun_97 in_78 (contW_78 g _ _) (fun M47 h48 => ?_)
    refine r_aload_n C 0 dX10_beginRun_98 rfl rfl ?_
    refine gf_50_44 C dX10_beginRun_99 u_1149 in_50 ?_
    refine r_iload_n C 1 dX10_beginRun_102 rfl rfl ?_
    refine r_dconst0 C dX10_beginRun_103 ?_
    refine r_dast C dX10_beginRun_104 in_80 (contW_80 g _ _) (fun M49 h50 => ?_)
    refine r_aload_n C 0 dX10_beginRun_105 rfl rfl ?_
    refine gf_50_45 C dX10_beginRun_106 u_1150 in_50 ?_
    refine r_iload_n C 1 dX10_beginRun_109 rfl rfl ?_
    refine r_iconst (v := 0) C dX10_beginRun_110 (by decide) ?_
    refine r_iast C dX10_beginRun_111 in_81 (contW_81 g _ _) (fun M51 h52 => ?_)
    refine r_iinc (c := 1) (lv' := fun v53 => [(1, .int v53), (0, .ref (gA g 50 0 0))]) C 1 dX10_beginRun_112 rfl (by decide) (by decide) (fun _ => rfl) (fun v53 => ?_)
    refine r_goto (tgt := 2) C dX10_beginRun_115 (by decide) ?_
    refine r_lv [1, 0] rfl ?_
    exact hk2 v53 M51
set_option maxRecDepth 100000 in
set_option maxHeartbeats 4000000 in
theorem tl_X10_beginRun_2 {g : Gw} {x : Xw} (C : Cw g x cX10_beginRun RX10 2 none 1) (hm : x.2.2.2.2.2.2.2.2.2.2.2 = (0, 0)) (n : Nat) : ∀ (l1 : Int32) (M : Mw), Sw g x (fun M : Mw => (none, M)) M 0 0 2 [(0, .ref (gA g 50 0 0)), (1, .int l1)] [] (it (fun _ _ => none) (B_X10_beginRun_2) n l1 M) := by
  induction n with
  | zero =>
    intro l1 M
    exact r_none
  | succ n ih =>
    intro l1 M
    exact t_X10_beginRun_2 C hm _ ih l1 M
set_option maxRecDepth 100000 in
set_option maxHeartbeats 4000000 in
theorem c_X10_beginRun {g : Gw} {l : Launch} (M : Mw) : Kw g l yX10_beginRun cX10_beginRun 2 none 1 0 0 [.ref (gA g 50 0 0)] M (fun M : Mw => (none, M)) (F_X10_beginRun M) := by
  refine Kw.of (own := RX10) (lv0 := [(0, .ref (gA g 50 0 0))]) (by decide +kernel) rfl (Nat.le_of_ble_eq_true rfl) rfl (fun x C hl hm => ?_)
  subst hl
  unfold F_X10_beginRun
  refine r_iconst (v := 0) C dX10_beginRun_0 (by decide) ?_
  refine r_istore_n0 (lv' := [(1, .int 0), (0, .ref (gA g 50 0 0))]) C dX10_beginRun_1 rfl (by decide) rfl ?_
  refine r_lv [1, 0] rfl ?_
  exact tl_X10_beginRun_2 C hm FU 0 M
def B_X10_begins_85 (k2 : Int32 → Mw → Option (Mw)) (l1 : Int32) (l2 : Int32) (M : Mw) : Option (Mw) :=
  (if inb l2 5 then (if inb l2 5 then (bd (uIw M 66 0 0 l2.toNatClampNeg ((M.1 66 0 0 l2.toNatClampNeg) + 1)) (fun M18 => (if inb l2 5 then (bd (uIw M18 67 0 0 l2.toNatClampNeg 0) (fun M20 => (if inb l2 5 then (bd (uIw M20 68 0 0 l2.toNatClampNeg 0) (fun M22 => (bd (l2 + 1) (fun v24 => (k2 v24 M22))))) else none))) else none))) else none) else none)
def B_X10_begins_2 (l1 : Int32) (k2 : Int32 → Mw → Option (Mw)) (l2 : Int32) (M : Mw) : Option (Mw) :=
  (if (M.1 51 0 0 4) ≤ l2 then some M else (if inb l2 5 then (if l1 < (M.1 64 0 0 l2.toNatClampNeg) then (bd (l2 + 1) (fun v4 => (k2 v4 M))) else ((F_X10_period l2 M).bind (fun v5 => (if v5 = 0 then none else (if (l1 - l1 / v5 * v5) = 0 then (if inb l2 5 then (if (M.1 65 0 0 l2.toNatClampNeg) = (-1) then (if inb l2 5 then (if inb l2 5 then (bd (uIw M 65 0 0 l2.toNatClampNeg (M.1 66 0 0 l2.toNatClampNeg)) (fun M13 => (if inb l2 5 then (if 51 ≤ (M13.1 66 0 0 l2.toNatClampNeg) then (B_X10_begins_85 k2 l1 l2 M13) else (if inb l2 5 then (if inb ((51 * l2) + (M13.1 66 0 0 l2.toNatClampNeg)) 255 then (bd (uIw M13 83 0 0 ((51 * l2) + (M13.1 66 0 0 l2.toNatClampNeg)).toNatClampNeg l1) (fun M26 => (B_X10_begins_85 k2 l1 l2 M26))) else none) else none)) else none))) else none) else none) else (bd (l2 + 1) (fun v28 => (k2 v28 M)))) else none) else (bd (l2 + 1) (fun v9 => (k2 v9 M)))))))) else none))
def F_X10_begins (p1 : Int32) (M : Mw) : Option (Mw) :=
  (it (fun _ _ => none) (B_X10_begins_2 p1) FU 0 M)
set_option maxRecDepth 100000 in
set_option maxHeartbeats 4000000 in
theorem t_X10_begins_85 {g : Gw} {x : Xw} (C : Cw g x cX10_begins RX10 3 none 3) (hm : x.2.2.2.2.2.2.2.2.2.2.2 = (0, 0)) (k2 : Int32 → Mw → Option (Mw)) (l1 : Int32) (l2 : Int32) (hk2 : ∀ (l2 : Int32) (M : Mw), Sw g x (fun M : Mw => (none, M)) M 0 0 2 [(0, .ref (gA g 50 0 0)), (1, .int l1), (2, .int l2)] [] (k2 l2 M)) (M : Mw) : Sw g x (fun M : Mw => (none, M)) M 0 0 85 [(0, .ref (gA g 50 0 0)), (1, .int l1), (2, .int l2)] [] (B_X10_begins_85 k2 l1 l2 M) := by
  unfold B_X10_begins_85
  refine r_aload_n C 0 dX10_begins_85 rfl rfl ?_
  refine gf_50_30 C dX10_begins_86 u_1135 in_50 ?_
  refine r_iload_n C 2 dX10_begins_89 rfl rfl ?_
  refine r_dup2 C rfl rfl dX10_begins_90 ?_
  refine r_iald C dX10_begins_91 in_66 (contW_66 g _ _ _ _ _) (fun h17 => ?_)
  refine r_iconst (v := 1) C dX10_begins_92 (by decide) ?_
  refine r_iadd C dX10_begins_93 ?_
  refine r_iast C dX10_begins_94 in_66 (contW_66 g _ _) (fun M18 h19 => ?_)
  refine r_aload_n C 0 dX10_begins_95 rfl rfl ?_
  refine gf_50_31 C dX10_begins_96 u_1136 in_50 ?_
  refine r_iload_n C 2 dX10_begins_99 rfl rfl ?_
  refine r_iconst (v := 0) C dX10_begins_100 (by decide) ?_
  refine r_iast C dX10_begins_101 in_67 (contW_67 g _ _) (fun M20 h21 => ?_)
  refine r_aload_n C 0 dX10_begins_102 rfl rfl ?_
  refine gf_50_32 C dX10_begins_103 u_1137 in_50 ?_
  refine r_iload_n C 2 dX10_begins_106 rfl rfl ?_
  refine r_iconst (v := 0) C dX10_begins_107 (by decide) ?_
  refine r_iast C dX10_begins_108 in_68 (contW_68 g _ _) (fun M22 h23 => ?_)
  refine r_iinc (c := 1) (lv' := fun v24 => [(2, .int v24), (0, .ref (gA g 50 0 0)), (1, .int l1)]) C 2 dX10_begins_109 rfl (by decide) (by decide) (fun _ => rfl) (fun v24 => ?_)
  refine r_goto (tgt := 2) C dX10_begins_112 (by decide) ?_
  refine r_lv [1, 2, 0] rfl ?_
  exact hk2 v24 M22
set_option maxRecDepth 100000 in
set_option maxHeartbeats 4000000 in
theorem t_X10_begins_2 {g : Gw} {x : Xw} (C : Cw g x cX10_begins RX10 3 none 3) (hm : x.2.2.2.2.2.2.2.2.2.2.2 = (0, 0)) (l1 : Int32) (k2 : Int32 → Mw → Option (Mw)) (hk2 : ∀ (l2 : Int32) (M : Mw), Sw g x (fun M : Mw => (none, M)) M 0 0 2 [(0, .ref (gA g 50 0 0)), (1, .int l1), (2, .int l2)] [] (k2 l2 M)) (l2 : Int32) (M : Mw) : Sw g x (fun M : Mw => (none, M)) M 0 0 2 [(0, .ref (gA g 50 0 0)), (1, .int l1), (2, .int l2)] [] (B_X10_begins_2 l1 k2 l2 M) := by
  unfold B_X10_begins_2
  refine r_iload_n C 2 dX10_begins_2 rfl rfl ?_
  refine r_aload_n C 0 dX10_begins_3 rfl rfl ?_
  refine gf_50_1 C dX10_begins_4 u_1106 in_50 ?_
  refine r_iconst (v := 4) C dX10_begins_7 (by decide) ?_
  refine r_ialdc C dX10_begins_8 in_51 (contW_51 g _ _ _ _ _) (by decide) (j := 4) (by decide) ?_
  refine r_icmp_ge (tgt := 115) C dX10_begins_9 (by decide) (fun h1 => ?_) (fun h1 => ?_)
  · exact r_vret C dX10_begins_115 rfl rfl (xk0 hm) (xn0 hm)
  · refine r_iload_n C 1 dX10_begins_12 rfl rfl ?_
    refine r_aload_n C 0 dX10_begins_13 rfl rfl ?_
    refine gf_50_28 C dX10_begins_14 u_1133 in_50 ?_
    refine r_iload_n C 2 dX10_begins_17 rfl rfl ?_
    refine r_iald C dX10_begins_18 in_64 (contW_64 g _ _ _ _ _) (fun h2 => ?_)
    refine r_icmp_lt (tgt := 109) C dX10_begins_19 (by decide) (fun h3 => ?_) (fun h3 => ?_)
    · refine r_iinc (c := 1) (lv' := fun v4 => [(2, .int v4), (0, .ref (gA g 50 0 0)), (1, .int l1)]) C 2 dX10_begins_109 rfl (by decide) (by decide) (fun _ => rfl) (fun v4 => ?_)
      refine r_goto (tgt := 2) C dX10_begins_112 (by decide) ?_
      refine r_lv [1, 2, 0] rfl ?_
      exact hk2 v4 M
    · refine r_iload_n C 1 dX10_begins_22 rfl rfl ?_
      refine r_aload_n C 0 dX10_begins_23 rfl rfl ?_
      refine r_iload_n C 2 dX10_begins_24 rfl rfl ?_
      refine r_callVRi (rest := [.int l1]) C (c_X10_period l2 M) dX10_begins_25 u_1332 in_50 (contW_50 g _ _ _ _ _) rfl u_1333 u_79 mi_X10_period (by decide) rfl rfl (Nat.le_of_ble_eq_true rfl) (xk1 hm (by decide)) (xn1 hm (by decide)) (fun v5 h6 => ?_)
      refine r_irem C dX10_begins_28 (fun h7 => ?_)
      refine r_if_ne (tgt := 109) C dX10_begins_29 (by decide) (fun h8 => ?_) (fun h8 => ?_)
      · refine r_aload_n C 0 dX10_begins_32 rfl rfl ?_
        refine gf_50_29 C dX10_begins_33 u_1134 in_50 ?_
        refine r_iload_n C 2 dX10_begins_36 rfl rfl ?_
        refine r_iald C dX10_begins_37 in_65 (contW_65 g _ _ _ _ _) (fun h10 => ?_)
        refine r_iconst (v := (-1)) C dX10_begins_38 (by decide) ?_
        refine r_icmp_eq (tgt := 45) C dX10_begins_39 (by decide) (fun h11 => ?_) (fun h11 => ?_)
        · refine r_aload_n C 0 dX10_begins_45 rfl rfl ?_
          refine gf_50_29 C dX10_begins_46 u_1134 in_50 ?_
          refine r_iload_n C 2 dX10_begins_49 rfl rfl ?_
          refine r_aload_n C 0 dX10_begins_50 rfl rfl ?_
          refine gf_50_30 C dX10_begins_51 u_1135 in_50 ?_
          refine r_iload_n C 2 dX10_begins_54 rfl rfl ?_
          refine r_iald C dX10_begins_55 in_66 (contW_66 g _ _ _ _ _) (fun h12 => ?_)
          refine r_iast C dX10_begins_56 in_65 (contW_65 g _ _) (fun M13 h14 => ?_)
          refine r_aload_n C 0 dX10_begins_57 rfl rfl ?_
          refine gf_50_30 C dX10_begins_58 u_1135 in_50 ?_
          refine r_iload_n C 2 dX10_begins_61 rfl rfl ?_
          refine r_iald C dX10_begins_62 in_66 (contW_66 g _ _ _ _ _) (fun h15 => ?_)
          refine r_bipush (v := 51) C dX10_begins_63 (by decide) ?_
          refine r_icmp_ge (tgt := 85) C dX10_begins_65 (by decide) (fun h16 => ?_) (fun h16 => ?_)
          · exact t_X10_begins_85 C hm k2 l1 l2 hk2 M13
          · refine r_aload_n C 0 dX10_begins_68 rfl rfl ?_
            refine gf_50_47 C dX10_begins_69 u_1152 in_50 ?_
            refine r_bipush (v := 51) C dX10_begins_72 (by decide) ?_
            refine r_iload_n C 2 dX10_begins_74 rfl rfl ?_
            refine r_imul C dX10_begins_75 ?_
            refine r_aload_n C 0 dX10_begins_76 rfl rfl ?_
            refine gf_50_30 C dX10_begins_77 u_1135 in_50 ?_
            refine r_iload_n C 2 dX10_begins_80 rfl rfl ?_
            refine r_iald C dX10_begins_81 in_66 (contW_66 g _ _ _ _ _) (fun h25 => ?_)
            refine r_iadd C dX10_begins_82 ?_
            refine r_iload_n C 1 dX10_begins_83 rfl rfl ?_
            refine r_iast C dX10_begins_84 in_83 (contW_83 g _ _) (fun M26 h27 => ?_)
            exact t_X10_begins_85 C hm k2 l1 l2 hk2 M26
        · refine r_goto (tgt := 109) C dX10_begins_42 (by decide) ?_
          refine r_iinc (c := 1) (lv' := fun v28 => [(2, .int v28), (0, .ref (gA g 50 0 0)), (1, .int l1)]) C 2 dX10_begins_109 rfl (by decide) (by decide) (fun _ => rfl) (fun v28 => ?_)
          refine r_goto (tgt := 2) C dX10_begins_112 (by decide) ?_
          refine r_lv [1, 2, 0] rfl ?_
          exact hk2 v28 M
      · refine r_iinc (c := 1) (lv' := fun v9 => [(2, .int v9), (0, .ref (gA g 50 0 0)), (1, .int l1)]) C 2 dX10_begins_109 rfl (by decide) (by decide) (fun _ => rfl) (fun v9 => ?_)
        refine r_goto (tgt := 2) C dX10_begins_112 (by decide) ?_
        refine r_lv [1, 2, 0] rfl ?_
        exact hk2 v9 M
set_option maxRecDepth 100000 in
set_option maxHeartbeats 4000000 in
theorem tl_X10_begins_2 {g : Gw} {x : Xw} (C : Cw g x cX10_begins RX10 3 none 3) (hm : x.2.2.2.2.2.2.2.2.2.2.2 = (0, 0)) (l1 : Int32) (n : Nat) : ∀ (l2 : Int32) (M : Mw), Sw g x (fun M : Mw => (none, M)) M 0 0 2 [(0, .ref (gA g 50 0 0)), (1, .int l1), (2, .int l2)] [] (it (fun _ _ => none) (B_X10_begins_2 l1) n l2 M) := by
  induction n with
  | zero =>
    intro l2 M
    exact r_none
  | succ n ih =>
    intro l2 M
    exact t_X10_begins_2 C hm l1 _ ih l2 M
set_option maxRecDepth 100000 in
set_option maxHeartbeats 4000000 in
theorem c_X10_begins {g : Gw} {l : Launch} (p1 : Int32) (M : Mw) : Kw g l yX10_begins cX10_begins 3 none 3 0 0 [.ref (gA g 50 0 0), .int p1] M (fun M : Mw => (none, M)) (F_X10_begins p1 M) := by
  refine Kw.of (own := RX10) (lv0 := [(0, .ref (gA g 50 0 0)), (1, .int p1)]) (by decide +kernel) rfl (Nat.le_of_ble_eq_true rfl) rfl (fun x C hl hm => ?_)
  subst hl
  unfold F_X10_begins
  refine r_iconst (v := 0) C dX10_begins_0 (by decide) ?_
  refine r_istore_n0 (lv' := [(2, .int 0), (0, .ref (gA g 50 0 0)), (1, .int p1)]) C dX10_begins_1 rfl (by decide) rfl ?_
  refine r_lv [1, 2, 0] rfl ?_
  exact tl_X10_begins_2 C hm p1 FU 0 M
def F_X10_injections (M : Mw) : Option (Int32) :=
  ((F_X10_many M).bind (fun v1 => some (v1 + (M.1 50 0 0 27))))
set_option maxRecDepth 100000 in
set_option maxHeartbeats 4000000 in
theorem c_X10_injections {g : Gw} {l : Launch} (M : Mw) : Kw g l yX10_injections cX10_injections 1 (some .int) 2 0 0 [.ref (gA g 50 0 0)] M (fun v : Int32 => (some (.int v), M)) (F_X10_injections M) := by
  refine Kw.of (own := RX10) (lv0 := [(0, .ref (gA g 50 0 0))]) (by decide +kernel) rfl (Nat.le_of_ble_eq_true rfl) rfl (fun x C hl hm => ?_)
  subst hl
  unfold F_X10_injections
  refine r_aload_n C 0 dX10_injections_0 rfl rfl ?_
  refine r_callVRi (rest := []) C (c_X10_many M) dX10_injections_1 u_1300 in_50 (contW_50 g _ _ _ _ _) rfl u_1301 u_73 mi_X10_many (by decide) rfl rfl (Nat.le_of_ble_eq_true rfl) (xk1 hm (by decide)) (xn1 hm (by decide)) (fun v1 h2 => ?_)
  refine r_aload_n C 0 dX10_injections_4 rfl rfl ?_
  refine gf_50_27 C dX10_injections_5 u_1132 in_50 ?_
  refine r_iadd C dX10_injections_8 ?_
  exact r_iret C dX10_injections_9 rfl rfl (xk0 hm) (xn0 hm)
def B_X10_changeAt_2 (l1 : Int32) (l2 : Int32) (M : Mw) (k2 : Int32 → Option (Int32)) (l3 : Int32) : Option (Int32) :=
  ((F_X10_injections M).bind (fun v1 => (if v1 ≤ l3 then some (-1) else (if l3 = (M.1 50 0 0 23) then (bd (l3 + 1) (fun v5 => (k2 v5))) else ((F_X10_of l3 0 M).bind (fun v6 => (if 3 < v6 then (bd (l3 + 1) (fun v9 => (k2 v9))) else ((F_X10_of l3 1 M).bind (fun v10 => (if v10 = l1 then ((F_X10_of l3 3 M).bind (fun v14 => (if v14 = l2 then (if inb l1 5 then ((F_X10_of l3 2 M).bind (fun v18 => ((F_X10_of l3 2 M).bind (fun v20 => ((F_X10_of l3 4 M).bind (fun v22 => ((F_X10_in (((M.1 65 0 0 l1.toNatClampNeg)).toInt64) ((v18).toInt64) ((((v20 + v22) - 1)).toInt64) M).bind (fun v24 => (if v24 = 0 then (bd (l3 + 1) (fun v27 => (k2 v27))) else ((F_X10_of l3 0 M).bind (fun v28 => some v28))))))))))) else none) else (bd (l3 + 1) (fun v30 => (k2 v30)))))) else (bd (l3 + 1) (fun v13 => (k2 v13)))))))))))))
def F_X10_changeAt (p1 : Int32) (p2 : Int32) (M : Mw) : Option (Int32) :=
  (it (fun _ => none) (B_X10_changeAt_2 p1 p2 M) FU 0)
set_option maxRecDepth 100000 in
set_option maxHeartbeats 4000000 in
theorem t_X10_changeAt_2 {g : Gw} {x : Xw} (C : Cw g x cX10_changeAt RX10 4 (some .int) 3) (hm : x.2.2.2.2.2.2.2.2.2.2.2 = (0, 0)) (M : Mw) (l1 : Int32) (l2 : Int32) (k2 : Int32 → Option (Int32)) (hk2 : ∀ (l3 : Int32), Sw g x (fun v : Int32 => (some (.int v), M)) M 0 0 2 [(0, .ref (gA g 50 0 0)), (1, .int l1), (2, .int l2), (3, .int l3)] [] (k2 l3)) (l3 : Int32) : Sw g x (fun v : Int32 => (some (.int v), M)) M 0 0 2 [(0, .ref (gA g 50 0 0)), (1, .int l1), (2, .int l2), (3, .int l3)] [] (B_X10_changeAt_2 l1 l2 M k2 l3) := by
  unfold B_X10_changeAt_2
  refine r_iload_n C 3 dX10_changeAt_2 rfl rfl ?_
  refine r_aload_n C 0 dX10_changeAt_3 rfl rfl ?_
  refine r_callVRi (rest := [.int l3]) C (c_X10_injections M) dX10_changeAt_4 u_1439 in_50 (contW_50 g _ _ _ _ _) rfl u_1440 u_96 mi_X10_injections (by decide) rfl rfl (Nat.le_of_ble_eq_true rfl) (xk1 hm (by decide)) (xn1 hm (by decide)) (fun v1 h2 => ?_)
  refine r_icmp_ge (tgt := 100) C dX10_changeAt_7 (by decide) (fun h3 => ?_) (fun h3 => ?_)
  · refine r_iconst (v := (-1)) C dX10_changeAt_100 (by decide) ?_
    exact r_iret C dX10_changeAt_101 rfl rfl (xk0 hm) (xn0 hm)
  · refine r_iload_n C 3 dX10_changeAt_10 rfl rfl ?_
    refine r_aload_n C 0 dX10_changeAt_11 rfl rfl ?_
    refine gf_50_23 C dX10_changeAt_12 u_1128 in_50 ?_
    refine r_icmp_eq (tgt := 94) C dX10_changeAt_15 (by decide) (fun h4 => ?_) (fun h4 => ?_)
    · refine r_iinc (c := 1) (lv' := fun v5 => [(3, .int v5), (0, .ref (gA g 50 0 0)), (1, .int l1), (2, .int l2)]) C 3 dX10_changeAt_94 rfl (by decide) (by decide) (fun _ => rfl) (fun v5 => ?_)
      refine r_goto (tgt := 2) C dX10_changeAt_97 (by decide) ?_
      refine r_lv [1, 2, 3, 0] rfl ?_
      exact hk2 v5
    · refine r_aload_n C 0 dX10_changeAt_18 rfl rfl ?_
      refine r_iload_n C 3 dX10_changeAt_19 rfl rfl ?_
      refine r_iconst (v := 0) C dX10_changeAt_20 (by decide) ?_
      refine r_callVRi (rest := []) C (c_X10_of l3 0 M) dX10_changeAt_21 u_1304 in_50 (contW_50 g _ _ _ _ _) rfl u_1305 u_74 mi_X10_of (by decide) rfl rfl (Nat.le_of_ble_eq_true rfl) (xk1 hm (by decide)) (xn1 hm (by decide)) (fun v6 h7 => ?_)
      refine r_iconst (v := 3) C dX10_changeAt_24 (by decide) ?_
      refine r_icmp_gt (tgt := 94) C dX10_changeAt_25 (by decide) (fun h8 => ?_) (fun h8 => ?_)
      · refine r_iinc (c := 1) (lv' := fun v9 => [(3, .int v9), (0, .ref (gA g 50 0 0)), (1, .int l1), (2, .int l2)]) C 3 dX10_changeAt_94 rfl (by decide) (by decide) (fun _ => rfl) (fun v9 => ?_)
        refine r_goto (tgt := 2) C dX10_changeAt_97 (by decide) ?_
        refine r_lv [1, 2, 3, 0] rfl ?_
        exact hk2 v9
      · refine r_aload_n C 0 dX10_changeAt_28 rfl rfl ?_
        refine r_iload_n C 3 dX10_changeAt_29 rfl rfl ?_
        refine r_iconst (v := 1) C dX10_changeAt_30 (by decide) ?_
        refine r_callVRi (rest := []) C (c_X10_of l3 1 M) dX10_changeAt_31 u_1304 in_50 (contW_50 g _ _ _ _ _) rfl u_1305 u_74 mi_X10_of (by decide) rfl rfl (Nat.le_of_ble_eq_true rfl) (xk1 hm (by decide)) (xn1 hm (by decide)) (fun v10 h11 => ?_)
        refine r_iload_n C 1 dX10_changeAt_34 rfl rfl ?_
        refine r_icmp_ne (tgt := 94) C dX10_changeAt_35 (by decide) (fun h12 => ?_) (fun h12 => ?_)
        · refine r_aload_n C 0 dX10_changeAt_38 rfl rfl ?_
          refine r_iload_n C 3 dX10_changeAt_39 rfl rfl ?_
          refine r_iconst (v := 3) C dX10_changeAt_40 (by decide) ?_
          refine r_callVRi (rest := []) C (c_X10_of l3 3 M) dX10_changeAt_41 u_1304 in_50 (contW_50 g _ _ _ _ _) rfl u_1305 u_74 mi_X10_of (by decide) rfl rfl (Nat.le_of_ble_eq_true rfl) (xk1 hm (by decide)) (xn1 hm (by decide)) (fun v14 h15 => ?_)
          refine r_iload_n C 2 dX10_changeAt_44 rfl rfl ?_
          refine r_icmp_eq (tgt := 51) C dX10_changeAt_45 (by decide) (fun h16 => ?_) (fun h16 => ?_)
          · refine r_aload_n C 0 dX10_changeAt_51 rfl rfl ?_
            refine gf_50_29 C dX10_changeAt_52 u_1134 in_50 ?_
            refine r_iload_n C 1 dX10_changeAt_55 rfl rfl ?_
            refine r_iald C dX10_changeAt_56 in_65 (contW_65 g _ _ _ _ _) (fun h17 => ?_)
            refine r_i2l C dX10_changeAt_57 ?_
            refine r_aload_n C 0 dX10_changeAt_58 rfl rfl ?_
            refine r_iload_n C 3 dX10_changeAt_59 rfl rfl ?_
            refine r_iconst (v := 2) C dX10_changeAt_60 (by decide) ?_
            refine r_callVRi (rest := [.long (((M.1 65 0 0 l1.toNatClampNeg)).toInt64)]) C (c_X10_of l3 2 M) dX10_changeAt_61 u_1304 in_50 (contW_50 g _ _ _ _ _) rfl u_1305 u_74 mi_X10_of (by decide) rfl rfl (Nat.le_of_ble_eq_true rfl) (xk1 hm (by decide)) (xn1 hm (by decide)) (fun v18 h19 => ?_)
            refine r_i2l C dX10_changeAt_64 ?_
            refine r_aload_n C 0 dX10_changeAt_65 rfl rfl ?_
            refine r_iload_n C 3 dX10_changeAt_66 rfl rfl ?_
            refine r_iconst (v := 2) C dX10_changeAt_67 (by decide) ?_
            refine r_callVRi (rest := [.long ((v18).toInt64), .long (((M.1 65 0 0 l1.toNatClampNeg)).toInt64)]) C (c_X10_of l3 2 M) dX10_changeAt_68 u_1304 in_50 (contW_50 g _ _ _ _ _) rfl u_1305 u_74 mi_X10_of (by decide) rfl rfl (Nat.le_of_ble_eq_true rfl) (xk1 hm (by decide)) (xn1 hm (by decide)) (fun v20 h21 => ?_)
            refine r_aload_n C 0 dX10_changeAt_71 rfl rfl ?_
            refine r_iload_n C 3 dX10_changeAt_72 rfl rfl ?_
            refine r_iconst (v := 4) C dX10_changeAt_73 (by decide) ?_
            refine r_callVRi (rest := [.int v20, .long ((v18).toInt64), .long (((M.1 65 0 0 l1.toNatClampNeg)).toInt64)]) C (c_X10_of l3 4 M) dX10_changeAt_74 u_1304 in_50 (contW_50 g _ _ _ _ _) rfl u_1305 u_74 mi_X10_of (by decide) rfl rfl (Nat.le_of_ble_eq_true rfl) (xk1 hm (by decide)) (xn1 hm (by decide)) (fun v22 h23 => ?_)
            refine r_iadd C dX10_changeAt_77 ?_
            refine r_iconst (v := 1) C dX10_changeAt_78 (by decide) ?_
            refine r_isub C dX10_changeAt_79 ?_
            refine r_i2l C dX10_changeAt_80 ?_
            refine r_callSRi (rest := []) C (c_X10_in (((M.1 65 0 0 l1.toNatClampNeg)).toInt64) ((v18).toInt64) ((((v20 + v22) - 1)).toInt64) M) dX10_changeAt_81 u_1174 u_1175 mi_X10_in (by decide) rfl rfl (Nat.le_of_ble_eq_true rfl) (xk1 hm (by decide)) (xn1 hm (by decide)) (fun v24 h25 => ?_)
            refine r_if_eq (tgt := 94) C dX10_changeAt_84 (by decide) (fun h26 => ?_) (fun h26 => ?_)
            · refine r_iinc (c := 1) (lv' := fun v27 => [(3, .int v27), (0, .ref (gA g 50 0 0)), (1, .int l1), (2, .int l2)]) C 3 dX10_changeAt_94 rfl (by decide) (by decide) (fun _ => rfl) (fun v27 => ?_)
              refine r_goto (tgt := 2) C dX10_changeAt_97 (by decide) ?_
              refine r_lv [1, 2, 3, 0] rfl ?_
              exact hk2 v27
            · refine r_aload_n C 0 dX10_changeAt_87 rfl rfl ?_
              refine r_iload_n C 3 dX10_changeAt_88 rfl rfl ?_
              refine r_iconst (v := 0) C dX10_changeAt_89 (by decide) ?_
              refine r_callVRi (rest := []) C (c_X10_of l3 0 M) dX10_changeAt_90 u_1304 in_50 (contW_50 g _ _ _ _ _) rfl u_1305 u_74 mi_X10_of (by decide) rfl rfl (Nat.le_of_ble_eq_true rfl) (xk1 hm (by decide)) (xn1 hm (by decide)) (fun v28 h29 => ?_)
              exact r_iret C dX10_changeAt_93 rfl rfl (xk0 hm) (xn0 hm)
          · refine r_goto (tgt := 94) C dX10_changeAt_48 (by decide) ?_
            refine r_iinc (c := 1) (lv' := fun v30 => [(3, .int v30), (0, .ref (gA g 50 0 0)), (1, .int l1), (2, .int l2)]) C 3 dX10_changeAt_94 rfl (by decide) (by decide) (fun _ => rfl) (fun v30 => ?_)
            refine r_goto (tgt := 2) C dX10_changeAt_97 (by decide) ?_
            refine r_lv [1, 2, 3, 0] rfl ?_
            exact hk2 v30
        · refine r_iinc (c := 1) (lv' := fun v13 => [(3, .int v13), (0, .ref (gA g 50 0 0)), (1, .int l1), (2, .int l2)]) C 3 dX10_changeAt_94 rfl (by decide) (by decide) (fun _ => rfl) (fun v13 => ?_)
          refine r_goto (tgt := 2) C dX10_changeAt_97 (by decide) ?_
          refine r_lv [1, 2, 3, 0] rfl ?_
          exact hk2 v13
set_option maxRecDepth 100000 in
set_option maxHeartbeats 4000000 in
theorem tl_X10_changeAt_2 {g : Gw} {x : Xw} (C : Cw g x cX10_changeAt RX10 4 (some .int) 3) (hm : x.2.2.2.2.2.2.2.2.2.2.2 = (0, 0)) (M : Mw) (l1 : Int32) (l2 : Int32) (n : Nat) : ∀ (l3 : Int32), Sw g x (fun v : Int32 => (some (.int v), M)) M 0 0 2 [(0, .ref (gA g 50 0 0)), (1, .int l1), (2, .int l2), (3, .int l3)] [] (it (fun _ => none) (B_X10_changeAt_2 l1 l2 M) n l3) := by
  induction n with
  | zero =>
    intro l3
    exact r_none
  | succ n ih =>
    intro l3
    exact t_X10_changeAt_2 C hm M l1 l2 _ ih l3
set_option maxRecDepth 100000 in
set_option maxHeartbeats 4000000 in
theorem c_X10_changeAt {g : Gw} {l : Launch} (p1 : Int32) (p2 : Int32) (M : Mw) : Kw g l yX10_changeAt cX10_changeAt 4 (some .int) 3 0 0 [.ref (gA g 50 0 0), .int p1, .int p2] M (fun v : Int32 => (some (.int v), M)) (F_X10_changeAt p1 p2 M) := by
  refine Kw.of (own := RX10) (lv0 := [(0, .ref (gA g 50 0 0)), (1, .int p1), (2, .int p2)]) (by decide +kernel) rfl (Nat.le_of_ble_eq_true rfl) rfl (fun x C hl hm => ?_)
  subst hl
  unfold F_X10_changeAt
  refine r_iconst (v := 0) C dX10_changeAt_0 (by decide) ?_
  refine r_istore_n0 (lv' := [(3, .int 0), (0, .ref (gA g 50 0 0)), (1, .int p1), (2, .int p2)]) C dX10_changeAt_1 rfl (by decide) rfl ?_
  refine r_lv [1, 2, 3, 0] rfl ?_
  exact tl_X10_changeAt_2 C hm M p1 p2 FU 0
def B_X10_whoHas_2 (M : Mw) (k2 : Int32 → Option (Int32)) (l1 : Int32) : Option (Int32) :=
  (if (M.1 51 0 0 4) ≤ l1 then some (-1) else (if inb l1 5 then (if (M.1 65 0 0 l1.toNatClampNeg) = (-1) then (bd (l1 + 1) (fun v4 => (k2 v4))) else (if inb l1 5 then ((F_X10_changeAt l1 (M.1 67 0 0 l1.toNatClampNeg) M).bind (fun v6 => (if v6 = 1 then (bd (l1 + 1) (fun v9 => (k2 v9))) else some l1))) else none)) else none))
def F_X10_whoHas (M : Mw) : Option (Int32) :=
  (it (fun _ => none) (B_X10_whoHas_2 M) FU 0)
set_option maxRecDepth 100000 in
set_option maxHeartbeats 4000000 in
theorem t_X10_whoHas_2 {g : Gw} {x : Xw} (C : Cw g x cX10_whoHas RX10 2 (some .int) 4) (hm : x.2.2.2.2.2.2.2.2.2.2.2 = (0, 0)) (M : Mw) (k2 : Int32 → Option (Int32)) (hk2 : ∀ (l1 : Int32), Sw g x (fun v : Int32 => (some (.int v), M)) M 0 0 2 [(0, .ref (gA g 50 0 0)), (1, .int l1)] [] (k2 l1)) (l1 : Int32) : Sw g x (fun v : Int32 => (some (.int v), M)) M 0 0 2 [(0, .ref (gA g 50 0 0)), (1, .int l1)] [] (B_X10_whoHas_2 M k2 l1) := by
  unfold B_X10_whoHas_2
  refine r_iload_n C 1 dX10_whoHas_2 rfl rfl ?_
  refine r_aload_n C 0 dX10_whoHas_3 rfl rfl ?_
  refine gf_50_1 C dX10_whoHas_4 u_1106 in_50 ?_
  refine r_iconst (v := 4) C dX10_whoHas_7 (by decide) ?_
  refine r_ialdc C dX10_whoHas_8 in_51 (contW_51 g _ _ _ _ _) (by decide) (j := 4) (by decide) ?_
  refine r_icmp_ge (tgt := 45) C dX10_whoHas_9 (by decide) (fun h1 => ?_) (fun h1 => ?_)
  · refine r_iconst (v := (-1)) C dX10_whoHas_45 (by decide) ?_
    exact r_iret C dX10_whoHas_46 rfl rfl (xk0 hm) (xn0 hm)
  · refine r_aload_n C 0 dX10_whoHas_12 rfl rfl ?_
    refine gf_50_29 C dX10_whoHas_13 u_1134 in_50 ?_
    refine r_iload_n C 1 dX10_whoHas_16 rfl rfl ?_
    refine r_iald C dX10_whoHas_17 in_65 (contW_65 g _ _ _ _ _) (fun h2 => ?_)
    refine r_iconst (v := (-1)) C dX10_whoHas_18 (by decide) ?_
    refine r_icmp_eq (tgt := 39) C dX10_whoHas_19 (by decide) (fun h3 => ?_) (fun h3 => ?_)
    · refine r_iinc (c := 1) (lv' := fun v4 => [(1, .int v4), (0, .ref (gA g 50 0 0))]) C 1 dX10_whoHas_39 rfl (by decide) (by decide) (fun _ => rfl) (fun v4 => ?_)
      refine r_goto (tgt := 2) C dX10_whoHas_42 (by decide) ?_
      refine r_lv [1, 0] rfl ?_
      exact hk2 v4
    · refine r_aload_n C 0 dX10_whoHas_22 rfl rfl ?_
      refine r_iload_n C 1 dX10_whoHas_23 rfl rfl ?_
      refine r_aload_n C 0 dX10_whoHas_24 rfl rfl ?_
      refine gf_50_31 C dX10_whoHas_25 u_1136 in_50 ?_
      refine r_iload_n C 1 dX10_whoHas_28 rfl rfl ?_
      refine r_iald C dX10_whoHas_29 in_67 (contW_67 g _ _ _ _ _) (fun h5 => ?_)
      refine r_callVRi (rest := []) C (c_X10_changeAt l1 (M.1 67 0 0 l1.toNatClampNeg) M) dX10_whoHas_30 u_1436 in_50 (contW_50 g _ _ _ _ _) rfl u_1437 u_95 mi_X10_changeAt (by decide) rfl rfl (Nat.le_of_ble_eq_true rfl) (xk1 hm (by decide)) (xn1 hm (by decide)) (fun v6 h7 => ?_)
      refine r_iconst (v := 1) C dX10_whoHas_33 (by decide) ?_
      refine r_icmp_eq (tgt := 39) C dX10_whoHas_34 (by decide) (fun h8 => ?_) (fun h8 => ?_)
      · refine r_iinc (c := 1) (lv' := fun v9 => [(1, .int v9), (0, .ref (gA g 50 0 0))]) C 1 dX10_whoHas_39 rfl (by decide) (by decide) (fun _ => rfl) (fun v9 => ?_)
        refine r_goto (tgt := 2) C dX10_whoHas_42 (by decide) ?_
        refine r_lv [1, 0] rfl ?_
        exact hk2 v9
      · refine r_iload_n C 1 dX10_whoHas_37 rfl rfl ?_
        exact r_iret C dX10_whoHas_38 rfl rfl (xk0 hm) (xn0 hm)
set_option maxRecDepth 100000 in
set_option maxHeartbeats 4000000 in
theorem tl_X10_whoHas_2 {g : Gw} {x : Xw} (C : Cw g x cX10_whoHas RX10 2 (some .int) 4) (hm : x.2.2.2.2.2.2.2.2.2.2.2 = (0, 0)) (M : Mw) (n : Nat) : ∀ (l1 : Int32), Sw g x (fun v : Int32 => (some (.int v), M)) M 0 0 2 [(0, .ref (gA g 50 0 0)), (1, .int l1)] [] (it (fun _ => none) (B_X10_whoHas_2 M) n l1) := by
  induction n with
  | zero =>
    intro l1
    exact r_none
  | succ n ih =>
    intro l1
    exact t_X10_whoHas_2 C hm M _ ih l1
set_option maxRecDepth 100000 in
set_option maxHeartbeats 4000000 in
theorem c_X10_whoHas {g : Gw} {l : Launch} (M : Mw) : Kw g l yX10_whoHas cX10_whoHas 2 (some .int) 4 0 0 [.ref (gA g 50 0 0)] M (fun v : Int32 => (some (.int v), M)) (F_X10_whoHas M) := by
  refine Kw.of (own := RX10) (lv0 := [(0, .ref (gA g 50 0 0))]) (by decide +kernel) rfl (Nat.le_of_ble_eq_true rfl) rfl (fun x C hl hm => ?_)
  subst hl
  unfold F_X10_whoHas
  refine r_iconst (v := 0) C dX10_whoHas_0 (by decide) ?_
  refine r_istore_n0 (lv' := [(1, .int 0), (0, .ref (gA g 50 0 0))]) C dX10_whoHas_1 rfl (by decide) rfl ?_
  refine r_lv [1, 0] rfl ?_
  exact tl_X10_whoHas_2 C hm M FU 0
