def F_X10_isWatcher (p1 : Int32) (M : Mw) : Option (Int32) :=
  ((F_X10_in ((p1).toInt64) 0 ((((M.1 51 0 0 3) - 1)).toInt64) M).bind (fun v1 => (if bz v1 then some v1 else none)))
set_option maxRecDepth 100000 in
set_option maxHeartbeats 4000000 in
theorem c_X10_isWatcher {g : Gw} {l : Launch} (p1 : Int32) (M : Mw) : Kw g l yX10_isWatcher cX10_isWatcher 2 (some .boolean) 2 0 0 [.ref (gA g 50 0 0), .int p1] M (fun v : Int32 => (some (.int v), M)) (F_X10_isWatcher p1 M) := by
  refine Kw.of (own := RX10) (lv0 := [(0, .ref (gA g 50 0 0)), (1, .int p1)]) (by decide +kernel) rfl (Nat.le_of_ble_eq_true rfl) rfl (fun x C hl hm => ?_)
  subst hl
  unfold F_X10_isWatcher
  refine r_iload_n C 1 dX10_isWatcher_0 rfl rfl ?_
  refine r_i2l C dX10_isWatcher_1 ?_
  refine r_lconst (v := 0) C dX10_isWatcher_2 (by decide) ?_
  refine r_aload_n C 0 dX10_isWatcher_3 rfl rfl ?_
  refine gf_50_1 C dX10_isWatcher_4 u_1106 in_50 ?_
  refine r_iconst (v := 3) C dX10_isWatcher_7 (by decide) ?_
  refine r_ialdc C dX10_isWatcher_8 in_51 (contW_51 g _ _ _ _ _) (by decide) (j := 3) (by decide) ?_
  refine r_iconst (v := 1) C dX10_isWatcher_9 (by decide) ?_
  refine r_isub C dX10_isWatcher_10 ?_
  refine r_i2l C dX10_isWatcher_11 ?_
  refine r_callSRi (rest := []) C (c_X10_in ((p1).toInt64) 0 ((((M.1 51 0 0 3) - 1)).toInt64) M) dX10_isWatcher_12 u_1174 u_1175 mi_X10_in (by decide) rfl rfl (Nat.le_of_ble_eq_true rfl) (xk1 hm (by decide)) (xn1 hm (by decide)) (fun v1 h2 => ?_)
  exact r_zret C dX10_isWatcher_15 rfl rfl (xk0 hm) (xn0 hm)
def F_X10_watcher (p1 : Int32) (M : Mw) : Option (Int32) :=
  ((F_X10_isWatcher p1 M).bind (fun v1 => (if v1 = 0 then some (-2) else (if inb (8 + p1) 201 then some (M.1 51 0 0 (8 + p1).toNatClampNeg) else none))))
set_option maxRecDepth 100000 in
set_option maxHeartbeats 4000000 in
theorem c_X10_watcher {g : Gw} {l : Launch} (p1 : Int32) (M : Mw) : Kw g l yX10_watcher cX10_watcher 2 (some .int) 3 0 0 [.ref (gA g 50 0 0), .int p1] M (fun v : Int32 => (some (.int v), M)) (F_X10_watcher p1 M) := by
  refine Kw.of (own := RX10) (lv0 := [(0, .ref (gA g 50 0 0)), (1, .int p1)]) (by decide +kernel) rfl (Nat.le_of_ble_eq_true rfl) rfl (fun x C hl hm => ?_)
  subst hl
  unfold F_X10_watcher
  refine r_aload_n C 0 dX10_watcher_0 rfl rfl ?_
  refine r_iload_n C 1 dX10_watcher_1 rfl rfl ?_
  refine r_callVRi (rest := []) C (c_X10_isWatcher p1 M) dX10_watcher_2 u_1293 in_50 (contW_50 g _ _ _ _ _) rfl u_1294 u_72 mi_X10_isWatcher (by decide) rfl rfl (Nat.le_of_ble_eq_true rfl) (xk1 hm (by decide)) (xn1 hm (by decide)) (fun v1 h2 => ?_)
  refine r_if_eq (tgt := 20) C dX10_watcher_5 (by decide) (fun h3 => ?_) (fun h3 => ?_)
  · refine r_bipush (v := (-2)) C dX10_watcher_20 (by decide) ?_
    exact r_iret C dX10_watcher_22 rfl rfl (xk0 hm) (xn0 hm)
  · refine r_aload_n C 0 dX10_watcher_8 rfl rfl ?_
    refine gf_50_1 C dX10_watcher_9 u_1106 in_50 ?_
    refine r_bipush (v := 8) C dX10_watcher_12 (by decide) ?_
    refine r_iload_n C 1 dX10_watcher_14 rfl rfl ?_
    refine r_iadd C dX10_watcher_15 ?_
    refine r_iald C dX10_watcher_16 in_51 (contW_51 g _ _ _ _ _) (fun h4 => ?_)
    refine r_goto (tgt := 22) C dX10_watcher_17 (by decide) ?_
    exact r_iret C dX10_watcher_22 rfl rfl (xk0 hm) (xn0 hm)
def F_X10_many (M : Mw) : Option (Int32) :=
  some ((M.1 51 0 0 5) + (M.1 51 0 0 6))
set_option maxRecDepth 100000 in
set_option maxHeartbeats 4000000 in
theorem c_X10_many {g : Gw} {l : Launch} (M : Mw) : Kw g l yX10_many cX10_many 1 (some .int) 1 0 0 [.ref (gA g 50 0 0)] M (fun v : Int32 => (some (.int v), M)) (F_X10_many M) := by
  refine Kw.of (own := RX10) (lv0 := [(0, .ref (gA g 50 0 0))]) (by decide +kernel) rfl (Nat.le_of_ble_eq_true rfl) rfl (fun x C hl hm => ?_)
  subst hl
  unfold F_X10_many
  refine r_aload_n C 0 dX10_many_0 rfl rfl ?_
  refine gf_50_1 C dX10_many_1 u_1106 in_50 ?_
  refine r_iconst (v := 5) C dX10_many_4 (by decide) ?_
  refine r_ialdc C dX10_many_5 in_51 (contW_51 g _ _ _ _ _) (by decide) (j := 5) (by decide) ?_
  refine r_aload_n C 0 dX10_many_6 rfl rfl ?_
  refine gf_50_1 C dX10_many_7 u_1106 in_50 ?_
  refine r_bipush (v := 6) C dX10_many_10 (by decide) ?_
  refine r_ialdc C dX10_many_12 in_51 (contW_51 g _ _ _ _ _) (by decide) (j := 6) (by decide) ?_
  refine r_iadd C dX10_many_13 ?_
  exact r_iret C dX10_many_14 rfl rfl (xk0 hm) (xn0 hm)
def F_X10_of (p1 : Int32) (p2 : Int32) (M : Mw) : Option (Int32) :=
  (if inb ((106 + (5 * p1)) + p2) 201 then some (M.1 51 0 0 ((106 + (5 * p1)) + p2).toNatClampNeg) else none)
set_option maxRecDepth 100000 in
set_option maxHeartbeats 4000000 in
theorem c_X10_of {g : Gw} {l : Launch} (p1 : Int32) (p2 : Int32) (M : Mw) : Kw g l yX10_of cX10_of 3 (some .int) 1 0 0 [.ref (gA g 50 0 0), .int p1, .int p2] M (fun v : Int32 => (some (.int v), M)) (F_X10_of p1 p2 M) := by
  refine Kw.of (own := RX10) (lv0 := [(0, .ref (gA g 50 0 0)), (1, .int p1), (2, .int p2)]) (by decide +kernel) rfl (Nat.le_of_ble_eq_true rfl) rfl (fun x C hl hm => ?_)
  subst hl
  unfold F_X10_of
  refine r_aload_n C 0 dX10_of_0 rfl rfl ?_
  refine gf_50_1 C dX10_of_1 u_1106 in_50 ?_
  refine r_bipush (v := 106) C dX10_of_4 (by decide) ?_
  refine r_iconst (v := 5) C dX10_of_6 (by decide) ?_
  refine r_iload_n C 1 dX10_of_7 rfl rfl ?_
  refine r_imul C dX10_of_8 ?_
  refine r_iadd C dX10_of_9 ?_
  refine r_iload_n C 2 dX10_of_10 rfl rfl ?_
  refine r_iadd C dX10_of_11 ?_
  refine r_iald C dX10_of_12 in_51 (contW_51 g _ _ _ _ _) (fun h1 => ?_)
  exact r_iret C dX10_of_13 rfl rfl (xk0 hm) (xn0 hm)
def F_X10_injection (p1 : Int32) (p2 : Int32) (M : Mw) : Option (Int32) :=
  ((F_X10_many M).bind (fun v1 => ((F_X10_in ((p1).toInt64) 0 (((v1 - 1)).toInt64) M).bind (fun v3 => (if v3 = 0 then some (-2) else ((F_X10_in ((p2).toInt64) 0 4 M).bind (fun v6 => (if v6 = 0 then some (-2) else ((F_X10_of p1 p2 M).bind (fun v9 => some v9))))))))))
set_option maxRecDepth 100000 in
set_option maxHeartbeats 4000000 in
theorem c_X10_injection {g : Gw} {l : Launch} (p1 : Int32) (p2 : Int32) (M : Mw) : Kw g l yX10_injection cX10_injection 3 (some .int) 2 0 0 [.ref (gA g 50 0 0), .int p1, .int p2] M (fun v : Int32 => (some (.int v), M)) (F_X10_injection p1 p2 M) := by
  refine Kw.of (own := RX10) (lv0 := [(0, .ref (gA g 50 0 0)), (1, .int p1), (2, .int p2)]) (by decide +kernel) rfl (Nat.le_of_ble_eq_true rfl) rfl (fun x C hl hm => ?_)
  subst hl
  unfold F_X10_injection
  refine r_iload_n C 1 dX10_injection_0 rfl rfl ?_
  refine r_i2l C dX10_injection_1 ?_
  refine r_lconst (v := 0) C dX10_injection_2 (by decide) ?_
  refine r_aload_n C 0 dX10_injection_3 rfl rfl ?_
  refine r_callVRi (rest := [.long 0, .long ((p1).toInt64)]) C (c_X10_many M) dX10_injection_4 u_1300 in_50 (contW_50 g _ _ _ _ _) rfl u_1301 u_73 mi_X10_many (by decide) rfl rfl (Nat.le_of_ble_eq_true rfl) (xk1 hm (by decide)) (xn1 hm (by decide)) (fun v1 h2 => ?_)
  refine r_iconst (v := 1) C dX10_injection_7 (by decide) ?_
  refine r_isub C dX10_injection_8 ?_
  refine r_i2l C dX10_injection_9 ?_
  refine r_callSRi (rest := []) C (c_X10_in ((p1).toInt64) 0 (((v1 - 1)).toInt64) M) dX10_injection_10 u_1174 u_1175 mi_X10_in (by decide) rfl rfl (Nat.le_of_ble_eq_true rfl) (xk1 hm (by decide)) (xn1 hm (by decide)) (fun v3 h4 => ?_)
  refine r_if_eq (tgt := 37) C dX10_injection_13 (by decide) (fun h5 => ?_) (fun h5 => ?_)
  · refine r_bipush (v := (-2)) C dX10_injection_37 (by decide) ?_
    exact r_iret C dX10_injection_39 rfl rfl (xk0 hm) (xn0 hm)
  · refine r_iload_n C 2 dX10_injection_16 rfl rfl ?_
    refine r_i2l C dX10_injection_17 ?_
    refine r_lconst (v := 0) C dX10_injection_18 (by decide) ?_
    refine r_ldc2 (v := 4) C u_1303 dX10_injection_19 ?_
    refine r_callSRi (rest := []) C (c_X10_in ((p2).toInt64) 0 4 M) dX10_injection_22 u_1174 u_1175 mi_X10_in (by decide) rfl rfl (Nat.le_of_ble_eq_true rfl) (xk1 hm (by decide)) (xn1 hm (by decide)) (fun v6 h7 => ?_)
    refine r_if_eq (tgt := 37) C dX10_injection_25 (by decide) (fun h8 => ?_) (fun h8 => ?_)
    · refine r_bipush (v := (-2)) C dX10_injection_37 (by decide) ?_
      exact r_iret C dX10_injection_39 rfl rfl (xk0 hm) (xn0 hm)
    · refine r_aload_n C 0 dX10_injection_28 rfl rfl ?_
      refine r_iload_n C 1 dX10_injection_29 rfl rfl ?_
      refine r_iload_n C 2 dX10_injection_30 rfl rfl ?_
      refine r_callVRi (rest := []) C (c_X10_of p1 p2 M) dX10_injection_31 u_1304 in_50 (contW_50 g _ _ _ _ _) rfl u_1305 u_74 mi_X10_of (by decide) rfl rfl (Nat.le_of_ble_eq_true rfl) (xk1 hm (by decide)) (xn1 hm (by decide)) (fun v9 h10 => ?_)
      refine r_goto (tgt := 39) C dX10_injection_34 (by decide) ?_
      exact r_iret C dX10_injection_39 rfl rfl (xk0 hm) (xn0 hm)
def B_X10_followers_7 (l1 : Int32) (l2 : Int32) (M : Mw) (k7 : Int32 → Int32 → Option (Int32)) (l3 : Int32) (l4 : Int32) : Option (Int32) :=
  ((F_X10_nodesOf l1 M).bind (fun v2 => (if v2 ≤ l4 then some l3 else ((F_X10_isBehind l1 l4 l2 M).bind (fun v5 => (if v5 = 0 then (bd (l3 + 0) (fun v8 => (bd (l4 + 1) (fun v9 => (k7 v8 v9))))) else (bd (l3 + 1) (fun v10 => (bd (l4 + 1) (fun v11 => (k7 v10 v11)))))))))))
def F_X10_followers (p1 : Int32) (p2 : Int32) (M : Mw) : Option (Int32) :=
  (bd (p2 + 1) (fun v1 => (it (fun _ _ => none) (B_X10_followers_7 p1 p2 M) FU 0 v1)))
set_option maxRecDepth 100000 in
set_option maxHeartbeats 4000000 in
theorem t_X10_followers_7 {g : Gw} {x : Xw} (C : Cw g x cX10_followers RX10 5 (some .int) 3) (hm : x.2.2.2.2.2.2.2.2.2.2.2 = (0, 0)) (M : Mw) (l1 : Int32) (l2 : Int32) (k7 : Int32 → Int32 → Option (Int32)) (hk7 : ∀ (l3 : Int32) (l4 : Int32), Sw g x (fun v : Int32 => (some (.int v), M)) M 0 0 7 [(0, .ref (gA g 50 0 0)), (1, .int l1), (2, .int l2), (3, .int l3), (4, .int l4)] [] (k7 l3 l4)) (l3 : Int32) (l4 : Int32) : Sw g x (fun v : Int32 => (some (.int v), M)) M 0 0 7 [(0, .ref (gA g 50 0 0)), (1, .int l1), (2, .int l2), (3, .int l3), (4, .int l4)] [] (B_X10_followers_7 l1 l2 M k7 l3 l4) := by
  unfold B_X10_followers_7
  refine r_iload C 4 dX10_followers_7 rfl ?_
  refine r_aload_n C 0 dX10_followers_9 rfl rfl ?_
  refine r_iload_n C 1 dX10_followers_10 rfl rfl ?_
  refine r_callVRi (rest := [.int l4]) C (c_X10_nodesOf l1 M) dX10_followers_11 u_1277 in_50 (contW_50 g _ _ _ _ _) rfl u_1278 u_68 mi_X10_nodesOf (by decide) rfl rfl (Nat.le_of_ble_eq_true rfl) (xk1 hm (by decide)) (xn1 hm (by decide)) (fun v2 h3 => ?_)
  refine r_icmp_ge (tgt := 42) C dX10_followers_14 (by decide) (fun h4 => ?_) (fun h4 => ?_)
  · refine r_iload_n C 3 dX10_followers_42 rfl rfl ?_
    exact r_iret C dX10_followers_43 rfl rfl (xk0 hm) (xn0 hm)
  · refine r_iload_n C 3 dX10_followers_17 rfl rfl ?_
    refine r_aload_n C 0 dX10_followers_18 rfl rfl ?_
    refine r_iload_n C 1 dX10_followers_19 rfl rfl ?_
    refine r_iload C 4 dX10_followers_20 rfl ?_
    refine r_iload_n C 2 dX10_followers_22 rfl rfl ?_
    refine r_callVRi (rest := [.int l3]) C (c_X10_isBehind l1 l4 l2 M) dX10_followers_23 u_1286 in_50 (contW_50 g _ _ _ _ _) rfl u_1287 u_71 mi_X10_isBehind (by decide) rfl rfl (Nat.le_of_ble_eq_true rfl) (xk1 hm (by decide)) (xn1 hm (by decide)) (fun v5 h6 => ?_)
    refine r_if_eq (tgt := 33) C dX10_followers_26 (by decide) (fun h7 => ?_) (fun h7 => ?_)
    · refine r_iconst (v := 0) C dX10_followers_33 (by decide) ?_
      refine r_iadd C dX10_followers_34 ?_
      refine r_istore_n (lv' := fun v8 => [(3, .int v8), (0, .ref (gA g 50 0 0)), (1, .int l1), (2, .int l2), (4, .int l4)]) C dX10_followers_35 rfl (by decide) (fun _ => rfl) (fun v8 => ?_)
      refine r_iinc (c := 1) (lv' := fun v9 => [(4, .int v9), (3, .int v8), (0, .ref (gA g 50 0 0)), (1, .int l1), (2, .int l2)]) C 4 dX10_followers_36 rfl (by decide) (by decide) (fun _ => rfl) (fun v9 => ?_)
      refine r_goto (tgt := 7) C dX10_followers_39 (by decide) ?_
      refine r_lv [2, 3, 4, 1, 0] rfl ?_
      exact hk7 v8 v9
    · refine r_iconst (v := 1) C dX10_followers_29 (by decide) ?_
      refine r_goto (tgt := 34) C dX10_followers_30 (by decide) ?_
      refine r_iadd C dX10_followers_34 ?_
      refine r_istore_n (lv' := fun v10 => [(3, .int v10), (0, .ref (gA g 50 0 0)), (1, .int l1), (2, .int l2), (4, .int l4)]) C dX10_followers_35 rfl (by decide) (fun _ => rfl) (fun v10 => ?_)
      refine r_iinc (c := 1) (lv' := fun v11 => [(4, .int v11), (3, .int v10), (0, .ref (gA g 50 0 0)), (1, .int l1), (2, .int l2)]) C 4 dX10_followers_36 rfl (by decide) (by decide) (fun _ => rfl) (fun v11 => ?_)
      refine r_goto (tgt := 7) C dX10_followers_39 (by decide) ?_
      refine r_lv [2, 3, 4, 1, 0] rfl ?_
      exact hk7 v10 v11
set_option maxRecDepth 100000 in
set_option maxHeartbeats 4000000 in
theorem tl_X10_followers_7 {g : Gw} {x : Xw} (C : Cw g x cX10_followers RX10 5 (some .int) 3) (hm : x.2.2.2.2.2.2.2.2.2.2.2 = (0, 0)) (M : Mw) (l1 : Int32) (l2 : Int32) (n : Nat) : ∀ (l3 : Int32) (l4 : Int32), Sw g x (fun v : Int32 => (some (.int v), M)) M 0 0 7 [(0, .ref (gA g 50 0 0)), (1, .int l1), (2, .int l2), (3, .int l3), (4, .int l4)] [] (it (fun _ _ => none) (B_X10_followers_7 l1 l2 M) n l3 l4) := by
  induction n with
  | zero =>
    intro l3 l4
    exact r_none
  | succ n ih =>
    intro l3 l4
    exact t_X10_followers_7 C hm M l1 l2 _ ih l3 l4
set_option maxRecDepth 100000 in
set_option maxHeartbeats 4000000 in
theorem c_X10_followers {g : Gw} {l : Launch} (p1 : Int32) (p2 : Int32) (M : Mw) : Kw g l yX10_followers cX10_followers 5 (some .int) 3 0 0 [.ref (gA g 50 0 0), .int p1, .int p2] M (fun v : Int32 => (some (.int v), M)) (F_X10_followers p1 p2 M) := by
  refine Kw.of (own := RX10) (lv0 := [(0, .ref (gA g 50 0 0)), (1, .int p1), (2, .int p2)]) (by decide +kernel) rfl (Nat.le_of_ble_eq_true rfl) rfl (fun x C hl hm => ?_)
  subst hl
  unfold F_X10_followers
  refine r_iconst (v := 0) C dX10_followers_0 (by decide) ?_
  refine r_istore_n0 (lv' := [(3, .int 0), (0, .ref (gA g 50 0 0)), (1, .int p1), (2, .int p2)]) C dX10_followers_1 rfl (by decide) rfl ?_
  refine r_iload_n C 3 dX10_followers_2 rfl rfl ?_
  refine r_iconst (v := 1) C dX10_followers_3 (by decide) ?_
  refine r_iadd C dX10_followers_4 ?_
  refine r_istore (lv' := fun v1 => [(4, .int v1), (3, .int 0), (0, .ref (gA g 50 0 0)), (1, .int p1), (2, .int p2)]) C dX10_followers_5 (by decide) (fun _ => rfl) (fun v1 => ?_)
  refine r_lv [2, 3, 4, 1, 0] rfl ?_
  exact tl_X10_followers_7 C hm M p1 p2 FU 0 v1
def B_X10_goes_41 (k8 : Int32 → Mw → Option (Int32 × Mw)) (l1 : Int32) (l2 : Int32) (l3 : Int32) (M : Mw) (k41 : Int32 → Int32 → Int32 → Option (Int32 × Mw)) (l4 : Int32) (l5 : Int32) (l6 : Int32) : Option (Int32 × Mw) :=
  ((F_X10_nodesOf l1 M).bind (fun v9 => (if v9 ≤ l6 then (if l2 = 2 then (if inb l3 6 then (bd (uIw M 57 0 0 l3.toNatClampNeg l4) (fun M18 => (bd (l3 + (-1)) (fun v20 => (k8 v20 M18))))) else none) else ((F_X10_unitsOf l1 l3 M).bind (fun v13 => (if inb l3 6 then (bd (uIw M 57 0 0 l3.toNatClampNeg (l4 + v13)) (fun M15 => (bd (l3 + (-1)) (fun v17 => (k8 v17 M15))))) else none)))) else ((F_X10_isBehind l1 l6 l3 M).bind (fun v21 => (if v21 = 0 then (bd (l6 + 1) (fun v39 => (k41 l4 l5 v39))) else (if l2 = 2 then (if inb l6 6 then (bd (l4 + (M.1 57 0 0 l6.toNatClampNeg)) (fun v37 => (bd (l6 + 1) (fun v38 => (k41 v37 0 v38))))) else none) else (if l5 = 0 then (if l2 = 1 then (if inb l6 6 then (bd (if l4 < (M.1 57 0 0 l6.toNatClampNeg) then (M.1 57 0 0 l6.toNatClampNeg) else l4) (fun v31 => (bd (l6 + 1) (fun v32 => (k41 v31 0 v32))))) else none) else (if inb l6 6 then (bd (if (M.1 57 0 0 l6.toNatClampNeg) < l4 then (M.1 57 0 0 l6.toNatClampNeg) else l4) (fun v28 => (bd (l6 + 1) (fun v29 => (k41 v28 0 v29))))) else none)) else (if inb l6 6 then (bd (M.1 57 0 0 l6.toNatClampNeg) (fun v34 => (bd (l6 + 1) (fun v35 => (k41 v34 0 v35))))) else none)))))))))
def B_X10_goes_31 (k8 : Int32 → Mw → Option (Int32 × Mw)) (l1 : Int32) (l2 : Int32) (l3 : Int32) (s0 : Int32) (M : Mw) : Option (Int32 × Mw) :=
  (bd (l3 + 1) (fun v8 => (it (fun _ _ _ => none) (B_X10_goes_41 k8 l1 l2 l3 M) FU s0 1 v8)))
def B_X10_goes_30 (k8 : Int32 → Mw → Option (Int32 × Mw)) (l1 : Int32) (l2 : Int32) (l3 : Int32) (M : Mw) : Option (Int32 × Mw) :=
  (B_X10_goes_31 k8 l1 l2 l3 0 M)
def B_X10_goes_8 (l1 : Int32) (l2 : Int32) (k8 : Int32 → Mw → Option (Int32 × Mw)) (l3 : Int32) (M : Mw) : Option (Int32 × Mw) :=
  (if l3 < 0 then some ((M.1 57 0 0 0), M) else ((F_X10_followers l1 l3 M).bind (fun v5 => (if v5 = 0 then (if l2 = 2 then (B_X10_goes_31 k8 l1 l2 l3 1 M) else (B_X10_goes_30 k8 l1 l2 l3 M)) else (B_X10_goes_30 k8 l1 l2 l3 M)))))
def F_X10_goes (p1 : Int32) (p2 : Int32) (M : Mw) : Option (Int32 × Mw) :=
  ((F_X10_nodesOf p1 M).bind (fun v1 => (bd (v1 - 1) (fun v3 => (it (fun _ _ => none) (B_X10_goes_8 p1 p2) FU v3 M)))))
set_option maxRecDepth 100000 in
set_option maxHeartbeats 4000000 in
theorem t_X10_goes_41 {g : Gw} {x : Xw} (C : Cw g x cX10_goes RX10 7 (some .int) 4) (hm : x.2.2.2.2.2.2.2.2.2.2.2 = (0, 0)) (M : Mw) (k8 : Int32 → Mw → Option (Int32 × Mw)) (l1 : Int32) (l2 : Int32) (l3 : Int32) (hk8 : ∀ (l3 : Int32) (M : Mw), Sw g x (fun q : Int32 × Mw => (some (.int q.1), q.2)) M 0 0 8 [(0, .ref (gA g 50 0 0)), (1, .int l1), (2, .int l2), (3, .int l3)] [] (k8 l3 M)) (k41 : Int32 → Int32 → Int32 → Option (Int32 × Mw)) (hk41 : ∀ (l4 : Int32) (l5 : Int32) (l6 : Int32), Sw g x (fun q : Int32 × Mw => (some (.int q.1), q.2)) M 0 0 41 [(0, .ref (gA g 50 0 0)), (1, .int l1), (2, .int l2), (3, .int l3), (4, .int l4), (5, .int l5), (6, .int l6)] [] (k41 l4 l5 l6)) (l4 : Int32) (l5 : Int32) (l6 : Int32) : Sw g x (fun q : Int32 × Mw => (some (.int q.1), q.2)) M 0 0 41 [(0, .ref (gA g 50 0 0)), (1, .int l1), (2, .int l2), (3, .int l3), (4, .int l4), (5, .int l5), (6, .int l6)] [] (B_X10_goes_41 k8 l1 l2 l3 M k41 l4 l5 l6) := by
  unfold B_X10_goes_41
  refine r_iload C 6 dX10_goes_41 rfl ?_
  refine r_aload_n C 0 dX10_goes_43 rfl rfl ?_
  refine r_iload_n C 1 dX10_goes_44 rfl rfl ?_
  refine r_callVRi (rest := [.int l6]) C (c_X10_nodesOf l1 M) dX10_goes_45 u_1277 in_50 (contW_50 g _ _ _ _ _) rfl u_1278 u_68 mi_X10_nodesOf (by decide) rfl rfl (Nat.le_of_ble_eq_true rfl) (xk1 hm (by decide)) (xn1 hm (by decide)) (fun v9 h10 => ?_)
  refine r_icmp_ge (tgt := 143) C dX10_goes_48 (by decide) (fun h11 => ?_) (fun h11 => ?_)
  · refine r_aload_n C 0 dX10_goes_143 rfl rfl ?_
    refine gf_50_15 C dX10_goes_144 u_1120 in_50 ?_
    refine r_iload_n C 3 dX10_goes_147 rfl rfl ?_
    refine r_iload_n C 2 dX10_goes_148 rfl rfl ?_
    refine r_iconst (v := 2) C dX10_goes_149 (by decide) ?_
    refine r_icmp_ne (tgt := 158) C dX10_goes_150 (by decide) (fun h12 => ?_) (fun h12 => ?_)
    · refine r_iload C 4 dX10_goes_153 rfl ?_
      refine r_goto (tgt := 167) C dX10_goes_155 (by decide) ?_
      refine r_iast C dX10_goes_167 in_57 (contW_57 g _ _) (fun M18 h19 => ?_)
      refine r_iinc (c := (-1)) (lv' := fun v20 => [(3, .int v20), (0, .ref (gA g 50 0 0)), (1, .int l1), (2, .int l2), (4, .int l4), (5, .int l5), (6, .int l6)]) C 3 dX10_goes_168 rfl (by decide) (by decide) (fun _ => rfl) (fun v20 => ?_)
      refine r_goto (tgt := 8) C dX10_goes_171 (by decide) ?_
      refine r_lv [1, 2, 3, 0] rfl ?_
      exact hk8 v20 M18
    · refine r_iload C 4 dX10_goes_158 rfl ?_
      refine r_aload_n C 0 dX10_goes_160 rfl rfl ?_
      refine r_iload_n C 1 dX10_goes_161 rfl rfl ?_
      refine r_iload_n C 3 dX10_goes_162 rfl rfl ?_
      refine r_callVRi (rest := [.int l4, .int l3, .ref (gA g 57 0 0)]) C (c_X10_unitsOf l1 l3 M) dX10_goes_163 u_1280 in_50 (contW_50 g _ _ _ _ _) rfl u_1281 u_69 mi_X10_unitsOf (by decide) rfl rfl (Nat.le_of_ble_eq_true rfl) (xk1 hm (by decide)) (xn1 hm (by decide)) (fun v13 h14 => ?_)
      refine r_iadd C dX10_goes_166 ?_
      refine r_iast C dX10_goes_167 in_57 (contW_57 g _ _) (fun M15 h16 => ?_)
      refine r_iinc (c := (-1)) (lv' := fun v17 => [(3, .int v17), (0, .ref (gA g 50 0 0)), (1, .int l1), (2, .int l2), (4, .int l4), (5, .int l5), (6, .int l6)]) C 3 dX10_goes_168 rfl (by decide) (by decide) (fun _ => rfl) (fun v17 => ?_)
      refine r_goto (tgt := 8) C dX10_goes_171 (by decide) ?_
      refine r_lv [1, 2, 3, 0] rfl ?_
      exact hk8 v17 M15
  · refine r_aload_n C 0 dX10_goes_51 rfl rfl ?_
    refine r_iload_n C 1 dX10_goes_52 rfl rfl ?_
    refine r_iload C 6 dX10_goes_53 rfl ?_
    refine r_iload_n C 3 dX10_goes_55 rfl rfl ?_
    refine r_callVRi (rest := []) C (c_X10_isBehind l1 l6 l3 M) dX10_goes_56 u_1286 in_50 (contW_50 g _ _ _ _ _) rfl u_1287 u_71 mi_X10_isBehind (by decide) rfl rfl (Nat.le_of_ble_eq_true rfl) (xk1 hm (by decide)) (xn1 hm (by decide)) (fun v21 h22 => ?_)
    refine r_if_ne (tgt := 65) C dX10_goes_59 (by decide) (fun h23 => ?_) (fun h23 => ?_)
    · refine r_goto (tgt := 137) C dX10_goes_62 (by decide) ?_
      refine r_iinc (c := 1) (lv' := fun v39 => [(6, .int v39), (0, .ref (gA g 50 0 0)), (1, .int l1), (2, .int l2), (3, .int l3), (4, .int l4), (5, .int l5)]) C 6 dX10_goes_137 rfl (by decide) (by decide) (fun _ => rfl) (fun v39 => ?_)
      refine r_goto (tgt := 41) C dX10_goes_140 (by decide) ?_
      refine r_lv [1, 2, 3, 4, 5, 6, 0] rfl ?_
      exact hk41 l4 l5 v39
    · refine r_iload_n C 2 dX10_goes_65 rfl rfl ?_
      refine r_iconst (v := 2) C dX10_goes_66 (by decide) ?_
      refine r_icmp_ne (tgt := 85) C dX10_goes_67 (by decide) (fun h24 => ?_) (fun h24 => ?_)
      · refine r_iload C 4 dX10_goes_70 rfl ?_
        refine r_aload_n C 0 dX10_goes_72 rfl rfl ?_
        refine gf_50_15 C dX10_goes_73 u_1120 in_50 ?_
        refine r_iload C 6 dX10_goes_76 rfl ?_
        refine r_iald C dX10_goes_78 in_57 (contW_57 g _ _ _ _ _) (fun h36 => ?_)
        refine r_iadd C dX10_goes_79 ?_
        refine r_istore (lv' := fun v37 => [(4, .int v37), (0, .ref (gA g 50 0 0)), (1, .int l1), (2, .int l2), (3, .int l3), (5, .int l5), (6, .int l6)]) C dX10_goes_80 (by decide) (fun _ => rfl) (fun v37 => ?_)
        refine r_goto (tgt := 134) C dX10_goes_82 (by decide) ?_
        refine r_iconst (v := 0) C dX10_goes_134 (by decide) ?_
        refine r_istore0 (lv' := [(5, .int 0), (4, .int v37), (0, .ref (gA g 50 0 0)), (1, .int l1), (2, .int l2), (3, .int l3), (6, .int l6)]) C dX10_goes_135 (by decide) rfl ?_
        refine r_iinc (c := 1) (lv' := fun v38 => [(6, .int v38), (5, .int 0), (4, .int v37), (0, .ref (gA g 50 0 0)), (1, .int l1), (2, .int l2), (3, .int l3)]) C 6 dX10_goes_137 rfl (by decide) (by decide) (fun _ => rfl) (fun v38 => ?_)
        refine r_goto (tgt := 41) C dX10_goes_140 (by decide) ?_
        refine r_lv [3, 4, 5, 6, 2, 1, 0] rfl ?_
        exact hk41 v37 0 v38
      · refine r_iload C 5 dX10_goes_85 rfl ?_
        refine r_if_eq (tgt := 100) C dX10_goes_87 (by decide) (fun h25 => ?_) (fun h25 => ?_)
        · refine r_iload_n C 2 dX10_goes_100 rfl rfl ?_
          refine r_iconst (v := 1) C dX10_goes_101 (by decide) ?_
          refine r_icmp_ne (tgt := 120) C dX10_goes_102 (by decide) (fun h26 => ?_) (fun h26 => ?_)
          · refine r_iload C 4 dX10_goes_105 rfl ?_
            refine r_aload_n C 0 dX10_goes_107 rfl rfl ?_
            refine gf_50_15 C dX10_goes_108 u_1120 in_50 ?_
            refine r_iload C 6 dX10_goes_111 rfl ?_
            refine r_iald C dX10_goes_113 in_57 (contW_57 g _ _ _ _ _) (fun h30 => ?_)
            refine r_mmax C u_1317 u_542 u_140 u_543 dX10_goes_114 (by decide) (Nat.le_of_ble_eq_true rfl) (xk1 hm (by decide)) (xn1 hm (by decide)) ?_
            refine r_goto (tgt := 132) C dX10_goes_117 (by decide) ?_
            refine r_istore (lv' := fun v31 => [(4, .int v31), (0, .ref (gA g 50 0 0)), (1, .int l1), (2, .int l2), (3, .int l3), (5, .int l5), (6, .int l6)]) C dX10_goes_132 (by decide) (fun _ => rfl) (fun v31 => ?_)
            refine r_iconst (v := 0) C dX10_goes_134 (by decide) ?_
            refine r_istore0 (lv' := [(5, .int 0), (4, .int v31), (0, .ref (gA g 50 0 0)), (1, .int l1), (2, .int l2), (3, .int l3), (6, .int l6)]) C dX10_goes_135 (by decide) rfl ?_
            refine r_iinc (c := 1) (lv' := fun v32 => [(6, .int v32), (5, .int 0), (4, .int v31), (0, .ref (gA g 50 0 0)), (1, .int l1), (2, .int l2), (3, .int l3)]) C 6 dX10_goes_137 rfl (by decide) (by decide) (fun _ => rfl) (fun v32 => ?_)
            refine r_goto (tgt := 41) C dX10_goes_140 (by decide) ?_
            refine r_lv [3, 4, 5, 6, 2, 1, 0] rfl ?_
            exact hk41 v31 0 v32
          · refine r_iload C 4 dX10_goes_120 rfl ?_
            refine r_aload_n C 0 dX10_goes_122 rfl rfl ?_
            refine gf_50_15 C dX10_goes_123 u_1120 in_50 ?_
            refine r_iload C 6 dX10_goes_126 rfl ?_
            refine r_iald C dX10_goes_128 in_57 (contW_57 g _ _ _ _ _) (fun h27 => ?_)
            refine r_mmin C u_1208 u_539 u_140 u_540 dX10_goes_129 (by decide) (Nat.le_of_ble_eq_true rfl) (xk1 hm (by decide)) (xn1 hm (by decide)) ?_
            refine r_istore (lv' := fun v28 => [(4, .int v28), (0, .ref (gA g 50 0 0)), (1, .int l1), (2, .int l2), (3, .int l3), (5, .int l5), (6, .int l6)]) C dX10_goes_132 (by decide) (fun _ => rfl) (fun v28 => ?_)
            refine r_iconst (v := 0) C dX10_goes_134 (by decide) ?_
            refine r_istore0 (lv' := [(5, .int 0), (4, .int v28), (0, .ref (gA g 50 0 0)), (1, .int l1), (2, .int l2), (3, .int l3), (6, .int l6)]) C dX10_goes_135 (by decide) rfl ?_
            refine r_iinc (c := 1) (lv' := fun v29 => [(6, .int v29), (5, .int 0), (4, .int v28), (0, .ref (gA g 50 0 0)), (1, .int l1), (2, .int l2), (3, .int l3)]) C 6 dX10_goes_137 rfl (by decide) (by decide) (fun _ => rfl) (fun v29 => ?_)
            refine r_goto (tgt := 41) C dX10_goes_140 (by decide) ?_
            refine r_lv [3, 4, 5, 6, 2, 1, 0] rfl ?_
            exact hk41 v28 0 v29
        · refine r_aload_n C 0 dX10_goes_90 rfl rfl ?_
          refine gf_50_15 C dX10_goes_91 u_1120 in_50 ?_
          refine r_iload C 6 dX10_goes_94 rfl ?_
          refine r_iald C dX10_goes_96 in_57 (contW_57 g _ _ _ _ _) (fun h33 => ?_)
          refine r_goto (tgt := 132) C dX10_goes_97 (by decide) ?_
          refine r_istore (lv' := fun v34 => [(4, .int v34), (0, .ref (gA g 50 0 0)), (1, .int l1), (2, .int l2), (3, .int l3), (5, .int l5), (6, .int l6)]) C dX10_goes_132 (by decide) (fun _ => rfl) (fun v34 => ?_)
          refine r_iconst (v := 0) C dX10_goes_134 (by decide) ?_
          refine r_istore0 (lv' := [(5, .int 0), (4, .int v34), (0, .ref (gA g 50 0 0)), (1, .int l1), (2, .int l2), (3, .int l3), (6, .int l6)]) C dX10_goes_135 (by decide) rfl ?_
          refine r_iinc (c := 1) (lv' := fun v35 => [(6, .int v35), (5, .int 0), (4, .int v34), (0, .ref (gA g 50 0 0)), (1, .int l1), (2, .int l2), (3, .int l3)]) C 6 dX10_goes_137 rfl (by decide) (by decide) (fun _ => rfl) (fun v35 => ?_)
          refine r_goto (tgt := 41) C dX10_goes_140 (by decide) ?_
          refine r_lv [3, 4, 5, 6, 2, 1, 0] rfl ?_
          exact hk41 v34 0 v35
set_option maxRecDepth 100000 in
set_option maxHeartbeats 4000000 in
theorem tl_X10_goes_41 {g : Gw} {x : Xw} (C : Cw g x cX10_goes RX10 7 (some .int) 4) (hm : x.2.2.2.2.2.2.2.2.2.2.2 = (0, 0)) (M : Mw) (k8 : Int32 → Mw → Option (Int32 × Mw)) (l1 : Int32) (l2 : Int32) (l3 : Int32) (hk8 : ∀ (l3 : Int32) (M : Mw), Sw g x (fun q : Int32 × Mw => (some (.int q.1), q.2)) M 0 0 8 [(0, .ref (gA g 50 0 0)), (1, .int l1), (2, .int l2), (3, .int l3)] [] (k8 l3 M)) (n : Nat) : ∀ (l4 : Int32) (l5 : Int32) (l6 : Int32), Sw g x (fun q : Int32 × Mw => (some (.int q.1), q.2)) M 0 0 41 [(0, .ref (gA g 50 0 0)), (1, .int l1), (2, .int l2), (3, .int l3), (4, .int l4), (5, .int l5), (6, .int l6)] [] (it (fun _ _ _ => none) (B_X10_goes_41 k8 l1 l2 l3 M) n l4 l5 l6) := by
  induction n with
  | zero =>
    intro l4 l5 l6
    exact r_none
  | succ n ih =>
    intro l4 l5 l6
    exact t_X10_goes_41 C hm M k8 l1 l2 l3 hk8 _ ih l4 l5 l6
set_option maxRecDepth 100000 in
set_option maxHeartbeats 4000000 in
theorem t_X10_goes_31 {g : Gw} {x : Xw} (C : Cw g x cX10_goes RX10 7 (some .int) 4) (hm : x.2.2.2.2.2.2.2.2.2.2.2 = (0, 0)) (k8 : Int32 → Mw → Option (Int32 × Mw)) (l1 : Int32) (l2 : Int32) (l3 : Int32) (s0 : Int32) (hk8 : ∀ (l3 : Int32) (M : Mw), Sw g x (fun q : Int32 × Mw => (some (.int q.1), q.2)) M 0 0 8 [(0, .ref (gA g 50 0 0)), (1, .int l1), (2, .int l2), (3, .int l3)] [] (k8 l3 M)) (M : Mw) : Sw g x (fun q : Int32 × Mw => (some (.int q.1), q.2)) M 0 0 31 [(0, .ref (gA g 50 0 0)), (1, .int l1), (2, .int l2), (3, .int l3)] [.int s0] (B_X10_goes_31 k8 l1 l2 l3 s0 M) := by
  unfold B_X10_goes_31
  refine r_istore0 (lv' := [(4, .int s0), (0, .ref (gA g 50 0 0)), (1, .int l1), (2, .int l2), (3, .int l3)]) C dX10_goes_31 (by decide) rfl ?_
  refine r_iconst (v := 1) C dX10_goes_33 (by decide) ?_
  refine r_istore0 (lv' := [(5, .int 1), (4, .int s0), (0, .ref (gA g 50 0 0)), (1, .int l1), (2, .int l2), (3, .int l3)]) C dX10_goes_34 (by decide) rfl ?_
  refine r_iload_n C 5 dX10_goes_36 rfl rfl ?_
  refine r_iconst (v := 1) C dX10_goes_37 (by decide) ?_
  refine r_iadd C dX10_goes_38 ?_
  refine r_istore (lv' := fun v8 => [(6, .int v8), (5, .int 1), (4, .int s0), (0, .ref (gA g 50 0 0)), (1, .int l1), (2, .int l2), (3, .int l3)]) C dX10_goes_39 (by decide) (fun _ => rfl) (fun v8 => ?_)
  refine r_lv [3, 4, 5, 6, 2, 1, 0] rfl ?_
  exact tl_X10_goes_41 C hm M k8 l1 l2 l3 hk8 FU s0 1 v8
set_option maxRecDepth 100000 in
set_option maxHeartbeats 4000000 in
theorem t_X10_goes_30 {g : Gw} {x : Xw} (C : Cw g x cX10_goes RX10 7 (some .int) 4) (hm : x.2.2.2.2.2.2.2.2.2.2.2 = (0, 0)) (k8 : Int32 → Mw → Option (Int32 × Mw)) (l1 : Int32) (l2 : Int32) (l3 : Int32) (hk8 : ∀ (l3 : Int32) (M : Mw), Sw g x (fun q : Int32 × Mw => (some (.int q.1), q.2)) M 0 0 8 [(0, .ref (gA g 50 0 0)), (1, .int l1), (2, .int l2), (3, .int l3)] [] (k8 l3 M)) (M : Mw) : Sw g x (fun q : Int32 × Mw => (some (.int q.1), q.2)) M 0 0 30 [(0, .ref (gA g 50 0 0)), (1, .int l1), (2, .int l2), (3, .int l3)] [] (B_X10_goes_30 k8 l1 l2 l3 M) := by
  unfold B_X10_goes_30
  refine r_iconst (v := 0) C dX10_goes_30 (by decide) ?_
  exact t_X10_goes_31 C hm k8 l1 l2 l3 0 hk8 M
set_option maxRecDepth 100000 in
set_option maxHeartbeats 4000000 in
theorem t_X10_goes_8 {g : Gw} {x : Xw} (C : Cw g x cX10_goes RX10 7 (some .int) 4) (hm : x.2.2.2.2.2.2.2.2.2.2.2 = (0, 0)) (l1 : Int32) (l2 : Int32) (k8 : Int32 → Mw → Option (Int32 × Mw)) (hk8 : ∀ (l3 : Int32) (M : Mw), Sw g x (fun q : Int32 × Mw => (some (.int q.1), q.2)) M 0 0 8 [(0, .ref (gA g 50 0 0)), (1, .int l1), (2, .int l2), (3, .int l3)] [] (k8 l3 M)) (l3 : Int32) (M : Mw) : Sw g x (fun q : Int32 × Mw => (some (.int q.1), q.2)) M 0 0 8 [(0, .ref (gA g 50 0 0)), (1, .int l1), (2, .int l2), (3, .int l3)] [] (B_X10_goes_8 l1 l2 k8 l3 M) := by
  unfold B_X10_goes_8
  refine r_iload_n C 3 dX10_goes_8 rfl rfl ?_
  refine r_if_lt (tgt := 174) C dX10_goes_9 (by decide) (fun h4 => ?_) (fun h4 => ?_)
  · refine r_aload_n C 0 dX10_goes_174 rfl rfl ?_
    refine gf_50_15 C dX10_goes_175 u_1120 in_50 ?_
    refine r_iconst (v := 0) C dX10_goes_178 (by decide) ?_
    refine r_ialdc C dX10_goes_179 in_57 (contW_57 g _ _ _ _ _) (by decide) (j := 0) (by decide) ?_
    exact r_iret C dX10_goes_180 rfl rfl (xk0 hm) (xn0 hm)
  · refine r_aload_n C 0 dX10_goes_12 rfl rfl ?_
    refine r_iload_n C 1 dX10_goes_13 rfl rfl ?_
    refine r_iload_n C 3 dX10_goes_14 rfl rfl ?_
    refine r_callVRi (rest := []) C (c_X10_followers l1 l3 M) dX10_goes_15 u_1314 in_50 (contW_50 g _ _ _ _ _) rfl u_1315 u_76 mi_X10_followers (by decide) rfl rfl (Nat.le_of_ble_eq_true rfl) (xk1 hm (by decide)) (xn1 hm (by decide)) (fun v5 h6 => ?_)
    refine r_if_ne (tgt := 30) C dX10_goes_18 (by decide) (fun h7 => ?_) (fun h7 => ?_)
    · refine r_iload_n C 2 dX10_goes_21 rfl rfl ?_
      refine r_iconst (v := 2) C dX10_goes_22 (by decide) ?_
      refine r_icmp_ne (tgt := 30) C dX10_goes_23 (by decide) (fun h40 => ?_) (fun h40 => ?_)
      · refine r_iconst (v := 1) C dX10_goes_26 (by decide) ?_
        refine r_goto (tgt := 31) C dX10_goes_27 (by decide) ?_
        exact t_X10_goes_31 C hm k8 l1 l2 l3 1 hk8 M
      · exact t_X10_goes_30 C hm k8 l1 l2 l3 hk8 M
    · exact t_X10_goes_30 C hm k8 l1 l2 l3 hk8 M
set_option maxRecDepth 100000 in
set_option maxHeartbeats 4000000 in
theorem tl_X10_goes_8 {g : Gw} {x : Xw} (C : Cw g x cX10_goes RX10 7 (some .int) 4) (hm : x.2.2.2.2.2.2.2.2.2.2.2 = (0, 0)) (l1 : Int32) (l2 : Int32) (n : Nat) : ∀ (l3 : Int32) (M : Mw), Sw g x (fun q : Int32 × Mw => (some (.int q.1), q.2)) M 0 0 8 [(0, .ref (gA g 50 0 0)), (1, .int l1), (2, .int l2), (3, .int l3)] [] (it (fun _ _ => none) (B_X10_goes_8 l1 l2) n l3 M) := by
  induction n with
  | zero =>
    intro l3 M
    exact r_none
  | succ n ih =>
    intro l3 M
    exact t_X10_goes_8 C hm l1 l2 _ ih l3 M
set_option maxRecDepth 100000 in
set_option maxHeartbeats 4000000 in
theorem c_X10_goes {g : Gw} {l : Launch} (p1 : Int32) (p2 : Int32) (M : Mw) : Kw g l yX10_goes cX10_goes 7 (some .int) 4 0 0 [.ref (gA g 50 0 0), .int p1, .int p2] M (fun q : Int32 × Mw => (some (.int q.1), q.2)) (F_X10_goes p1 p2 M) := by
  refine Kw.of (own := RX10) (lv0 := [(0, .ref (gA g 50 0 0)), (1, .int p1), (2, .int p2)]) (by decide +kernel) rfl (Nat.le_of_ble_eq_true rfl) rfl (fun x C hl hm => ?_)
  subst hl
  unfold F_X10_goes
  refine r_aload_n C 0 dX10_goes_0 rfl rfl ?_
  refine r_iload_n C 1 dX10_goes_1 rfl rfl ?_
  refine r_callVRi (rest := []) C (c_X10_nodesOf p1 M) dX10_goes_2 u_1277 in_50 (contW_50 g _ _ _ _ _) rfl u_1278 u_68 mi_X10_nodesOf (by decide) rfl rfl (Nat.le_of_ble_eq_true rfl) (xk1 hm (by decide)) (xn1 hm (by decide)) (fun v1 h2 => ?_)
  refine r_iconst (v := 1) C dX10_goes_5 (by decide) ?_
  refine r_isub C dX10_goes_6 ?_
  refine r_istore_n (lv' := fun v3 => [(3, .int v3), (0, .ref (gA g 50 0 0)), (1, .int p1), (2, .int p2)]) C dX10_goes_7 rfl (by decide) (fun _ => rfl) (fun v3 => ?_)
  refine r_lv [1, 2, 3, 0] rfl ?_
  exact tl_X10_goes_8 C hm p1 p2 FU v3 M
def F_X10_cost (p1 : Int32) (p2 : Int32) (M : Mw) : Option (Int32 × Mw) :=
  ((F_X10_isTask p1 M).bind (fun v1 => (if v1 = 0 then some ((-2), M) else ((F_X10_in ((p2).toInt64) 0 1 M).bind (fun v4 => (if v4 = 0 then some ((-2), M) else ((F_X10_goes p1 p2 M).bind (fun q7 => some (q7.1, q7.2)))))))))
set_option maxRecDepth 100000 in
set_option maxHeartbeats 4000000 in
theorem c_X10_cost {g : Gw} {l : Launch} (p1 : Int32) (p2 : Int32) (M : Mw) : Kw g l yX10_cost cX10_cost 3 (some .int) 5 0 0 [.ref (gA g 50 0 0), .int p1, .int p2] M (fun q : Int32 × Mw => (some (.int q.1), q.2)) (F_X10_cost p1 p2 M) := by
  refine Kw.of (own := RX10) (lv0 := [(0, .ref (gA g 50 0 0)), (1, .int p1), (2, .int p2)]) (by decide +kernel) rfl (Nat.le_of_ble_eq_true rfl) rfl (fun x C hl hm => ?_)
  subst hl
  unfold F_X10_cost
  refine r_aload_n C 0 dX10_cost_0 rfl rfl ?_
  refine r_iload_n C 1 dX10_cost_1 rfl rfl ?_
  refine r_callVRi (rest := []) C (c_X10_isTask p1 M) dX10_cost_2 u_1266 in_50 (contW_50 g _ _ _ _ _) rfl u_1267 u_66 mi_X10_isTask (by decide) rfl rfl (Nat.le_of_ble_eq_true rfl) (xk1 hm (by decide)) (xn1 hm (by decide)) (fun v1 h2 => ?_)
  refine r_if_eq (tgt := 27) C dX10_cost_5 (by decide) (fun h3 => ?_) (fun h3 => ?_)
  · refine r_bipush (v := (-2)) C dX10_cost_27 (by decide) ?_
    exact r_iret C dX10_cost_29 rfl rfl (xk0 hm) (xn0 hm)
  · refine r_iload_n C 2 dX10_cost_8 rfl rfl ?_
    refine r_i2l C dX10_cost_9 ?_
    refine r_lconst (v := 0) C dX10_cost_10 (by decide) ?_
    refine r_lconst (v := 1) C dX10_cost_11 (by decide) ?_
    refine r_callSRi (rest := []) C (c_X10_in ((p2).toInt64) 0 1 M) dX10_cost_12 u_1174 u_1175 mi_X10_in (by decide) rfl rfl (Nat.le_of_ble_eq_true rfl) (xk1 hm (by decide)) (xn1 hm (by decide)) (fun v4 h5 => ?_)
    refine r_if_eq (tgt := 27) C dX10_cost_15 (by decide) (fun h6 => ?_) (fun h6 => ?_)
    · refine r_bipush (v := (-2)) C dX10_cost_27 (by decide) ?_
      exact r_iret C dX10_cost_29 rfl rfl (xk0 hm) (xn0 hm)
    · refine r_aload_n C 0 dX10_cost_18 rfl rfl ?_
      refine r_iload_n C 1 dX10_cost_19 rfl rfl ?_
      refine r_iload_n C 2 dX10_cost_20 rfl rfl ?_
      refine r_callVWi (rest := []) C (c_X10_goes p1 p2 M) dX10_cost_21 u_1311 in_50 (contW_50 g _ _ _ _ _) rfl u_1312 u_75 mi_X10_goes (by decide) rfl rfl (Nat.le_of_ble_eq_true rfl) (xk1 hm (by decide)) (xn1 hm (by decide)) (fun q7 h8 => ?_)
      refine r_goto (tgt := 29) C dX10_cost_24 (by decide) ?_
      exact r_iret C dX10_cost_29 rfl rfl (xk0 hm) (xn0 hm)
def F_X10_ways (p1 : Int32) (M : Mw) : Option (Int32 × Mw) :=
  ((F_X10_isTask p1 M).bind (fun v1 => (if v1 = 0 then some ((-2), M) else ((F_X10_goes p1 2 M).bind (fun q4 => some (q4.1, q4.2))))))
set_option maxRecDepth 100000 in
set_option maxHeartbeats 4000000 in
theorem c_X10_ways {g : Gw} {l : Launch} (p1 : Int32) (M : Mw) : Kw g l yX10_ways cX10_ways 2 (some .int) 5 0 0 [.ref (gA g 50 0 0), .int p1] M (fun q : Int32 × Mw => (some (.int q.1), q.2)) (F_X10_ways p1 M) := by
  refine Kw.of (own := RX10) (lv0 := [(0, .ref (gA g 50 0 0)), (1, .int p1)]) (by decide +kernel) rfl (Nat.le_of_ble_eq_true rfl) rfl (fun x C hl hm => ?_)
  subst hl
  unfold F_X10_ways
  refine r_aload_n C 0 dX10_ways_0 rfl rfl ?_
  refine r_iload_n C 1 dX10_ways_1 rfl rfl ?_
  refine r_callVRi (rest := []) C (c_X10_isTask p1 M) dX10_ways_2 u_1266 in_50 (contW_50 g _ _ _ _ _) rfl u_1267 u_66 mi_X10_isTask (by decide) rfl rfl (Nat.le_of_ble_eq_true rfl) (xk1 hm (by decide)) (xn1 hm (by decide)) (fun v1 h2 => ?_)
  refine r_if_eq (tgt := 17) C dX10_ways_5 (by decide) (fun h3 => ?_) (fun h3 => ?_)
  · refine r_bipush (v := (-2)) C dX10_ways_17 (by decide) ?_
    exact r_iret C dX10_ways_19 rfl rfl (xk0 hm) (xn0 hm)
  · refine r_aload_n C 0 dX10_ways_8 rfl rfl ?_
    refine r_iload_n C 1 dX10_ways_9 rfl rfl ?_
    refine r_iconst (v := 2) C dX10_ways_10 (by decide) ?_
    refine r_callVWi (rest := []) C (c_X10_goes p1 2 M) dX10_ways_11 u_1311 in_50 (contW_50 g _ _ _ _ _) rfl u_1312 u_75 mi_X10_goes (by decide) rfl rfl (Nat.le_of_ble_eq_true rfl) (xk1 hm (by decide)) (xn1 hm (by decide)) (fun q4 h5 => ?_)
    refine r_goto (tgt := 19) C dX10_ways_14 (by decide) ?_
    exact r_iret C dX10_ways_19 rfl rfl (xk0 hm) (xn0 hm)
def B_X10_laysCosts_2 (k2 : Int32 → Mw → Option (Mw)) (l1 : Int32) (M : Mw) : Option (Mw) :=
  (if (M.1 51 0 0 4) ≤ l1 then some M else ((F_X10_goes l1 0 M).bind (fun q2 => (if inb l1 5 then (bd (uIw q2.2 59 0 0 l1.toNatClampNeg q2.1) (fun M4 => ((F_X10_goes l1 1 M4).bind (fun q6 => (if inb l1 5 then (bd (uIw q6.2 58 0 0 l1.toNatClampNeg q6.1) (fun M8 => (if inb l1 5 then (bd (uIw M8 60 0 0 l1.toNatClampNeg ((1 <<< (l1 &&& 31)) - 1)) (fun M10 => (bd (l1 + 1) (fun v12 => (k2 v12 M10))))) else none))) else none))))) else none))))
def F_X10_laysCosts (M : Mw) : Option (Mw) :=
  (it (fun _ _ => none) (B_X10_laysCosts_2) FU 0 M)
set_option maxRecDepth 100000 in
set_option maxHeartbeats 4000000 in
theorem t_X10_laysCosts_2 {g : Gw} {x : Xw} (C : Cw g x cX10_laysCosts RX10 2 none 5) (hm : x.2.2.2.2.2.2.2.2.2.2.2 = (0, 0)) (k2 : Int32 → Mw → Option (Mw)) (hk2 : ∀ (l1 : Int32) (M : Mw), Sw g x (fun M : Mw => (none, M)) M 0 0 2 [(0, .ref (gA g 50 0 0)), (1, .int l1)] [] (k2 l1 M)) (l1 : Int32) (M : Mw) : Sw g x (fun M : Mw => (none, M)) M 0 0 2 [(0, .ref (gA g 50 0 0)), (1, .int l1)] [] (B_X10_laysCosts_2 k2 l1 M) := by
  unfold B_X10_laysCosts_2
  refine r_iload_n C 1 dX10_laysCosts_2 rfl rfl ?_
  refine r_aload_n C 0 dX10_laysCosts_3 rfl rfl ?_
  refine gf_50_1 C dX10_laysCosts_4 u_1106 in_50 ?_
  refine r_iconst (v := 4) C dX10_laysCosts_7 (by decide) ?_
  refine r_ialdc C dX10_laysCosts_8 in_51 (contW_51 g _ _ _ _ _) (by decide) (j := 4) (by decide) ?_
  refine r_icmp_ge (tgt := 53) C dX10_laysCosts_9 (by decide) (fun h1 => ?_) (fun h1 => ?_)
  · exact r_vret C dX10_laysCosts_53 rfl rfl (xk0 hm) (xn0 hm)
  · refine r_aload_n C 0 dX10_laysCosts_12 rfl rfl ?_
    refine gf_50_17 C dX10_laysCosts_13 u_1122 in_50 ?_
    refine r_iload_n C 1 dX10_laysCosts_16 rfl rfl ?_
    refine r_aload_n C 0 dX10_laysCosts_17 rfl rfl ?_
    refine r_iload_n C 1 dX10_laysCosts_18 rfl rfl ?_
    refine r_iconst (v := 0) C dX10_laysCosts_19 (by decide) ?_
    refine r_callVWi (rest := [.int l1, .ref (gA g 59 0 0)]) C (c_X10_goes l1 0 M) dX10_laysCosts_20 u_1311 in_50 (contW_50 g _ _ _ _ _) rfl u_1312 u_75 mi_X10_goes (by decide) rfl rfl (Nat.le_of_ble_eq_true rfl) (xk1 hm (by decide)) (xn1 hm (by decide)) (fun q2 h3 => ?_)
    refine r_iast C dX10_laysCosts_23 in_59 (contW_59 g _ _) (fun M4 h5 => ?_)
    refine r_aload_n C 0 dX10_laysCosts_24 rfl rfl ?_
    refine gf_50_16 C dX10_laysCosts_25 u_1121 in_50 ?_
    refine r_iload_n C 1 dX10_laysCosts_28 rfl rfl ?_
    refine r_aload_n C 0 dX10_laysCosts_29 rfl rfl ?_
    refine r_iload_n C 1 dX10_laysCosts_30 rfl rfl ?_
    refine r_iconst (v := 1) C dX10_laysCosts_31 (by decide) ?_
    refine r_callVWi (rest := [.int l1, .ref (gA g 58 0 0)]) C (c_X10_goes l1 1 M4) dX10_laysCosts_32 u_1311 in_50 (contW_50 g _ _ _ _ _) rfl u_1312 u_75 mi_X10_goes (by decide) rfl rfl (Nat.le_of_ble_eq_true rfl) (xk1 hm (by decide)) (xn1 hm (by decide)) (fun q6 h7 => ?_)
    refine r_iast C dX10_laysCosts_35 in_58 (contW_58 g _ _) (fun M8 h9 => ?_)
    refine r_aload_n C 0 dX10_laysCosts_36 rfl rfl ?_
    refine gf_50_18 C dX10_laysCosts_37 u_1123 in_50 ?_
    refine r_iload_n C 1 dX10_laysCosts_40 rfl rfl ?_
    refine r_iconst (v := 1) C dX10_laysCosts_41 (by decide) ?_
    refine r_iload_n C 1 dX10_laysCosts_42 rfl rfl ?_
    refine r_ishl C dX10_laysCosts_43 ?_
    refine r_iconst (v := 1) C dX10_laysCosts_44 (by decide) ?_
    refine r_isub C dX10_laysCosts_45 ?_
    refine r_iast C dX10_laysCosts_46 in_60 (contW_60 g _ _) (fun M10 h11 => ?_)
    refine r_iinc (c := 1) (lv' := fun v12 => [(1, .int v12), (0, .ref (gA g 50 0 0))]) C 1 dX10_laysCosts_47 rfl (by decide) (by decide) (fun _ => rfl) (fun v12 => ?_)
    refine r_goto (tgt := 2) C dX10_laysCosts_50 (by decide) ?_
    refine r_lv [1, 0] rfl ?_
    exact hk2 v12 M10
set_option maxRecDepth 100000 in
set_option maxHeartbeats 4000000 in
theorem tl_X10_laysCosts_2 {g : Gw} {x : Xw} (C : Cw g x cX10_laysCosts RX10 2 none 5) (hm : x.2.2.2.2.2.2.2.2.2.2.2 = (0, 0)) (n : Nat) : ∀ (l1 : Int32) (M : Mw), Sw g x (fun M : Mw => (none, M)) M 0 0 2 [(0, .ref (gA g 50 0 0)), (1, .int l1)] [] (it (fun _ _ => none) (B_X10_laysCosts_2) n l1 M) := by
  induction n with
  | zero =>
    intro l1 M
    exact r_none
  | succ n ih =>
    intro l1 M
    exact t_X10_laysCosts_2 C hm _ ih l1 M
set_option maxRecDepth 100000 in
set_option maxHeartbeats 4000000 in
theorem c_X10_laysCosts {g : Gw} {l : Launch} (M : Mw) : Kw g l yX10_laysCosts cX10_laysCosts 2 none 5 0 0 [.ref (gA g 50 0 0)] M (fun M : Mw => (none, M)) (F_X10_laysCosts M) := by
  refine Kw.of (own := RX10) (lv0 := [(0, .ref (gA g 50 0 0))]) (by decide +kernel) rfl (Nat.le_of_ble_eq_true rfl) rfl (fun x C hl hm => ?_)
  subst hl
  unfold F_X10_laysCosts
  refine r_iconst (v := 0) C dX10_laysCosts_0 (by decide) ?_
  refine r_istore_n0 (lv' := [(1, .int 0), (0, .ref (gA g 50 0 0))]) C dX10_laysCosts_1 rfl (by decide) rfl ?_
  refine r_lv [1, 0] rfl ?_
  exact tl_X10_laysCosts_2 C hm FU 0 M
def F_X10_period (p1 : Int32) (M : Mw) : Option (Int32) :=
  ((F_X10_toldOf p1 1 M).bind (fun v1 => some v1))
set_option maxRecDepth 100000 in
set_option maxHeartbeats 4000000 in
theorem c_X10_period {g : Gw} {l : Launch} (p1 : Int32) (M : Mw) : Kw g l yX10_period cX10_period 2 (some .int) 2 0 0 [.ref (gA g 50 0 0), .int p1] M (fun v : Int32 => (some (.int v), M)) (F_X10_period p1 M) := by
  refine Kw.of (own := RX10) (lv0 := [(0, .ref (gA g 50 0 0)), (1, .int p1)]) (by decide +kernel) rfl (Nat.le_of_ble_eq_true rfl) rfl (fun x C hl hm => ?_)
  subst hl
  unfold F_X10_period
  refine r_aload_n C 0 dX10_period_0 rfl rfl ?_
  refine r_iload_n C 1 dX10_period_1 rfl rfl ?_
  refine r_iconst (v := 1) C dX10_period_2 (by decide) ?_
  refine r_callVRi (rest := []) C (c_X10_toldOf p1 1 M) dX10_period_3 u_1270 in_50 (contW_50 g _ _ _ _ _) rfl u_1271 u_67 mi_X10_toldOf (by decide) rfl rfl (Nat.le_of_ble_eq_true rfl) (xk1 hm (by decide)) (xn1 hm (by decide)) (fun v1 h2 => ?_)
  exact r_iret C dX10_period_6 rfl rfl (xk0 hm) (xn0 hm)
def B_X10_responseOf_26 (k7 : Int32 → Option (Int32)) (l1 : Int32) (l2 : Int32) (M : Mw) (k26 : Int32 → Int32 → Option (Int32)) (l3 : Int32) (l4 : Int32) : Option (Int32) :=
  (if (M.1 51 0 0 4) ≤ l4 then (if l3 = l2 then some l2 else (bd (l2 + 1) (fun v10 => (k7 v10)))) else (if inb l1 5 then (if (((M.1 60 0 0 l1.toNatClampNeg) >>> (l4 &&& 31)) &&& 1) = 1 then ((F_X10_period l4 M).bind (fun v15 => ((F_X10_period l4 M).bind (fun v17 => (if v17 = 0 then none else (if inb l4 5 then (bd (l3 + ((((l2 + v15) - 1) / v17) * (M.1 58 0 0 l4.toNatClampNeg))) (fun v21 => (bd (l4 + 1) (fun v22 => (k26 v21 v22))))) else none)))))) else (bd (l3 + 0) (fun v13 => (bd (l4 + 1) (fun v14 => (k26 v13 v14)))))) else none))
def B_X10_responseOf_7 (l1 : Int32) (M : Mw) (k7 : Int32 → Option (Int32)) (l2 : Int32) : Option (Int32) :=
  ((F_X10_period l1 M).bind (fun v3 => (if v3 < l2 then some (-1) else (if inb l1 5 then (bd (M.1 58 0 0 l1.toNatClampNeg) (fun v7 => (it (fun _ _ => none) (B_X10_responseOf_26 k7 l1 l2 M) FU v7 0))) else none))))
def F_X10_responseOf (p1 : Int32) (M : Mw) : Option (Int32) :=
  (if inb p1 5 then (bd (M.1 58 0 0 p1.toNatClampNeg) (fun v2 => (it (fun _ => none) (B_X10_responseOf_7 p1 M) FU v2))) else none)
set_option maxRecDepth 100000 in
set_option maxHeartbeats 4000000 in
theorem t_X10_responseOf_26 {g : Gw} {x : Xw} (C : Cw g x cX10_responseOf RX10 5 (some .int) 3) (hm : x.2.2.2.2.2.2.2.2.2.2.2 = (0, 0)) (M : Mw) (k7 : Int32 → Option (Int32)) (l1 : Int32) (l2 : Int32) (hk7 : ∀ (l2 : Int32), Sw g x (fun v : Int32 => (some (.int v), M)) M 0 0 7 [(0, .ref (gA g 50 0 0)), (1, .int l1), (2, .int l2)] [] (k7 l2)) (k26 : Int32 → Int32 → Option (Int32)) (hk26 : ∀ (l3 : Int32) (l4 : Int32), Sw g x (fun v : Int32 => (some (.int v), M)) M 0 0 26 [(0, .ref (gA g 50 0 0)), (1, .int l1), (2, .int l2), (3, .int l3), (4, .int l4)] [] (k26 l3 l4)) (l3 : Int32) (l4 : Int32) : Sw g x (fun v : Int32 => (some (.int v), M)) M 0 0 26 [(0, .ref (gA g 50 0 0)), (1, .int l1), (2, .int l2), (3, .int l3), (4, .int l4)] [] (B_X10_responseOf_26 k7 l1 l2 M k26 l3 l4) := by
  unfold B_X10_responseOf_26
  refine r_iload C 4 dX10_responseOf_26 rfl ?_
  refine r_aload_n C 0 dX10_responseOf_28 rfl rfl ?_
  refine gf_50_1 C dX10_responseOf_29 u_1106 in_50 ?_
  refine r_iconst (v := 4) C dX10_responseOf_32 (by decide) ?_
  refine r_ialdc C dX10_responseOf_33 in_51 (contW_51 g _ _ _ _ _) (by decide) (j := 4) (by decide) ?_
  refine r_icmp_ge (tgt := 90) C dX10_responseOf_34 (by decide) (fun h8 => ?_) (fun h8 => ?_)
  · refine r_iload_n C 3 dX10_responseOf_90 rfl rfl ?_
    refine r_iload_n C 2 dX10_responseOf_91 rfl rfl ?_
    refine r_icmp_ne (tgt := 97) C dX10_responseOf_92 (by decide) (fun h9 => ?_) (fun h9 => ?_)
    · refine r_iload_n C 2 dX10_responseOf_95 rfl rfl ?_
      exact r_iret C dX10_responseOf_96 rfl rfl (xk0 hm) (xn0 hm)
    · refine r_iinc (c := 1) (lv' := fun v10 => [(2, .int v10), (0, .ref (gA g 50 0 0)), (1, .int l1), (3, .int l3), (4, .int l4)]) C 2 dX10_responseOf_97 rfl (by decide) (by decide) (fun _ => rfl) (fun v10 => ?_)
      refine r_goto (tgt := 7) C dX10_responseOf_100 (by decide) ?_
      refine r_lv [1, 2, 0] rfl ?_
      exact hk7 v10
  · refine r_iload_n C 3 dX10_responseOf_37 rfl rfl ?_
    refine r_aload_n C 0 dX10_responseOf_38 rfl rfl ?_
    refine gf_50_18 C dX10_responseOf_39 u_1123 in_50 ?_
    refine r_iload_n C 1 dX10_responseOf_42 rfl rfl ?_
    refine r_iald C dX10_responseOf_43 in_60 (contW_60 g _ _ _ _ _) (fun h11 => ?_)
    refine r_iload C 4 dX10_responseOf_44 rfl ?_
    refine r_ishr C dX10_responseOf_46 ?_
    refine r_iconst (v := 1) C dX10_responseOf_47 (by decide) ?_
    refine r_iand C dX10_responseOf_48 ?_
    refine r_iconst (v := 1) C dX10_responseOf_49 (by decide) ?_
    refine r_icmp_ne (tgt := 81) C dX10_responseOf_50 (by decide) (fun h12 => ?_) (fun h12 => ?_)
    · refine r_iload_n C 2 dX10_responseOf_53 rfl rfl ?_
      refine r_aload_n C 0 dX10_responseOf_54 rfl rfl ?_
      refine r_iload C 4 dX10_responseOf_55 rfl ?_
      refine r_callVRi (rest := [.int l2, .int l3]) C (c_X10_period l4 M) dX10_responseOf_57 u_1332 in_50 (contW_50 g _ _ _ _ _) rfl u_1333 u_79 mi_X10_period (by decide) rfl rfl (Nat.le_of_ble_eq_true rfl) (xk1 hm (by decide)) (xn1 hm (by decide)) (fun v15 h16 => ?_)
      refine r_iadd C dX10_responseOf_60 ?_
      refine r_iconst (v := 1) C dX10_responseOf_61 (by decide) ?_
      refine r_isub C dX10_responseOf_62 ?_
      refine r_aload_n C 0 dX10_responseOf_63 rfl rfl ?_
      refine r_iload C 4 dX10_responseOf_64 rfl ?_
      refine r_callVRi (rest := [.int ((l2 + v15) - 1), .int l3]) C (c_X10_period l4 M) dX10_responseOf_66 u_1332 in_50 (contW_50 g _ _ _ _ _) rfl u_1333 u_79 mi_X10_period (by decide) rfl rfl (Nat.le_of_ble_eq_true rfl) (xk1 hm (by decide)) (xn1 hm (by decide)) (fun v17 h18 => ?_)
      refine r_idiv C dX10_responseOf_69 (fun h19 => ?_)
      refine r_aload_n C 0 dX10_responseOf_70 rfl rfl ?_
      refine gf_50_16 C dX10_responseOf_71 u_1121 in_50 ?_
      refine r_iload C 4 dX10_responseOf_74 rfl ?_
      refine r_iald C dX10_responseOf_76 in_58 (contW_58 g _ _ _ _ _) (fun h20 => ?_)
      refine r_imul C dX10_responseOf_77 ?_
      refine r_goto (tgt := 82) C dX10_responseOf_78 (by decide) ?_
      refine r_iadd C dX10_responseOf_82 ?_
      refine r_istore_n (lv' := fun v21 => [(3, .int v21), (0, .ref (gA g 50 0 0)), (1, .int l1), (2, .int l2), (4, .int l4)]) C dX10_responseOf_83 rfl (by decide) (fun _ => rfl) (fun v21 => ?_)
      refine r_iinc (c := 1) (lv' := fun v22 => [(4, .int v22), (3, .int v21), (0, .ref (gA g 50 0 0)), (1, .int l1), (2, .int l2)]) C 4 dX10_responseOf_84 rfl (by decide) (by decide) (fun _ => rfl) (fun v22 => ?_)
      refine r_goto (tgt := 26) C dX10_responseOf_87 (by decide) ?_
      refine r_lv [2, 3, 4, 1, 0] rfl ?_
      exact hk26 v21 v22
    · refine r_iconst (v := 0) C dX10_responseOf_81 (by decide) ?_
      refine r_iadd C dX10_responseOf_82 ?_
      refine r_istore_n (lv' := fun v13 => [(3, .int v13), (0, .ref (gA g 50 0 0)), (1, .int l1), (2, .int l2), (4, .int l4)]) C dX10_responseOf_83 rfl (by decide) (fun _ => rfl) (fun v13 => ?_)
      refine r_iinc (c := 1) (lv' := fun v14 => [(4, .int v14), (3, .int v13), (0, .ref (gA g 50 0 0)), (1, .int l1), (2, .int l2)]) C 4 dX10_responseOf_84 rfl (by decide) (by decide) (fun _ => rfl) (fun v14 => ?_)
      refine r_goto (tgt := 26) C dX10_responseOf_87 (by decide) ?_
      refine r_lv [2, 3, 4, 1, 0] rfl ?_
      exact hk26 v13 v14
set_option maxRecDepth 100000 in
set_option maxHeartbeats 4000000 in
theorem tl_X10_responseOf_26 {g : Gw} {x : Xw} (C : Cw g x cX10_responseOf RX10 5 (some .int) 3) (hm : x.2.2.2.2.2.2.2.2.2.2.2 = (0, 0)) (M : Mw) (k7 : Int32 → Option (Int32)) (l1 : Int32) (l2 : Int32) (hk7 : ∀ (l2 : Int32), Sw g x (fun v : Int32 => (some (.int v), M)) M 0 0 7 [(0, .ref (gA g 50 0 0)), (1, .int l1), (2, .int l2)] [] (k7 l2)) (n : Nat) : ∀ (l3 : Int32) (l4 : Int32), Sw g x (fun v : Int32 => (some (.int v), M)) M 0 0 26 [(0, .ref (gA g 50 0 0)), (1, .int l1), (2, .int l2), (3, .int l3), (4, .int l4)] [] (it (fun _ _ => none) (B_X10_responseOf_26 k7 l1 l2 M) n l3 l4) := by
  induction n with
  | zero =>
    intro l3 l4
    exact r_none
  | succ n ih =>
    intro l3 l4
    exact t_X10_responseOf_26 C hm M k7 l1 l2 hk7 _ ih l3 l4
set_option maxRecDepth 100000 in
set_option maxHeartbeats 4000000 in
theorem t_X10_responseOf_7 {g : Gw} {x : Xw} (C : Cw g x cX10_responseOf RX10 5 (some .int) 3) (hm : x.2.2.2.2.2.2.2.2.2.2.2 = (0, 0)) (M : Mw) (l1 : Int32) (k7 : Int32 → Option (Int32)) (hk7 : ∀ (l2 : Int32), Sw g x (fun v : Int32 => (some (.int v), M)) M 0 0 7 [(0, .ref (gA g 50 0 0)), (1, .int l1), (2, .int l2)] [] (k7 l2)) (l2 : Int32) : Sw g x (fun v : Int32 => (some (.int v), M)) M 0 0 7 [(0, .ref (gA g 50 0 0)), (1, .int l1), (2, .int l2)] [] (B_X10_responseOf_7 l1 M k7 l2) := by
  unfold B_X10_responseOf_7
  refine r_iload_n C 2 dX10_responseOf_7 rfl rfl ?_
  refine r_aload_n C 0 dX10_responseOf_8 rfl rfl ?_
  refine r_iload_n C 1 dX10_responseOf_9 rfl rfl ?_
  refine r_callVRi (rest := [.int l2]) C (c_X10_period l1 M) dX10_responseOf_10 u_1332 in_50 (contW_50 g _ _ _ _ _) rfl u_1333 u_79 mi_X10_period (by decide) rfl rfl (Nat.le_of_ble_eq_true rfl) (xk1 hm (by decide)) (xn1 hm (by decide)) (fun v3 h4 => ?_)
  refine r_icmp_gt (tgt := 103) C dX10_responseOf_13 (by decide) (fun h5 => ?_) (fun h5 => ?_)
  · refine r_iconst (v := (-1)) C dX10_responseOf_103 (by decide) ?_
    exact r_iret C dX10_responseOf_104 rfl rfl (xk0 hm) (xn0 hm)
  · refine r_aload_n C 0 dX10_responseOf_16 rfl rfl ?_
    refine gf_50_16 C dX10_responseOf_17 u_1121 in_50 ?_
    refine r_iload_n C 1 dX10_responseOf_20 rfl rfl ?_
    refine r_iald C dX10_responseOf_21 in_58 (contW_58 g _ _ _ _ _) (fun h6 => ?_)
    refine r_istore_n (lv' := fun v7 => [(3, .int v7), (0, .ref (gA g 50 0 0)), (1, .int l1), (2, .int l2)]) C dX10_responseOf_22 rfl (by decide) (fun _ => rfl) (fun v7 => ?_)
    refine r_iconst (v := 0) C dX10_responseOf_23 (by decide) ?_
    refine r_istore0 (lv' := [(4, .int 0), (3, .int v7), (0, .ref (gA g 50 0 0)), (1, .int l1), (2, .int l2)]) C dX10_responseOf_24 (by decide) rfl ?_
    refine r_lv [2, 3, 4, 1, 0] rfl ?_
    exact tl_X10_responseOf_26 C hm M k7 l1 l2 hk7 FU v7 0
set_option maxRecDepth 100000 in
set_option maxHeartbeats 4000000 in
theorem tl_X10_responseOf_7 {g : Gw} {x : Xw} (C : Cw g x cX10_responseOf RX10 5 (some .int) 3) (hm : x.2.2.2.2.2.2.2.2.2.2.2 = (0, 0)) (M : Mw) (l1 : Int32) (n : Nat) : ∀ (l2 : Int32), Sw g x (fun v : Int32 => (some (.int v), M)) M 0 0 7 [(0, .ref (gA g 50 0 0)), (1, .int l1), (2, .int l2)] [] (it (fun _ => none) (B_X10_responseOf_7 l1 M) n l2) := by
  induction n with
  | zero =>
    intro l2
    exact r_none
  | succ n ih =>
    intro l2
    exact t_X10_responseOf_7 C hm M l1 _ ih l2
set_option maxRecDepth 100000 in
set_option maxHeartbeats 4000000 in
theorem c_X10_responseOf {g : Gw} {l : Launch} (p1 : Int32) (M : Mw) : Kw g l yX10_responseOf cX10_responseOf 5 (some .int) 3 0 0 [.ref (gA g 50 0 0), .int p1] M (fun v : Int32 => (some (.int v), M)) (F_X10_responseOf p1 M) := by
  refine Kw.of (own := RX10) (lv0 := [(0, .ref (gA g 50 0 0)), (1, .int p1)]) (by decide +kernel) rfl (Nat.le_of_ble_eq_true rfl) rfl (fun x C hl hm => ?_)
  subst hl
  unfold F_X10_responseOf
  refine r_aload_n C 0 dX10_responseOf_0 rfl rfl ?_
  refine gf_50_16 C dX10_responseOf_1 u_1121 in_50 ?_
  refine r_iload_n C 1 dX10_responseOf_4 rfl rfl ?_
  refine r_iald C dX10_responseOf_5 in_58 (contW_58 g _ _ _ _ _) (fun h1 => ?_)
  refine r_istore_n (lv' := fun v2 => [(2, .int v2), (0, .ref (gA g 50 0 0)), (1, .int p1)]) C dX10_responseOf_6 rfl (by decide) (fun _ => rfl) (fun v2 => ?_)
  refine r_lv [1, 2, 0] rfl ?_
  exact tl_X10_responseOf_7 C hm M p1 FU v2
def F_X10_response (p1 : Int32) (M : Mw) : Option (Int32 × Mw) :=
  ((F_X10_isTask p1 M).bind (fun v1 => (if v1 = 0 then some ((-2), M) else ((F_X10_laysCosts M).bind (fun M4 => ((F_X10_responseOf p1 M4).bind (fun v6 => some (v6, M4))))))))
set_option maxRecDepth 100000 in
set_option maxHeartbeats 4000000 in
theorem c_X10_response {g : Gw} {l : Launch} (p1 : Int32) (M : Mw) : Kw g l yX10_response cX10_response 2 (some .int) 6 0 0 [.ref (gA g 50 0 0), .int p1] M (fun q : Int32 × Mw => (some (.int q.1), q.2)) (F_X10_response p1 M) := by
  refine Kw.of (own := RX10) (lv0 := [(0, .ref (gA g 50 0 0)), (1, .int p1)]) (by decide +kernel) rfl (Nat.le_of_ble_eq_true rfl) rfl (fun x C hl hm => ?_)
  subst hl
  unfold F_X10_response
  refine r_aload_n C 0 dX10_response_0 rfl rfl ?_
  refine r_iload_n C 1 dX10_response_1 rfl rfl ?_
  refine r_callVRi (rest := []) C (c_X10_isTask p1 M) dX10_response_2 u_1266 in_50 (contW_50 g _ _ _ _ _) rfl u_1267 u_66 mi_X10_isTask (by decide) rfl rfl (Nat.le_of_ble_eq_true rfl) (xk1 hm (by decide)) (xn1 hm (by decide)) (fun v1 h2 => ?_)
  refine r_if_ne (tgt := 11) C dX10_response_5 (by decide) (fun h3 => ?_) (fun h3 => ?_)
  · refine r_bipush (v := (-2)) C dX10_response_8 (by decide) ?_
    exact r_iret C dX10_response_10 rfl rfl (xk0 hm) (xn0 hm)
  · refine r_aload_n C 0 dX10_response_11 rfl rfl ?_
    refine r_callVU (rest := []) C (c_X10_laysCosts M) dX10_response_12 u_1326 in_50 (contW_50 g _ _ _ _ _) rfl u_1327 u_77 mi_X10_laysCosts (by decide) rfl rfl (Nat.le_of_ble_eq_true rfl) (xk1 hm (by decide)) (xn1 hm (by decide)) (fun M4 h5 => ?_)
    refine r_aload_n C 0 dX10_response_15 rfl rfl ?_
    refine r_iload_n C 1 dX10_response_16 rfl rfl ?_
    refine r_callVRi (rest := []) C (c_X10_responseOf p1 M4) dX10_response_17 u_1329 in_50 (contW_50 g _ _ _ _ _) rfl u_1330 u_78 mi_X10_responseOf (by decide) rfl rfl (Nat.le_of_ble_eq_true rfl) (xk1 hm (by decide)) (xn1 hm (by decide)) (fun v6 h7 => ?_)
    exact r_iret C dX10_response_20 rfl rfl (xk0 hm) (xn0 hm)
def F_X10_boundOf (p1 : Int32) (p2 : Int32) (M : Mw) : Option (Int32) :=
  ((F_X10_responseOf p1 M).bind (fun v1 => (if inb p1 5 then (bd (v1 - (M.1 59 0 0 p1.toNatClampNeg)) (fun v4 => (if p2 = 0 then ((F_X10_period p1 M).bind (fun v6 => some (v6 - v4))) else (if p2 = 1 then ((F_X10_period p1 M).bind (fun v9 => some (v9 + v4))) else (if p2 = 2 then (if v4 ≤ (M.1 51 0 0 1) then ((F_X10_period p1 M).bind (fun v13 => (if v13 = 0 then none else some (((M.1 51 0 0 1) - v4) / v13)))) else some 0) else ((F_X10_period p1 M).bind (fun v16 => ((F_X10_period p1 M).bind (fun v18 => (if v18 = 0 then none else some (((((M.1 51 0 0 1) + v4) + v16) - 1) / v18))))))))))) else none)))
set_option maxRecDepth 100000 in
set_option maxHeartbeats 4000000 in
theorem c_X10_boundOf {g : Gw} {l : Launch} (p1 : Int32) (p2 : Int32) (M : Mw) : Kw g l yX10_boundOf cX10_boundOf 4 (some .int) 4 0 0 [.ref (gA g 50 0 0), .int p1, .int p2] M (fun v : Int32 => (some (.int v), M)) (F_X10_boundOf p1 p2 M) := by
  refine Kw.of (own := RX10) (lv0 := [(0, .ref (gA g 50 0 0)), (1, .int p1), (2, .int p2)]) (by decide +kernel) rfl (Nat.le_of_ble_eq_true rfl) rfl (fun x C hl hm => ?_)
  subst hl
  unfold F_X10_boundOf
  refine r_aload_n C 0 dX10_boundOf_0 rfl rfl ?_
  refine r_iload_n C 1 dX10_boundOf_1 rfl rfl ?_
  refine r_callVRi (rest := []) C (c_X10_responseOf p1 M) dX10_boundOf_2 u_1329 in_50 (contW_50 g _ _ _ _ _) rfl u_1330 u_78 mi_X10_responseOf (by decide) rfl rfl (Nat.le_of_ble_eq_true rfl) (xk1 hm (by decide)) (xn1 hm (by decide)) (fun v1 h2 => ?_)
  refine r_aload_n C 0 dX10_boundOf_5 rfl rfl ?_
  refine gf_50_17 C dX10_boundOf_6 u_1122 in_50 ?_
  refine r_iload_n C 1 dX10_boundOf_9 rfl rfl ?_
  refine r_iald C dX10_boundOf_10 in_59 (contW_59 g _ _ _ _ _) (fun h3 => ?_)
  refine r_isub C dX10_boundOf_11 ?_
  refine r_istore_n (lv' := fun v4 => [(3, .int v4), (0, .ref (gA g 50 0 0)), (1, .int p1), (2, .int p2)]) C dX10_boundOf_12 rfl (by decide) (fun _ => rfl) (fun v4 => ?_)
  refine r_iload_n C 3 dX10_boundOf_13 rfl rfl ?_
  refine r_ite (fun h5 => ?_) (fun h5 => ?_)
  · refine r_tsIn (v := 0) (tgt := 40) C dX10_boundOf_14 h5 (by decide) (by decide) rfl (by decide) ?_
    refine r_aload_n C 1 dX10_boundOf_40 rfl rfl ?_
    refine r_iload_n C 2 dX10_boundOf_41 rfl rfl ?_
    refine r_callVRi (rest := []) C (c_X10_period p1 M) dX10_boundOf_42 u_1332 in_50 (contW_50 g _ _ _ _ _) rfl u_1333 u_79 mi_X10_period (by decide) rfl rfl (Nat.le_of_ble_eq_true rfl) (xk1 hm (by decide)) (xn1 hm (by decide)) (fun v6 h7 => ?_)
    refine r_iload_n C 0 dX10_boundOf_45 rfl rfl ?_
    refine r_isub C dX10_boundOf_46 ?_
    exact r_iret C dX10_boundOf_47 rfl rfl (xk0 hm) (xn0 hm)
  refine r_ite (fun h8 => ?_) (fun h8 => ?_)
  · refine r_tsIn (v := 1) (tgt := 48) C dX10_boundOf_14 h8 (by decide) (by decide) rfl (by decide) ?_
    refine r_aload_n C 1 dX10_boundOf_48 rfl rfl ?_
    refine r_iload_n C 2 dX10_boundOf_49 rfl rfl ?_
    refine r_callVRi (rest := []) C (c_X10_period p1 M) dX10_boundOf_50 u_1332 in_50 (contW_50 g _ _ _ _ _) rfl u_1333 u_79 mi_X10_period (by decide) rfl rfl (Nat.le_of_ble_eq_true rfl) (xk1 hm (by decide)) (xn1 hm (by decide)) (fun v9 h10 => ?_)
    refine r_iload_n C 0 dX10_boundOf_53 rfl rfl ?_
    refine r_iadd C dX10_boundOf_54 ?_
    exact r_iret C dX10_boundOf_55 rfl rfl (xk0 hm) (xn0 hm)
  refine r_ite (fun h11 => ?_) (fun h11 => ?_)
  · refine r_tsIn (v := 2) (tgt := 56) C dX10_boundOf_14 h11 (by decide) (by decide) rfl (by decide) ?_
    refine r_aload_n C 1 dX10_boundOf_56 rfl rfl ?_
    refine gf_50_1 C dX10_boundOf_57 u_1106 in_50 ?_
    refine r_iconst (v := 1) C dX10_boundOf_60 (by decide) ?_
    refine r_ialdc C dX10_boundOf_61 in_51 (contW_51 g _ _ _ _ _) (by decide) (j := 1) (by decide) ?_
    refine r_iload_n C 0 dX10_boundOf_62 rfl rfl ?_
    refine r_icmp_ge (tgt := 70) C dX10_boundOf_63 (by decide) (fun h12 => ?_) (fun h12 => ?_)
    · refine r_aload_n C 1 dX10_boundOf_70 rfl rfl ?_
      refine gf_50_1 C dX10_boundOf_71 u_1106 in_50 ?_
      refine r_iconst (v := 1) C dX10_boundOf_74 (by decide) ?_
      refine r_ialdc C dX10_boundOf_75 in_51 (contW_51 g _ _ _ _ _) (by decide) (j := 1) (by decide) ?_
      refine r_iload_n C 0 dX10_boundOf_76 rfl rfl ?_
      refine r_isub C dX10_boundOf_77 ?_
      refine r_aload_n C 1 dX10_boundOf_78 rfl rfl ?_
      refine r_iload_n C 2 dX10_boundOf_79 rfl rfl ?_
      refine r_callVRi (rest := [.int ((M.1 51 0 0 1) - v4)]) C (c_X10_period p1 M) dX10_boundOf_80 u_1332 in_50 (contW_50 g _ _ _ _ _) rfl u_1333 u_79 mi_X10_period (by decide) rfl rfl (Nat.le_of_ble_eq_true rfl) (xk1 hm (by decide)) (xn1 hm (by decide)) (fun v13 h14 => ?_)
      refine r_idiv C dX10_boundOf_83 (fun h15 => ?_)
      exact r_iret C dX10_boundOf_84 rfl rfl (xk0 hm) (xn0 hm)
    · refine r_iconst (v := 0) C dX10_boundOf_66 (by decide) ?_
      refine r_goto (tgt := 84) C dX10_boundOf_67 (by decide) ?_
      exact r_iret C dX10_boundOf_84 rfl rfl (xk0 hm) (xn0 hm)
  refine r_tsOut (tgt := 85) C dX10_boundOf_14 (ts_out (fun z hz1 hz2 => ?_)) (by decide) ?_
  · have hz : z = 0 ∨ z = 1 ∨ z = 2 := by omega
    rcases hz with rfl | rfl | rfl
    · exact h5
    · exact h8
    · exact h11
  refine r_aload_n C 1 dX10_boundOf_85 rfl rfl ?_
  refine gf_50_1 C dX10_boundOf_86 u_1106 in_50 ?_
  refine r_iconst (v := 1) C dX10_boundOf_89 (by decide) ?_
  refine r_ialdc C dX10_boundOf_90 in_51 (contW_51 g _ _ _ _ _) (by decide) (j := 1) (by decide) ?_
  refine r_iload_n C 0 dX10_boundOf_91 rfl rfl ?_
  refine r_iadd C dX10_boundOf_92 ?_
  refine r_aload_n C 1 dX10_boundOf_93 rfl rfl ?_
  refine r_iload_n C 2 dX10_boundOf_94 rfl rfl ?_
  refine r_callVRi (rest := [.int ((M.1 51 0 0 1) + v4)]) C (c_X10_period p1 M) dX10_boundOf_95 u_1332 in_50 (contW_50 g _ _ _ _ _) rfl u_1333 u_79 mi_X10_period (by decide) rfl rfl (Nat.le_of_ble_eq_true rfl) (xk1 hm (by decide)) (xn1 hm (by decide)) (fun v16 h17 => ?_)
  refine r_iadd C dX10_boundOf_98 ?_
  refine r_iconst (v := 1) C dX10_boundOf_99 (by decide) ?_
  refine r_isub C dX10_boundOf_100 ?_
  refine r_aload_n C 1 dX10_boundOf_101 rfl rfl ?_
  refine r_iload_n C 2 dX10_boundOf_102 rfl rfl ?_
  refine r_callVRi (rest := [.int ((((M.1 51 0 0 1) + v4) + v16) - 1)]) C (c_X10_period p1 M) dX10_boundOf_103 u_1332 in_50 (contW_50 g _ _ _ _ _) rfl u_1333 u_79 mi_X10_period (by decide) rfl rfl (Nat.le_of_ble_eq_true rfl) (xk1 hm (by decide)) (xn1 hm (by decide)) (fun v18 h19 => ?_)
  refine r_idiv C dX10_boundOf_106 (fun h20 => ?_)
  exact r_iret C dX10_boundOf_107 rfl rfl (xk0 hm) (xn0 hm)
def F_X10_least (p1 : Int32) (p2 : Int32) (M : Mw) : Option (Int32 × Mw) :=
  ((F_X10_isTask p1 M).bind (fun v1 => (if v1 = 0 then some ((-2), M) else ((F_X10_in ((p2).toInt64) 0 3 M).bind (fun v4 => (if v4 = 0 then some ((-2), M) else ((F_X10_laysCosts M).bind (fun M7 => ((F_X10_responseOf p1 M7).bind (fun v9 => (if v9 = (-1) then some ((-1), M7) else ((F_X10_boundOf p1 p2 M7).bind (fun v12 => some (v12, M7))))))))))))))
set_option maxRecDepth 100000 in
set_option maxHeartbeats 4000000 in
theorem c_X10_least {g : Gw} {l : Launch} (p1 : Int32) (p2 : Int32) (M : Mw) : Kw g l yX10_least cX10_least 3 (some .int) 6 0 0 [.ref (gA g 50 0 0), .int p1, .int p2] M (fun q : Int32 × Mw => (some (.int q.1), q.2)) (F_X10_least p1 p2 M) := by
  refine Kw.of (own := RX10) (lv0 := [(0, .ref (gA g 50 0 0)), (1, .int p1), (2, .int p2)]) (by decide +kernel) rfl (Nat.le_of_ble_eq_true rfl) rfl (fun x C hl hm => ?_)
  subst hl
  unfold F_X10_least
  refine r_aload_n C 0 dX10_least_0 rfl rfl ?_
  refine r_iload_n C 1 dX10_least_1 rfl rfl ?_
  refine r_callVRi (rest := []) C (c_X10_isTask p1 M) dX10_least_2 u_1266 in_50 (contW_50 g _ _ _ _ _) rfl u_1267 u_66 mi_X10_isTask (by decide) rfl rfl (Nat.le_of_ble_eq_true rfl) (xk1 hm (by decide)) (xn1 hm (by decide)) (fun v1 h2 => ?_)
  refine r_if_eq (tgt := 20) C dX10_least_5 (by decide) (fun h3 => ?_) (fun h3 => ?_)
  · refine r_bipush (v := (-2)) C dX10_least_20 (by decide) ?_
    exact r_iret C dX10_least_22 rfl rfl (xk0 hm) (xn0 hm)
  · refine r_iload_n C 2 dX10_least_8 rfl rfl ?_
    refine r_i2l C dX10_least_9 ?_
    refine r_lconst (v := 0) C dX10_least_10 (by decide) ?_
    refine r_ldc2 (v := 3) C u_1339 dX10_least_11 ?_
    refine r_callSRi (rest := []) C (c_X10_in ((p2).toInt64) 0 3 M) dX10_least_14 u_1174 u_1175 mi_X10_in (by decide) rfl rfl (Nat.le_of_ble_eq_true rfl) (xk1 hm (by decide)) (xn1 hm (by decide)) (fun v4 h5 => ?_)
    refine r_if_ne (tgt := 23) C dX10_least_17 (by decide) (fun h6 => ?_) (fun h6 => ?_)
    · refine r_bipush (v := (-2)) C dX10_least_20 (by decide) ?_
      exact r_iret C dX10_least_22 rfl rfl (xk0 hm) (xn0 hm)
    · refine r_aload_n C 0 dX10_least_23 rfl rfl ?_
      refine r_callVU (rest := []) C (c_X10_laysCosts M) dX10_least_24 u_1326 in_50 (contW_50 g _ _ _ _ _) rfl u_1327 u_77 mi_X10_laysCosts (by decide) rfl rfl (Nat.le_of_ble_eq_true rfl) (xk1 hm (by decide)) (xn1 hm (by decide)) (fun M7 h8 => ?_)
      refine r_aload_n C 0 dX10_least_27 rfl rfl ?_
      refine r_iload_n C 1 dX10_least_28 rfl rfl ?_
      refine r_callVRi (rest := []) C (c_X10_responseOf p1 M7) dX10_least_29 u_1329 in_50 (contW_50 g _ _ _ _ _) rfl u_1330 u_78 mi_X10_responseOf (by decide) rfl rfl (Nat.le_of_ble_eq_true rfl) (xk1 hm (by decide)) (xn1 hm (by decide)) (fun v9 h10 => ?_)
      refine r_iconst (v := (-1)) C dX10_least_32 (by decide) ?_
      refine r_icmp_ne (tgt := 40) C dX10_least_33 (by decide) (fun h11 => ?_) (fun h11 => ?_)
      · refine r_iconst (v := (-1)) C dX10_least_36 (by decide) ?_
        refine r_goto (tgt := 46) C dX10_least_37 (by decide) ?_
        exact r_iret C dX10_least_46 rfl rfl (xk0 hm) (xn0 hm)
      · refine r_aload_n C 0 dX10_least_40 rfl rfl ?_
        refine r_iload_n C 1 dX10_least_41 rfl rfl ?_
        refine r_iload_n C 2 dX10_least_42 rfl rfl ?_
        refine r_callVRi (rest := []) C (c_X10_boundOf p1 p2 M7) dX10_least_43 u_1340 in_50 (contW_50 g _ _ _ _ _) rfl u_1341 u_80 mi_X10_boundOf (by decide) rfl rfl (Nat.le_of_ble_eq_true rfl) (xk1 hm (by decide)) (xn1 hm (by decide)) (fun v12 h13 => ?_)
        exact r_iret C dX10_least_46 rfl rfl (xk0 hm) (xn0 hm)
def F_X10_isBoard (M : Mw) : Option (Int32) :=
  (if (M.1 51 0 0 7) ≤ 0 then some 0 else some 1)
set_option maxRecDepth 100000 in
set_option maxHeartbeats 4000000 in
theorem c_X10_isBoard {g : Gw} {l : Launch} (M : Mw) : Kw g l yX10_isBoard cX10_isBoard 1 (some .boolean) 1 0 0 [.ref (gA g 50 0 0)] M (fun v : Int32 => (some (.int v), M)) (F_X10_isBoard M) := by
  refine Kw.of (own := RX10) (lv0 := [(0, .ref (gA g 50 0 0))]) (by decide +kernel) rfl (Nat.le_of_ble_eq_true rfl) rfl (fun x C hl hm => ?_)
  subst hl
  unfold F_X10_isBoard
  refine r_aload_n C 0 dX10_isBoard_0 rfl rfl ?_
  refine gf_50_1 C dX10_isBoard_1 u_1106 in_50 ?_
  refine r_bipush (v := 7) C dX10_isBoard_4 (by decide) ?_
  refine r_ialdc C dX10_isBoard_6 in_51 (contW_51 g _ _ _ _ _) (by decide) (j := 7) (by decide) ?_
  refine r_if_le (tgt := 14) C dX10_isBoard_7 (by decide) (fun h1 => ?_) (fun h1 => ?_)
  · refine r_iconst (v := 0) C dX10_isBoard_14 (by decide) ?_
    exact r_zretc C dX10_isBoard_15 rfl bz0 rfl (xk0 hm) (xn0 hm)
  · refine r_iconst (v := 1) C dX10_isBoard_10 (by decide) ?_
    refine r_goto (tgt := 15) C dX10_isBoard_11 (by decide) ?_
    exact r_zretc C dX10_isBoard_15 rfl bz1 rfl (xk0 hm) (xn0 hm)
