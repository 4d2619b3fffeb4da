def B_X6_put_3 (l1 : Int32) (k3 : Int32 → Mw → Option (Mw)) (l2 : Int32) (M : Mw) : Option (Mw) :=
  (if l2 < 0 then some M else (if 1000 ≤ (M.1 15 0 0 1) then some M else (if inb (M.1 15 0 0 1) 1000 then (bd (uIw M 16 0 0 (M.1 15 0 0 1).toNatClampNeg (((l1.toUInt32 >>> (l2.toUInt32 &&& Int32.toUInt32 31)).toInt32) &&& 255)) (fun M3 => (bd (uIw M3 15 0 0 1 ((M3.1 15 0 0 1) + 1)) (fun M5 => (bd (l2 + (-8)) (fun v6 => (k3 v6 M5))))))) else none)))
def F_X6_put (p1 : Int32) (M : Mw) : Option (Mw) :=
  (it (fun _ _ => none) (B_X6_put_3 p1) FU 24 M)
set_option maxRecDepth 100000 in
set_option maxHeartbeats 4000000 in
theorem t_X6_put_3 {g : Gw} {x : Xw} (C : Cw g x cX6_put RX6 3 none 1) (hm : x.2.2.2.2.2.2.2.2.2.2.2 = (0, 0)) (l1 : Int32) (k3 : Int32 → Mw → Option (Mw)) (hk3 : ∀ (l2 : Int32) (M : Mw), Sw g x (fun M : Mw => (none, M)) M 0 0 3 [(0, .ref (gA g 15 0 0)), (1, .int l1), (2, .int l2)] [] (k3 l2 M)) (l2 : Int32) (M : Mw) : Sw g x (fun M : Mw => (none, M)) M 0 0 3 [(0, .ref (gA g 15 0 0)), (1, .int l1), (2, .int l2)] [] (B_X6_put_3 l1 k3 l2 M) := by
  unfold B_X6_put_3
  refine r_iload_n C 2 dX6_put_3 rfl rfl ?_
  refine r_if_lt (tgt := 49) C dX6_put_4 (by decide) (fun h1 => ?_) (fun h1 => ?_)
  · exact r_vret C dX6_put_49 rfl rfl (xk0 hm) (xn0 hm)
  · refine r_aload_n C 0 dX6_put_7 rfl rfl ?_
    refine gf_15_1 C dX6_put_8 u_164 in_15 ?_
    refine r_sipush (v := 1000) C dX6_put_11 (by decide) ?_
    refine r_icmp_ge (tgt := 49) C dX6_put_14 (by decide) (fun h2 => ?_) (fun h2 => ?_)
    · exact r_vret C dX6_put_49 rfl rfl (xk0 hm) (xn0 hm)
    · refine r_aload_n C 0 dX6_put_17 rfl rfl ?_
      refine gf_15_0 C dX6_put_18 u_163 in_15 ?_
      refine r_aload_n C 0 dX6_put_21 rfl rfl ?_
      refine gf_15_1 C dX6_put_22 u_164 in_15 ?_
      refine r_iload_n C 1 dX6_put_25 rfl rfl ?_
      refine r_iload_n C 2 dX6_put_26 rfl rfl ?_
      refine r_iushr C dX6_put_27 ?_
      refine r_sipush (v := 255) C dX6_put_28 (by decide) ?_
      refine r_iand C dX6_put_31 ?_
      refine r_iast C dX6_put_32 in_16 (contW_16 g _ _) (fun M3 h4 => ?_)
      refine r_aload_n C 0 dX6_put_33 rfl rfl ?_
      refine r_dup C rfl dX6_put_34 ?_
      refine gf_15_1 C dX6_put_35 u_164 in_15 ?_
      refine r_iconst (v := 1) C dX6_put_38 (by decide) ?_
      refine r_iadd C dX6_put_39 ?_
      refine pf_15_1 C dX6_put_40 u_164 in_15 (fun M5 => ?_)
      refine r_iinc (c := (-8)) (lv' := fun v6 => [(2, .int v6), (0, .ref (gA g 15 0 0)), (1, .int l1)]) C 2 dX6_put_43 rfl (by decide) (by decide) (fun _ => rfl) (fun v6 => ?_)
      refine r_goto (tgt := 3) C dX6_put_46 (by decide) ?_
      refine r_lv [1, 2, 0] rfl ?_
      exact hk3 v6 M5
set_option maxRecDepth 100000 in
set_option maxHeartbeats 4000000 in
theorem tl_X6_put_3 {g : Gw} {x : Xw} (C : Cw g x cX6_put RX6 3 none 1) (hm : x.2.2.2.2.2.2.2.2.2.2.2 = (0, 0)) (l1 : Int32) (n : Nat) : ∀ (l2 : Int32) (M : Mw), Sw g x (fun M : Mw => (none, M)) M 0 0 3 [(0, .ref (gA g 15 0 0)), (1, .int l1), (2, .int l2)] [] (it (fun _ _ => none) (B_X6_put_3 l1) n l2 M) := by
  induction n with
  | zero =>
    intro l2 M
    exact r_none
  | succ n ih =>
    intro l2 M
    exact t_X6_put_3 C hm l1 _ ih l2 M
set_option maxRecDepth 100000 in
set_option maxHeartbeats 4000000 in
theorem c_X6_put {g : Gw} {l : Launch} (p1 : Int32) (M : Mw) : Kw g l yX6_put cX6_put 3 none 1 0 0 [.ref (gA g 15 0 0), .int p1] M (fun M : Mw => (none, M)) (F_X6_put p1 M) := by
  refine Kw.of (own := RX6) (lv0 := [(0, .ref (gA g 15 0 0)), (1, .int p1)]) (by decide +kernel) rfl (Nat.le_of_ble_eq_true rfl) rfl (fun x C hl hm => ?_)
  subst hl
  unfold F_X6_put
  refine r_bipush (v := 24) C dX6_put_0 (by decide) ?_
  refine r_istore_n0 (lv' := [(2, .int 24), (0, .ref (gA g 15 0 0)), (1, .int p1)]) C dX6_put_2 rfl (by decide) rfl ?_
  refine r_lv [1, 2, 0] rfl ?_
  exact tl_X6_put_3 C hm p1 FU 24 M
def F_X6_append (p1 : Int32) (p2 : Int32) (p3 : Int32) (p4 : Int32) (p5 : Int32) (M : Mw) : Option (Int32 × Mw) :=
  (if ((M.1 15 0 0 1) + 20) ≤ 1000 then ((F_X6_put p1 M).bind (fun M2 => ((F_X6_put p2 M2).bind (fun M4 => ((F_X6_put p3 M4).bind (fun M6 => ((F_X6_put p4 M6).bind (fun M8 => ((F_X6_put p5 M8).bind (fun M10 => some ((M10.1 15 0 0 1), M10))))))))))) else some ((-1), M))
set_option maxRecDepth 100000 in
set_option maxHeartbeats 4000000 in
theorem c_X6_append {g : Gw} {l : Launch} (p1 : Int32) (p2 : Int32) (p3 : Int32) (p4 : Int32) (p5 : Int32) (M : Mw) : Kw g l yX6_append cX6_append 6 (some .int) 2 0 0 [.ref (gA g 15 0 0), .int p1, .int p2, .int p3, .int p4, .int p5] M (fun q : Int32 × Mw => (some (.int q.1), q.2)) (F_X6_append p1 p2 p3 p4 p5 M) := by
  refine Kw.of (own := RX6) (lv0 := [(0, .ref (gA g 15 0 0)), (1, .int p1), (2, .int p2), (3, .int p3), (4, .int p4), (5, .int p5)]) (by decide +kernel) rfl (Nat.le_of_ble_eq_true rfl) rfl (fun x C hl hm => ?_)
  subst hl
  unfold F_X6_append
  refine r_aload_n C 0 dX6_append_0 rfl rfl ?_
  refine gf_15_1 C dX6_append_1 u_164 in_15 ?_
  refine r_bipush (v := 20) C dX6_append_4 (by decide) ?_
  refine r_iadd C dX6_append_6 ?_
  refine r_sipush (v := 1000) C dX6_append_7 (by decide) ?_
  refine r_icmp_le (tgt := 15) C dX6_append_10 (by decide) (fun h1 => ?_) (fun h1 => ?_)
  · refine r_aload_n C 0 dX6_append_15 rfl rfl ?_
    refine r_iload_n C 1 dX6_append_16 rfl rfl ?_
    refine r_callVU (rest := []) C (c_X6_put p1 M) dX6_append_17 u_381 in_15 (contW_15 g _ _ _ _ _) rfl u_382 u_0 mi_X6_put (by decide) rfl rfl (Nat.le_of_ble_eq_true rfl) (xk1 hm (by decide)) (xn1 hm (by decide)) (fun M2 h3 => ?_)
    refine r_aload_n C 0 dX6_append_20 rfl rfl ?_
    refine r_iload_n C 2 dX6_append_21 rfl rfl ?_
    refine r_callVU (rest := []) C (c_X6_put p2 M2) dX6_append_22 u_381 in_15 (contW_15 g _ _ _ _ _) rfl u_382 u_0 mi_X6_put (by decide) rfl rfl (Nat.le_of_ble_eq_true rfl) (xk1 hm (by decide)) (xn1 hm (by decide)) (fun M4 h5 => ?_)
    refine r_aload_n C 0 dX6_append_25 rfl rfl ?_
    refine r_iload_n C 3 dX6_append_26 rfl rfl ?_
    refine r_callVU (rest := []) C (c_X6_put p3 M4) dX6_append_27 u_381 in_15 (contW_15 g _ _ _ _ _) rfl u_382 u_0 mi_X6_put (by decide) rfl rfl (Nat.le_of_ble_eq_true rfl) (xk1 hm (by decide)) (xn1 hm (by decide)) (fun M6 h7 => ?_)
    refine r_aload_n C 0 dX6_append_30 rfl rfl ?_
    refine r_iload C 4 dX6_append_31 rfl ?_
    refine r_callVU (rest := []) C (c_X6_put p4 M6) dX6_append_33 u_381 in_15 (contW_15 g _ _ _ _ _) rfl u_382 u_0 mi_X6_put (by decide) rfl rfl (Nat.le_of_ble_eq_true rfl) (xk1 hm (by decide)) (xn1 hm (by decide)) (fun M8 h9 => ?_)
    refine r_aload_n C 0 dX6_append_36 rfl rfl ?_
    refine r_iload C 5 dX6_append_37 rfl ?_
    refine r_callVU (rest := []) C (c_X6_put p5 M8) dX6_append_39 u_381 in_15 (contW_15 g _ _ _ _ _) rfl u_382 u_0 mi_X6_put (by decide) rfl rfl (Nat.le_of_ble_eq_true rfl) (xk1 hm (by decide)) (xn1 hm (by decide)) (fun M10 h11 => ?_)
    refine r_aload_n C 0 dX6_append_42 rfl rfl ?_
    refine gf_15_1 C dX6_append_43 u_164 in_15 ?_
    exact r_iret C dX6_append_46 rfl rfl (xk0 hm) (xn0 hm)
  · refine r_iconst (v := (-1)) C dX6_append_13 (by decide) ?_
    exact r_iret C dX6_append_14 rfl rfl (xk0 hm) (xn0 hm)
def F_X9_feed (p1 : Int32) (p2 : Int32) (p3 : Int32) (p4 : Int32) (p5 : Int32) (M : Mw) : Option (Int32 × Mw) :=
  ((F_X6_append p1 p2 p3 p4 p5 M).bind (fun q1 => some (q1.1, q1.2)))
set_option maxRecDepth 100000 in
set_option maxHeartbeats 4000000 in
theorem c_X9_feed {g : Gw} {l : Launch} (p1 : Int32) (p2 : Int32) (p3 : Int32) (p4 : Int32) (p5 : Int32) (M : Mw) : Kw g l yX9_feed cX9_feed 6 (some .int) 3 0 0 [.ref (gA g 41 0 0), .int p1, .int p2, .int p3, .int p4, .int p5] M (fun q : Int32 × Mw => (some (.int q.1), q.2)) (F_X9_feed p1 p2 p3 p4 p5 M) := by
  refine Kw.of (own := RX9) (lv0 := [(0, .ref (gA g 41 0 0)), (1, .int p1), (2, .int p2), (3, .int p3), (4, .int p4), (5, .int p5)]) (by decide +kernel) rfl (Nat.le_of_ble_eq_true rfl) rfl (fun x C hl hm => ?_)
  subst hl
  unfold F_X9_feed
  refine r_aload_n C 0 dX9_feed_0 rfl rfl ?_
  refine gf_41_0 C dX9_feed_1 u_364 in_41 ?_
  refine gf_13_0 C dX9_feed_4 u_240 in_13 ?_
  refine r_iload_n C 1 dX9_feed_7 rfl rfl ?_
  refine r_iload_n C 2 dX9_feed_8 rfl rfl ?_
  refine r_iload_n C 3 dX9_feed_9 rfl rfl ?_
  refine r_iload C 4 dX9_feed_10 rfl ?_
  refine r_iload C 5 dX9_feed_12 rfl ?_
  refine r_callVWi (rest := []) C (c_X6_append p1 p2 p3 p4 p5 M) dX9_feed_14 u_377 in_15 (contW_15 g _ _ _ _ _) rfl u_378 u_379 mi_X6_append (by decide) rfl rfl (Nat.le_of_ble_eq_true rfl) (xk1 hm (by decide)) (xn1 hm (by decide)) (fun q1 h2 => ?_)
  exact r_iret C dX9_feed_17 rfl rfl (xk0 hm) (xn0 hm)
def F_X6_cut (p1 : Int32) (M : Mw) : Option (Int32 × Mw) :=
  (if p1 < 0 then some ((-1), M) else (if p1 ≤ (M.1 15 0 0 1) then (bd (uIw M 15 0 0 1 p1) (fun M3 => some (p1, M3))) else some ((-1), M)))
set_option maxRecDepth 100000 in
set_option maxHeartbeats 4000000 in
theorem c_X6_cut {g : Gw} {l : Launch} (p1 : Int32) (M : Mw) : Kw g l yX6_cut cX6_cut 2 (some .int) 1 0 0 [.ref (gA g 15 0 0), .int p1] M (fun q : Int32 × Mw => (some (.int q.1), q.2)) (F_X6_cut p1 M) := by
  refine Kw.of (own := RX6) (lv0 := [(0, .ref (gA g 15 0 0)), (1, .int p1)]) (by decide +kernel) rfl (Nat.le_of_ble_eq_true rfl) rfl (fun x C hl hm => ?_)
  subst hl
  unfold F_X6_cut
  refine r_iload_n C 1 dX6_cut_0 rfl rfl ?_
  refine r_if_lt (tgt := 12) C dX6_cut_1 (by decide) (fun h1 => ?_) (fun h1 => ?_)
  · refine r_iconst (v := (-1)) C dX6_cut_12 (by decide) ?_
    exact r_iret C dX6_cut_13 rfl rfl (xk0 hm) (xn0 hm)
  · refine r_iload_n C 1 dX6_cut_4 rfl rfl ?_
    refine r_aload_n C 0 dX6_cut_5 rfl rfl ?_
    refine gf_15_1 C dX6_cut_6 u_164 in_15 ?_
    refine r_icmp_le (tgt := 14) C dX6_cut_9 (by decide) (fun h2 => ?_) (fun h2 => ?_)
    · refine r_aload_n C 0 dX6_cut_14 rfl rfl ?_
      refine r_iload_n C 1 dX6_cut_15 rfl rfl ?_
      refine pf_15_1 C dX6_cut_16 u_164 in_15 (fun M3 => ?_)
      refine r_iload_n C 1 dX6_cut_19 rfl rfl ?_
      exact r_iret C dX6_cut_20 rfl rfl (xk0 hm) (xn0 hm)
    · refine r_iconst (v := (-1)) C dX6_cut_12 (by decide) ?_
      exact r_iret C dX6_cut_13 rfl rfl (xk0 hm) (xn0 hm)
def F_X9_end (p1 : Int32) (M : Mw) : Option (Int32 × Mw) :=
  ((F_X6_cut p1 M).bind (fun q1 => some (q1.1, q1.2)))
set_option maxRecDepth 100000 in
set_option maxHeartbeats 4000000 in
theorem c_X9_end {g : Gw} {l : Launch} (p1 : Int32) (M : Mw) : Kw g l yX9_end cX9_end 2 (some .int) 2 0 0 [.ref (gA g 41 0 0), .int p1] M (fun q : Int32 × Mw => (some (.int q.1), q.2)) (F_X9_end p1 M) := by
  refine Kw.of (own := RX9) (lv0 := [(0, .ref (gA g 41 0 0)), (1, .int p1)]) (by decide +kernel) rfl (Nat.le_of_ble_eq_true rfl) rfl (fun x C hl hm => ?_)
  subst hl
  unfold F_X9_end
  refine r_aload_n C 0 dX9_end_0 rfl rfl ?_
  refine gf_41_0 C dX9_end_1 u_364 in_41 ?_
  refine gf_13_0 C dX9_end_4 u_240 in_13 ?_
  refine r_iload_n C 1 dX9_end_7 rfl rfl ?_
  refine r_callVWi (rest := []) C (c_X6_cut p1 M) dX9_end_8 u_388 in_15 (contW_15 g _ _ _ _ _) rfl u_389 u_390 mi_X6_cut (by decide) rfl rfl (Nat.le_of_ble_eq_true rfl) (xk1 hm (by decide)) (xn1 hm (by decide)) (fun q1 h2 => ?_)
  exact r_iret C dX9_end_11 rfl rfl (xk0 hm) (xn0 hm)
def B_X0_clear_59 (b : Nat) (k42 : Int32 → Mw → Option (Mw)) (l1 : Int32) (k59 : Int32 → Mw → Option (Mw)) (l2 : Int32) (M : Mw) : Option (Mw) :=
  (if 6 ≤ l2 then (bd (l1 + 1) (fun v13 => (k42 v13 M))) else (if inb l1 5 then (if inb l2 6 then (bd (uIw M 8 b l1.toNatClampNeg l2.toNatClampNeg 0) (fun M15 => (bd (l2 + 1) (fun v17 => (k59 v17 M15))))) else none) else none))
def B_X0_clear_42 (b : Nat) (k42 : Int32 → Mw → Option (Mw)) (l1 : Int32) (M : Mw) : Option (Mw) :=
  (if 5 ≤ l1 then some M else (if inb l1 5 then (bd (uIw M 4 b l1.toNatClampNeg 6 0) (fun M11 => (it (fun _ _ => none) (B_X0_clear_59 b k42 l1) FU 0 M11))) else none))
def F_X0_clear (b : Nat) (M : Mw) : Option (Mw) :=
  (bd (uIw M 0 b 0 0 0) (fun M1 => (bd (uIw M1 0 b 0 1 0) (fun M2 => (bd (uIw M2 0 b 0 2 0) (fun M3 => (bd (uIw M3 0 b 0 3 0) (fun M4 => (bd (uIw M4 0 b 0 4 0) (fun M5 => (bd (uIw M5 0 b 0 5 0) (fun M6 => (bd (uIw M6 0 b 0 6 0) (fun M7 => (bd (uIw M7 0 b 0 7 0) (fun M8 => (it (fun _ _ => none) (B_X0_clear_42 b) FU 0 M8)))))))))))))))))
set_option maxRecDepth 100000 in
set_option maxHeartbeats 4000000 in
theorem t_X0_clear_59 {g : Gw} {x : Xw} (C : Cw g x cX0_clear RX0 3 none 1) (hm : x.2.2.2.2.2.2.2.2.2.2.2 = (0, 0)) {b : Nat} (hb : b < 8) (k42 : Int32 → Mw → Option (Mw)) (l1 : Int32) (hk42 : ∀ (l1 : Int32) (M : Mw), Sw g x (fun M : Mw => (none, M)) M 0 0 42 [(0, .ref (gA g 0 b 0)), (1, .int l1)] [] (k42 l1 M)) (k59 : Int32 → Mw → Option (Mw)) (hk59 : ∀ (l2 : Int32) (M : Mw), Sw g x (fun M : Mw => (none, M)) M 0 0 59 [(0, .ref (gA g 0 b 0)), (1, .int l1), (2, .int l2)] [] (k59 l2 M)) (l2 : Int32) (M : Mw) : Sw g x (fun M : Mw => (none, M)) M 0 0 59 [(0, .ref (gA g 0 b 0)), (1, .int l1), (2, .int l2)] [] (B_X0_clear_59 b k42 l1 k59 l2 M) := by
  unfold B_X0_clear_59
  refine r_iload_n C 2 dX0_clear_59 rfl rfl ?_
  refine r_bipush (v := 6) C dX0_clear_60 (by decide) ?_
  refine r_icmp_ge (tgt := 80) C dX0_clear_62 (by decide) (fun h12 => ?_) (fun h12 => ?_)
  · refine r_iinc (c := 1) (lv' := fun v13 => [(1, .int v13), (0, .ref (gA g 0 b 0)), (2, .int l2)]) C 1 dX0_clear_80 rfl (by decide) (by decide) (fun _ => rfl) (fun v13 => ?_)
    refine r_goto (tgt := 42) C dX0_clear_83 (by decide) ?_
    refine r_lv [1, 0] rfl ?_
    exact hk42 v13 M
  · refine r_aload_n C 0 dX0_clear_65 rfl rfl ?_
    refine gf_0_12 C dX0_clear_66 u_229 (in_0 hb) ?_
    refine r_iload_n C 1 dX0_clear_69 rfl rfl ?_
    refine r_aald (t0 := 5) (ty := .array .int) C dX0_clear_70 (in_7 hb) (contW_7 g _ _ _ _ _) rfl rfl (fun h14 => ?_)
    refine r_iload_n C 2 dX0_clear_71 rfl rfl ?_
    refine r_iconst (v := 0) C dX0_clear_72 (by decide) ?_
    refine r_iast C dX0_clear_73 (in_8 hb (inb_lt h14)) (contW_8 g _ _) (fun M15 h16 => ?_)
    refine r_iinc (c := 1) (lv' := fun v17 => [(2, .int v17), (0, .ref (gA g 0 b 0)), (1, .int l1)]) C 2 dX0_clear_74 rfl (by decide) (by decide) (fun _ => rfl) (fun v17 => ?_)
    refine r_goto (tgt := 59) C dX0_clear_77 (by decide) ?_
    refine r_lv [1, 2, 0] rfl ?_
    exact hk59 v17 M15
set_option maxRecDepth 100000 in
set_option maxHeartbeats 4000000 in
theorem tl_X0_clear_59 {g : Gw} {x : Xw} (C : Cw g x cX0_clear RX0 3 none 1) (hm : x.2.2.2.2.2.2.2.2.2.2.2 = (0, 0)) {b : Nat} (hb : b < 8) (k42 : Int32 → Mw → Option (Mw)) (l1 : Int32) (hk42 : ∀ (l1 : Int32) (M : Mw), Sw g x (fun M : Mw => (none, M)) M 0 0 42 [(0, .ref (gA g 0 b 0)), (1, .int l1)] [] (k42 l1 M)) (n : Nat) : ∀ (l2 : Int32) (M : Mw), Sw g x (fun M : Mw => (none, M)) M 0 0 59 [(0, .ref (gA g 0 b 0)), (1, .int l1), (2, .int l2)] [] (it (fun _ _ => none) (B_X0_clear_59 b k42 l1) n l2 M) := by
  induction n with
  | zero =>
    intro l2 M
    exact r_none
  | succ n ih =>
    intro l2 M
    exact t_X0_clear_59 C hm hb k42 l1 hk42 _ ih l2 M
set_option maxRecDepth 100000 in
set_option maxHeartbeats 4000000 in
theorem t_X0_clear_42 {g : Gw} {x : Xw} (C : Cw g x cX0_clear RX0 3 none 1) (hm : x.2.2.2.2.2.2.2.2.2.2.2 = (0, 0)) {b : Nat} (hb : b < 8) (k42 : Int32 → Mw → Option (Mw)) (hk42 : ∀ (l1 : Int32) (M : Mw), Sw g x (fun M : Mw => (none, M)) M 0 0 42 [(0, .ref (gA g 0 b 0)), (1, .int l1)] [] (k42 l1 M)) (l1 : Int32) (M : Mw) : Sw g x (fun M : Mw => (none, M)) M 0 0 42 [(0, .ref (gA g 0 b 0)), (1, .int l1)] [] (B_X0_clear_42 b k42 l1 M) := by
  unfold B_X0_clear_42
  refine r_iload_n C 1 dX0_clear_42 rfl rfl ?_
  refine r_iconst (v := 5) C dX0_clear_43 (by decide) ?_
  refine r_icmp_ge (tgt := 86) C dX0_clear_44 (by decide) (fun h9 => ?_) (fun h9 => ?_)
  · exact r_vret C dX0_clear_86 rfl rfl (xk0 hm) (xn0 hm)
  · refine r_aload_n C 0 dX0_clear_47 rfl rfl ?_
    refine gf_0_10 C dX0_clear_48 u_218 (in_0 hb) ?_
    refine r_iload_n C 1 dX0_clear_51 rfl rfl ?_
    refine r_aald (t0 := 5) (ty := .array .int) C dX0_clear_52 (in_3 hb) (contW_3 g _ _ _ _ _) rfl rfl (fun h10 => ?_)
    refine r_bipush (v := 6) C dX0_clear_53 (by decide) ?_
    refine r_iconst (v := 0) C dX0_clear_55 (by decide) ?_
    refine r_iastc C dX0_clear_56 (in_4 hb (inb_lt h10)) (contW_4 g _ _) (by decide) (j := 6) (by decide) (fun M11 => ?_)
    refine r_iconst (v := 0) C dX0_clear_57 (by decide) ?_
    refine r_istore_n0 (lv' := [(2, .int 0), (0, .ref (gA g 0 b 0)), (1, .int l1)]) C dX0_clear_58 rfl (by decide) rfl ?_
    refine r_lv [1, 2, 0] rfl ?_
    exact tl_X0_clear_59 C hm hb k42 l1 hk42 FU 0 M11
set_option maxRecDepth 100000 in
set_option maxHeartbeats 4000000 in
theorem tl_X0_clear_42 {g : Gw} {x : Xw} (C : Cw g x cX0_clear RX0 3 none 1) (hm : x.2.2.2.2.2.2.2.2.2.2.2 = (0, 0)) {b : Nat} (hb : b < 8) (n : Nat) : ∀ (l1 : Int32) (M : Mw), Sw g x (fun M : Mw => (none, M)) M 0 0 42 [(0, .ref (gA g 0 b 0)), (1, .int l1)] [] (it (fun _ _ => none) (B_X0_clear_42 b) n l1 M) := by
  induction n with
  | zero =>
    intro l1 M
    exact r_none
  | succ n ih =>
    intro l1 M
    exact t_X0_clear_42 C hm hb _ ih l1 M
set_option maxRecDepth 100000 in
set_option maxHeartbeats 4000000 in
theorem c_X0_clear {g : Gw} {l : Launch} {b : Nat} (hb : b < 8) (M : Mw) : Kw g l yX0_clear cX0_clear 3 none 1 0 0 [.ref (gA g 0 b 0)] M (fun M : Mw => (none, M)) (F_X0_clear b M) := by
  refine Kw.of (own := RX0) (lv0 := [(0, .ref (gA g 0 b 0))]) (by decide +kernel) rfl (Nat.le_of_ble_eq_true rfl) rfl (fun x C hl hm => ?_)
  subst hl
  unfold F_X0_clear
  refine r_aload_n C 0 dX0_clear_0 rfl rfl ?_
  refine r_iconst (v := 0) C dX0_clear_1 (by decide) ?_
  refine pf_0_0 C dX0_clear_2 u_180 (in_0 hb) (fun M1 => ?_)
  refine r_aload_n C 0 dX0_clear_5 rfl rfl ?_
  refine r_iconst (v := 0) C dX0_clear_6 (by decide) ?_
  refine pf_0_1 C dX0_clear_7 u_184 (in_0 hb) (fun M2 => ?_)
  refine r_aload_n C 0 dX0_clear_10 rfl rfl ?_
  refine r_iconst (v := 0) C dX0_clear_11 (by decide) ?_
  refine pf_0_2 C dX0_clear_12 u_189 (in_0 hb) (fun M3 => ?_)
  refine r_aload_n C 0 dX0_clear_15 rfl rfl ?_
  refine r_iconst (v := 0) C dX0_clear_16 (by decide) ?_
  refine pf_0_3 C dX0_clear_17 u_193 (in_0 hb) (fun M4 => ?_)
  refine r_aload_n C 0 dX0_clear_20 rfl rfl ?_
  refine r_iconst (v := 0) C dX0_clear_21 (by decide) ?_
  refine pf_0_4 C dX0_clear_22 u_196 (in_0 hb) (fun M5 => ?_)
  refine r_aload_n C 0 dX0_clear_25 rfl rfl ?_
  refine r_iconst (v := 0) C dX0_clear_26 (by decide) ?_
  refine pf_0_5 C dX0_clear_27 u_200 (in_0 hb) (fun M6 => ?_)
  refine r_aload_n C 0 dX0_clear_30 rfl rfl ?_
  refine r_iconst (v := 0) C dX0_clear_31 (by decide) ?_
  refine pf_0_6 C dX0_clear_32 u_205 (in_0 hb) (fun M7 => ?_)
  refine r_aload_n C 0 dX0_clear_35 rfl rfl ?_
  refine r_iconst (v := 0) C dX0_clear_36 (by decide) ?_
  refine pf_0_7 C dX0_clear_37 u_210 (in_0 hb) (fun M8 => ?_)
  refine r_iconst (v := 0) C dX0_clear_40 (by decide) ?_
  refine r_istore_n0 (lv' := [(1, .int 0), (0, .ref (gA g 0 b 0))]) C dX0_clear_41 rfl (by decide) rfl ?_
  refine r_lv [1, 0] rfl ?_
  exact tl_X0_clear_42 C hm hb FU 0 M8
def B_X6_kindAt_49 (l2 : Int32) (M : Mw) : Option (Int32) :=
  (if l2 = 32 then some 5 else (if l2 = 10 then some 5 else (if l2 = 59 then some 2 else some 3)))
def B_X6_kindAt_35 (l2 : Int32) (M : Mw) : Option (Int32) :=
  (if l2 < 48 then (B_X6_kindAt_49 l2 M) else (if 57 < l2 then (B_X6_kindAt_49 l2 M) else some 1))
def F_X6_kindAt (p1 : Int32) (M : Mw) : Option (Int32) :=
  (if p1 < 0 then some 4 else (if p1 < (M.1 15 0 0 1) then (if inb p1 1000 then (bd (M.1 16 0 0 p1.toNatClampNeg) (fun v4 => (if v4 < 97 then (B_X6_kindAt_35 v4 M) else (if 122 < v4 then (B_X6_kindAt_35 v4 M) else some 0)))) else none) else some 4))
set_option maxRecDepth 100000 in
set_option maxHeartbeats 4000000 in
theorem t_X6_kindAt_49 {g : Gw} {x : Xw} (C : Cw g x cX6_kindAt RX6 3 (some .int) 1) (hm : x.2.2.2.2.2.2.2.2.2.2.2 = (0, 0)) (M : Mw) (l2 : Int32) : Sw g x (fun v : Int32 => (some (.int v), M)) M 0 0 49 [(2, .int l2)] [] (B_X6_kindAt_49 l2 M) := by
  unfold B_X6_kindAt_49
  refine r_iload_n C 0 dX6_kindAt_49 rfl rfl ?_
  refine r_bipush (v := 32) C dX6_kindAt_50 (by decide) ?_
  refine r_icmp_eq (tgt := 61) C dX6_kindAt_52 (by decide) (fun h7 => ?_) (fun h7 => ?_)
  · refine r_iconst (v := 5) C dX6_kindAt_61 (by decide) ?_
    exact r_iret C dX6_kindAt_62 rfl rfl (xk0 hm) (xn0 hm)
  · refine r_iload_n C 0 dX6_kindAt_55 rfl rfl ?_
    refine r_bipush (v := 10) C dX6_kindAt_56 (by decide) ?_
    refine r_icmp_ne (tgt := 63) C dX6_kindAt_58 (by decide) (fun h8 => ?_) (fun h8 => ?_)
    · refine r_iconst (v := 5) C dX6_kindAt_61 (by decide) ?_
      exact r_iret C dX6_kindAt_62 rfl rfl (xk0 hm) (xn0 hm)
    · refine r_iload_n C 0 dX6_kindAt_63 rfl rfl ?_
      refine r_bipush (v := 59) C dX6_kindAt_64 (by decide) ?_
      refine r_icmp_ne (tgt := 73) C dX6_kindAt_66 (by decide) (fun h9 => ?_) (fun h9 => ?_)
      · refine r_iconst (v := 2) C dX6_kindAt_69 (by decide) ?_
        refine r_goto (tgt := 74) C dX6_kindAt_70 (by decide) ?_
        exact r_iret C dX6_kindAt_74 rfl rfl (xk0 hm) (xn0 hm)
      · refine r_iconst (v := 3) C dX6_kindAt_73 (by decide) ?_
        exact r_iret C dX6_kindAt_74 rfl rfl (xk0 hm) (xn0 hm)
set_option maxRecDepth 100000 in
set_option maxHeartbeats 4000000 in
theorem t_X6_kindAt_35 {g : Gw} {x : Xw} (C : Cw g x cX6_kindAt RX6 3 (some .int) 1) (hm : x.2.2.2.2.2.2.2.2.2.2.2 = (0, 0)) (M : Mw) (l2 : Int32) : Sw g x (fun v : Int32 => (some (.int v), M)) M 0 0 35 [(2, .int l2)] [] (B_X6_kindAt_35 l2 M) := by
  unfold B_X6_kindAt_35
  refine r_iload_n C 0 dX6_kindAt_35 rfl rfl ?_
  refine r_bipush (v := 48) C dX6_kindAt_36 (by decide) ?_
  refine r_icmp_lt (tgt := 49) C dX6_kindAt_38 (by decide) (fun h6 => ?_) (fun h6 => ?_)
  · exact t_X6_kindAt_49 C hm M l2
  · refine r_iload_n C 0 dX6_kindAt_41 rfl rfl ?_
    refine r_bipush (v := 57) C dX6_kindAt_42 (by decide) ?_
    refine r_icmp_gt (tgt := 49) C dX6_kindAt_44 (by decide) (fun h10 => ?_) (fun h10 => ?_)
    · exact t_X6_kindAt_49 C hm M l2
    · refine r_iconst (v := 1) C dX6_kindAt_47 (by decide) ?_
      exact r_iret C dX6_kindAt_48 rfl rfl (xk0 hm) (xn0 hm)
set_option maxRecDepth 100000 in
set_option maxHeartbeats 4000000 in
theorem c_X6_kindAt {g : Gw} {l : Launch} (p1 : Int32) (M : Mw) : Kw g l yX6_kindAt cX6_kindAt 3 (some .int) 1 0 0 [.ref (gA g 15 0 0), .int p1] M (fun v : Int32 => (some (.int v), M)) (F_X6_kindAt p1 M) := by
  refine Kw.of (own := RX6) (lv0 := [(0, .ref (gA g 15 0 0)), (1, .int p1)]) (by decide +kernel) rfl (Nat.le_of_ble_eq_true rfl) rfl (fun x C hl hm => ?_)
  subst hl
  unfold F_X6_kindAt
  refine r_iload_n C 1 dX6_kindAt_0 rfl rfl ?_
  refine r_if_lt (tgt := 12) C dX6_kindAt_1 (by decide) (fun h1 => ?_) (fun h1 => ?_)
  · refine r_iconst (v := 4) C dX6_kindAt_12 (by decide) ?_
    exact r_iret C dX6_kindAt_13 rfl rfl (xk0 hm) (xn0 hm)
  · refine r_iload_n C 1 dX6_kindAt_4 rfl rfl ?_
    refine r_aload_n C 0 dX6_kindAt_5 rfl rfl ?_
    refine gf_15_1 C dX6_kindAt_6 u_164 in_15 ?_
    refine r_icmp_lt (tgt := 14) C dX6_kindAt_9 (by decide) (fun h2 => ?_) (fun h2 => ?_)
    · refine r_aload_n C 0 dX6_kindAt_14 rfl rfl ?_
      refine gf_15_0 C dX6_kindAt_15 u_163 in_15 ?_
      refine r_iload_n C 1 dX6_kindAt_18 rfl rfl ?_
      refine r_iald C dX6_kindAt_19 in_16 (contW_16 g _ _ _ _ _) (fun h3 => ?_)
      refine r_istore_n (lv' := fun v4 => [(2, .int v4), (0, .ref (gA g 15 0 0)), (1, .int p1)]) C dX6_kindAt_20 rfl (by decide) (fun _ => rfl) (fun v4 => ?_)
      refine r_iload_n C 0 dX6_kindAt_21 rfl rfl ?_
      refine r_bipush (v := 97) C dX6_kindAt_22 (by decide) ?_
      refine r_icmp_lt (tgt := 35) C dX6_kindAt_24 (by decide) (fun h5 => ?_) (fun h5 => ?_)
      · refine r_lv [0] rfl ?_
        exact t_X6_kindAt_35 C hm M v4
      · refine r_iload_n C 0 dX6_kindAt_27 rfl rfl ?_
        refine r_bipush (v := 122) C dX6_kindAt_28 (by decide) ?_
        refine r_icmp_gt (tgt := 35) C dX6_kindAt_30 (by decide) (fun h11 => ?_) (fun h11 => ?_)
        · refine r_lv [0] rfl ?_
          exact t_X6_kindAt_35 C hm M v4
        · refine r_iconst (v := 0) C dX6_kindAt_33 (by decide) ?_
          exact r_iret C dX6_kindAt_34 rfl rfl (xk0 hm) (xn0 hm)
    · refine r_iconst (v := 4) C dX6_kindAt_12 (by decide) ?_
      exact r_iret C dX6_kindAt_13 rfl rfl (xk0 hm) (xn0 hm)
def B_X6_advance_195 (k129 : Mw → Option (Mw)) (s0 : Int32) (M : Mw) : Option (Mw) :=
  (bd (uIw M 15 0 0 5 s0) (fun M17 => (bd (uIw M17 15 0 0 4 ((M17.1 15 0 0 4) + 1)) (fun M18 => (k129 M18)))))
def B_X6_advance_129 (k129 : Mw → Option (Mw)) (M : Mw) : Option (Mw) :=
  (if (M.1 15 0 0 1) ≤ (M.1 15 0 0 4) then some M else (if (M.1 15 0 0 2) = 1 then ((F_X6_kindAt (M.1 15 0 0 4) M).bind (fun v12 => (if v12 = 1 then (if (M.1 15 0 0 5) < 100000 then (if inb (M.1 15 0 0 4) 1000 then (B_X6_advance_195 k129 ((((M.1 15 0 0 5) * 10) + (M.1 16 0 0 (M.1 15 0 0 4).toNatClampNeg)) - 48) M) else none) else (B_X6_advance_195 k129 100000 M)) else some M))) else some M))
def B_X6_advance_87 (k87 : Mw → Option (Mw)) (M : Mw) : Option (Mw) :=
  (if (M.1 15 0 0 1) ≤ (M.1 15 0 0 4) then (it (fun _ => none) (B_X6_advance_129) FU M) else (if (M.1 15 0 0 2) = 0 then ((F_X6_kindAt (M.1 15 0 0 4) M).bind (fun v20 => (if v20 = 0 then (bd (uIw M 15 0 0 4 ((M.1 15 0 0 4) + 1)) (fun M23 => (k87 M23))) else (it (fun _ => none) (B_X6_advance_129) FU M)))) else (it (fun _ => none) (B_X6_advance_129) FU M)))
def B_X6_advance_77 (M : Mw) : Option (Mw) :=
  (bd (uIw M 15 0 0 4 ((M.1 15 0 0 4) + 1)) (fun M8 => (it (fun _ => none) (B_X6_advance_87) FU M8)))
def B_X6_advance_36 (M : Mw) : Option (Mw) :=
  (bd (uIw M 15 0 0 3 (M.1 15 0 0 4)) (fun M2 => (bd (uIw M2 15 0 0 5 0) (fun M3 => ((F_X6_kindAt (M3.1 15 0 0 4) M3).bind (fun v4 => (bd (uIw M3 15 0 0 2 v4) (fun M6 => (if (M6.1 15 0 0 2) = 2 then (B_X6_advance_77 M6) else (if (M6.1 15 0 0 2) = 3 then (B_X6_advance_77 M6) else (it (fun _ => none) (B_X6_advance_87) FU M6)))))))))))
def B_X6_advance_0 (k0 : Mw → Option (Mw)) (M : Mw) : Option (Mw) :=
  (if (M.1 15 0 0 1) ≤ (M.1 15 0 0 4) then (B_X6_advance_36 M) else ((F_X6_kindAt (M.1 15 0 0 4) M).bind (fun v25 => (if v25 = 5 then (bd (uIw M 15 0 0 4 ((M.1 15 0 0 4) + 1)) (fun M28 => (k0 M28))) else (B_X6_advance_36 M)))))
def F_X6_advance (M : Mw) : Option (Mw) :=
  (it (fun _ => none) (B_X6_advance_0) FU M)
set_option maxRecDepth 100000 in
set_option maxHeartbeats 4000000 in
theorem t_X6_advance_195 {g : Gw} {x : Xw} (C : Cw g x cX6_advance RX6 1 none 2) (hm : x.2.2.2.2.2.2.2.2.2.2.2 = (0, 0)) (k129 : Mw → Option (Mw)) (s0 : Int32) (hk129 : ∀ (M : Mw), Sw g x (fun M : Mw => (none, M)) M 0 0 129 [(0, .ref (gA g 15 0 0))] [] (k129 M)) (M : Mw) : Sw g x (fun M : Mw => (none, M)) M 0 0 195 [(0, .ref (gA g 15 0 0))] [.int s0, .ref (gA g 15 0 0)] (B_X6_advance_195 k129 s0 M) := by
  unfold B_X6_advance_195
  refine pf_15_5 C dX6_advance_195 u_171 in_15 (fun M17 => ?_)
  refine r_aload_n C 0 dX6_advance_198 rfl rfl ?_
  refine r_dup C rfl dX6_advance_199 ?_
  refine gf_15_4 C dX6_advance_200 u_170 in_15 ?_
  refine r_iconst (v := 1) C dX6_advance_203 (by decide) ?_
  refine r_iadd C dX6_advance_204 ?_
  refine pf_15_4 C dX6_advance_205 u_170 in_15 (fun M18 => ?_)
  refine r_goto (tgt := 129) C dX6_advance_208 (by decide) ?_
  exact hk129 M18
set_option maxRecDepth 100000 in
set_option maxHeartbeats 4000000 in
theorem t_X6_advance_129 {g : Gw} {x : Xw} (C : Cw g x cX6_advance RX6 1 none 2) (hm : x.2.2.2.2.2.2.2.2.2.2.2 = (0, 0)) (k129 : Mw → Option (Mw)) (hk129 : ∀ (M : Mw), Sw g x (fun M : Mw => (none, M)) M 0 0 129 [(0, .ref (gA g 15 0 0))] [] (k129 M)) (M : Mw) : Sw g x (fun M : Mw => (none, M)) M 0 0 129 [(0, .ref (gA g 15 0 0))] [] (B_X6_advance_129 k129 M) := by
  unfold B_X6_advance_129
  refine r_aload_n C 0 dX6_advance_129 rfl rfl ?_
  refine gf_15_4 C dX6_advance_130 u_170 in_15 ?_
  refine r_aload_n C 0 dX6_advance_133 rfl rfl ?_
  refine gf_15_1 C dX6_advance_134 u_164 in_15 ?_
  refine r_icmp_ge (tgt := 211) C dX6_advance_137 (by decide) (fun h10 => ?_) (fun h10 => ?_)
  · exact r_vret C dX6_advance_211 rfl rfl (xk0 hm) (xn0 hm)
  · refine r_aload_n C 0 dX6_advance_140 rfl rfl ?_
    refine gf_15_2 C dX6_advance_141 u_166 in_15 ?_
    refine r_iconst (v := 1) C dX6_advance_144 (by decide) ?_
    refine r_icmp_ne (tgt := 211) C dX6_advance_145 (by decide) (fun h11 => ?_) (fun h11 => ?_)
    · refine r_aload_n C 0 dX6_advance_148 rfl rfl ?_
      refine r_aload_n C 0 dX6_advance_149 rfl rfl ?_
      refine gf_15_4 C dX6_advance_150 u_170 in_15 ?_
      refine r_callVRi (rest := []) C (c_X6_kindAt (M.1 15 0 0 4) M) dX6_advance_153 u_412 in_15 (contW_15 g _ _ _ _ _) rfl u_413 u_1 mi_X6_kindAt (by decide) rfl rfl (Nat.le_of_ble_eq_true rfl) (xk1 hm (by decide)) (xn1 hm (by decide)) (fun v12 h13 => ?_)
      refine r_iconst (v := 1) C dX6_advance_156 (by decide) ?_
      refine r_icmp_ne (tgt := 211) C dX6_advance_157 (by decide) (fun h14 => ?_) (fun h14 => ?_)
      · refine r_aload_n C 0 dX6_advance_160 rfl rfl ?_
        refine r_aload_n C 0 dX6_advance_161 rfl rfl ?_
        refine gf_15_5 C dX6_advance_162 u_171 in_15 ?_
        refine r_ldc (v := 100000) C u_415 dX6_advance_165 ?_
        refine r_icmp_lt (tgt := 175) C dX6_advance_167 (by decide) (fun h15 => ?_) (fun h15 => ?_)
        · refine r_aload_n C 0 dX6_advance_175 rfl rfl ?_
          refine gf_15_5 C dX6_advance_176 u_171 in_15 ?_
          refine r_bipush (v := 10) C dX6_advance_179 (by decide) ?_
          refine r_imul C dX6_advance_181 ?_
          refine r_aload_n C 0 dX6_advance_182 rfl rfl ?_
          refine gf_15_0 C dX6_advance_183 u_163 in_15 ?_
          refine r_aload_n C 0 dX6_advance_186 rfl rfl ?_
          refine gf_15_4 C dX6_advance_187 u_170 in_15 ?_
          refine r_iald C dX6_advance_190 in_16 (contW_16 g _ _ _ _ _) (fun h16 => ?_)
          refine r_iadd C dX6_advance_191 ?_
          refine r_bipush (v := 48) C dX6_advance_192 (by decide) ?_
          refine r_isub C dX6_advance_194 ?_
          exact t_X6_advance_195 C hm k129 ((((M.1 15 0 0 5) * 10) + (M.1 16 0 0 (M.1 15 0 0 4).toNatClampNeg)) - 48) hk129 M
        · refine r_ldc (v := 100000) C u_415 dX6_advance_170 ?_
          refine r_goto (tgt := 195) C dX6_advance_172 (by decide) ?_
          exact t_X6_advance_195 C hm k129 100000 hk129 M
      · exact r_vret C dX6_advance_211 rfl rfl (xk0 hm) (xn0 hm)
    · exact r_vret C dX6_advance_211 rfl rfl (xk0 hm) (xn0 hm)
set_option maxRecDepth 100000 in
set_option maxHeartbeats 4000000 in
theorem tl_X6_advance_129 {g : Gw} {x : Xw} (C : Cw g x cX6_advance RX6 1 none 2) (hm : x.2.2.2.2.2.2.2.2.2.2.2 = (0, 0)) (n : Nat) : ∀ (M : Mw), Sw g x (fun M : Mw => (none, M)) M 0 0 129 [(0, .ref (gA g 15 0 0))] [] (it (fun _ => none) (B_X6_advance_129) n M) := by
  induction n with
  | zero =>
    intro M
    exact r_none
  | succ n ih =>
    intro M
    exact t_X6_advance_129 C hm _ ih M
set_option maxRecDepth 100000 in
set_option maxHeartbeats 4000000 in
theorem t_X6_advance_87 {g : Gw} {x : Xw} (C : Cw g x cX6_advance RX6 1 none 2) (hm : x.2.2.2.2.2.2.2.2.2.2.2 = (0, 0)) (k87 : Mw → Option (Mw)) (hk87 : ∀ (M : Mw), Sw g x (fun M : Mw => (none, M)) M 0 0 87 [(0, .ref (gA g 15 0 0))] [] (k87 M)) (M : Mw) : Sw g x (fun M : Mw => (none, M)) M 0 0 87 [(0, .ref (gA g 15 0 0))] [] (B_X6_advance_87 k87 M) := by
  unfold B_X6_advance_87
  refine r_aload_n C 0 dX6_advance_87 rfl rfl ?_
  refine gf_15_4 C dX6_advance_88 u_170 in_15 ?_
  refine r_aload_n C 0 dX6_advance_91 rfl rfl ?_
  refine gf_15_1 C dX6_advance_92 u_164 in_15 ?_
  refine r_icmp_ge (tgt := 129) C dX6_advance_95 (by decide) (fun h9 => ?_) (fun h9 => ?_)
  · exact tl_X6_advance_129 C hm FU M
  · refine r_aload_n C 0 dX6_advance_98 rfl rfl ?_
    refine gf_15_2 C dX6_advance_99 u_166 in_15 ?_
    refine r_if_ne (tgt := 129) C dX6_advance_102 (by decide) (fun h19 => ?_) (fun h19 => ?_)
    · refine r_aload_n C 0 dX6_advance_105 rfl rfl ?_
      refine r_aload_n C 0 dX6_advance_106 rfl rfl ?_
      refine gf_15_4 C dX6_advance_107 u_170 in_15 ?_
      refine r_callVRi (rest := []) C (c_X6_kindAt (M.1 15 0 0 4) M) dX6_advance_110 u_412 in_15 (contW_15 g _ _ _ _ _) rfl u_413 u_1 mi_X6_kindAt (by decide) rfl rfl (Nat.le_of_ble_eq_true rfl) (xk1 hm (by decide)) (xn1 hm (by decide)) (fun v20 h21 => ?_)
      refine r_if_ne (tgt := 129) C dX6_advance_113 (by decide) (fun h22 => ?_) (fun h22 => ?_)
      · refine r_aload_n C 0 dX6_advance_116 rfl rfl ?_
        refine r_dup C rfl dX6_advance_117 ?_
        refine gf_15_4 C dX6_advance_118 u_170 in_15 ?_
        refine r_iconst (v := 1) C dX6_advance_121 (by decide) ?_
        refine r_iadd C dX6_advance_122 ?_
        refine pf_15_4 C dX6_advance_123 u_170 in_15 (fun M23 => ?_)
        refine r_goto (tgt := 87) C dX6_advance_126 (by decide) ?_
        exact hk87 M23
      · exact tl_X6_advance_129 C hm FU M
    · exact tl_X6_advance_129 C hm FU M
set_option maxRecDepth 100000 in
set_option maxHeartbeats 4000000 in
theorem tl_X6_advance_87 {g : Gw} {x : Xw} (C : Cw g x cX6_advance RX6 1 none 2) (hm : x.2.2.2.2.2.2.2.2.2.2.2 = (0, 0)) (n : Nat) : ∀ (M : Mw), Sw g x (fun M : Mw => (none, M)) M 0 0 87 [(0, .ref (gA g 15 0 0))] [] (it (fun _ => none) (B_X6_advance_87) n M) := by
  induction n with
  | zero =>
    intro M
    exact r_none
  | succ n ih =>
    intro M
    exact t_X6_advance_87 C hm _ ih M
set_option maxRecDepth 100000 in
set_option maxHeartbeats 4000000 in
theorem t_X6_advance_77 {g : Gw} {x : Xw} (C : Cw g x cX6_advance RX6 1 none 2) (hm : x.2.2.2.2.2.2.2.2.2.2.2 = (0, 0)) (M : Mw) : Sw g x (fun M : Mw => (none, M)) M 0 0 77 [(0, .ref (gA g 15 0 0))] [] (B_X6_advance_77 M) := by
  unfold B_X6_advance_77
  refine r_aload_n C 0 dX6_advance_77 rfl rfl ?_
  refine r_dup C rfl dX6_advance_78 ?_
  refine gf_15_4 C dX6_advance_79 u_170 in_15 ?_
  refine r_iconst (v := 1) C dX6_advance_82 (by decide) ?_
  refine r_iadd C dX6_advance_83 ?_
  refine pf_15_4 C dX6_advance_84 u_170 in_15 (fun M8 => ?_)
  exact tl_X6_advance_87 C hm FU M8
set_option maxRecDepth 100000 in
set_option maxHeartbeats 4000000 in
theorem t_X6_advance_36 {g : Gw} {x : Xw} (C : Cw g x cX6_advance RX6 1 none 2) (hm : x.2.2.2.2.2.2.2.2.2.2.2 = (0, 0)) (M : Mw) : Sw g x (fun M : Mw => (none, M)) M 0 0 36 [(0, .ref (gA g 15 0 0))] [] (B_X6_advance_36 M) := by
  unfold B_X6_advance_36
  refine r_aload_n C 0 dX6_advance_36 rfl rfl ?_
  refine r_aload_n C 0 dX6_advance_37 rfl rfl ?_
  refine gf_15_4 C dX6_advance_38 u_170 in_15 ?_
  refine pf_15_3 C dX6_advance_41 u_169 in_15 (fun M2 => ?_)
  refine r_aload_n C 0 dX6_advance_44 rfl rfl ?_
  refine r_iconst (v := 0) C dX6_advance_45 (by decide) ?_
  refine pf_15_5 C dX6_advance_46 u_171 in_15 (fun M3 => ?_)
  refine r_aload_n C 0 dX6_advance_49 rfl rfl ?_
  refine r_aload_n C 0 dX6_advance_50 rfl rfl ?_
  refine r_aload_n C 0 dX6_advance_51 rfl rfl ?_
  refine gf_15_4 C dX6_advance_52 u_170 in_15 ?_
  refine r_callVRi (rest := [.ref (gA g 15 0 0)]) C (c_X6_kindAt (M3.1 15 0 0 4) M3) dX6_advance_55 u_412 in_15 (contW_15 g _ _ _ _ _) rfl u_413 u_1 mi_X6_kindAt (by decide) rfl rfl (Nat.le_of_ble_eq_true rfl) (xk1 hm (by decide)) (xn1 hm (by decide)) (fun v4 h5 => ?_)
  refine pf_15_2 C dX6_advance_58 u_166 in_15 (fun M6 => ?_)
  refine r_aload_n C 0 dX6_advance_61 rfl rfl ?_
  refine gf_15_2 C dX6_advance_62 u_166 in_15 ?_
  refine r_iconst (v := 2) C dX6_advance_65 (by decide) ?_
  refine r_icmp_eq (tgt := 77) C dX6_advance_66 (by decide) (fun h7 => ?_) (fun h7 => ?_)
  · exact t_X6_advance_77 C hm M6
  · refine r_aload_n C 0 dX6_advance_69 rfl rfl ?_
    refine gf_15_2 C dX6_advance_70 u_166 in_15 ?_
    refine r_iconst (v := 3) C dX6_advance_73 (by decide) ?_
    refine r_icmp_ne (tgt := 87) C dX6_advance_74 (by decide) (fun h24 => ?_) (fun h24 => ?_)
    · exact t_X6_advance_77 C hm M6
    · exact tl_X6_advance_87 C hm FU M6
set_option maxRecDepth 100000 in
set_option maxHeartbeats 4000000 in
theorem t_X6_advance_0 {g : Gw} {x : Xw} (C : Cw g x cX6_advance RX6 1 none 2) (hm : x.2.2.2.2.2.2.2.2.2.2.2 = (0, 0)) (k0 : Mw → Option (Mw)) (hk0 : ∀ (M : Mw), Sw g x (fun M : Mw => (none, M)) M 0 0 0 [(0, .ref (gA g 15 0 0))] [] (k0 M)) (M : Mw) : Sw g x (fun M : Mw => (none, M)) M 0 0 0 [(0, .ref (gA g 15 0 0))] [] (B_X6_advance_0 k0 M) := by
  unfold B_X6_advance_0
  refine r_aload_n C 0 dX6_advance_0 rfl rfl ?_
  refine gf_15_4 C dX6_advance_1 u_170 in_15 ?_
  refine r_aload_n C 0 dX6_advance_4 rfl rfl ?_
  refine gf_15_1 C dX6_advance_5 u_164 in_15 ?_
  refine r_icmp_ge (tgt := 36) C dX6_advance_8 (by decide) (fun h1 => ?_) (fun h1 => ?_)
  · exact t_X6_advance_36 C hm M
  · refine r_aload_n C 0 dX6_advance_11 rfl rfl ?_
    refine r_aload_n C 0 dX6_advance_12 rfl rfl ?_
    refine gf_15_4 C dX6_advance_13 u_170 in_15 ?_
    refine r_callVRi (rest := []) C (c_X6_kindAt (M.1 15 0 0 4) M) dX6_advance_16 u_412 in_15 (contW_15 g _ _ _ _ _) rfl u_413 u_1 mi_X6_kindAt (by decide) rfl rfl (Nat.le_of_ble_eq_true rfl) (xk1 hm (by decide)) (xn1 hm (by decide)) (fun v25 h26 => ?_)
    refine r_iconst (v := 5) C dX6_advance_19 (by decide) ?_
    refine r_icmp_ne (tgt := 36) C dX6_advance_20 (by decide) (fun h27 => ?_) (fun h27 => ?_)
    · refine r_aload_n C 0 dX6_advance_23 rfl rfl ?_
      refine r_dup C rfl dX6_advance_24 ?_
      refine gf_15_4 C dX6_advance_25 u_170 in_15 ?_
      refine r_iconst (v := 1) C dX6_advance_28 (by decide) ?_
      refine r_iadd C dX6_advance_29 ?_
      refine pf_15_4 C dX6_advance_30 u_170 in_15 (fun M28 => ?_)
      refine r_goto (tgt := 0) C dX6_advance_33 (by decide) ?_
      exact hk0 M28
    · exact t_X6_advance_36 C hm M
set_option maxRecDepth 100000 in
set_option maxHeartbeats 4000000 in
theorem tl_X6_advance_0 {g : Gw} {x : Xw} (C : Cw g x cX6_advance RX6 1 none 2) (hm : x.2.2.2.2.2.2.2.2.2.2.2 = (0, 0)) (n : Nat) : ∀ (M : Mw), Sw g x (fun M : Mw => (none, M)) M 0 0 0 [(0, .ref (gA g 15 0 0))] [] (it (fun _ => none) (B_X6_advance_0) n M) := by
  induction n with
  | zero =>
    intro M
    exact r_none
  | succ n ih =>
    intro M
    exact t_X6_advance_0 C hm _ ih M
set_option maxRecDepth 100000 in
set_option maxHeartbeats 4000000 in
theorem c_X6_advance {g : Gw} {l : Launch} (M : Mw) : Kw g l yX6_advance cX6_advance 1 none 2 0 0 [.ref (gA g 15 0 0)] M (fun M : Mw => (none, M)) (F_X6_advance M) := by
  refine Kw.of (own := RX6) (lv0 := [(0, .ref (gA g 15 0 0))]) (by decide +kernel) rfl (Nat.le_of_ble_eq_true rfl) rfl (fun x C hl hm => ?_)
  subst hl
  unfold F_X6_advance
  exact tl_X6_advance_0 C hm FU M
def F_X6_rewind (M : Mw) : Option (Mw) :=
  (bd (uIw M 15 0 0 4 0) (fun M1 => ((F_X6_advance M1).bind (fun M2 => some M2))))
set_option maxRecDepth 100000 in
set_option maxHeartbeats 4000000 in
theorem c_X6_rewind {g : Gw} {l : Launch} (M : Mw) : Kw g l yX6_rewind cX6_rewind 1 none 3 0 0 [.ref (gA g 15 0 0)] M (fun M : Mw => (none, M)) (F_X6_rewind M) := by
  refine Kw.of (own := RX6) (lv0 := [(0, .ref (gA g 15 0 0))]) (by decide +kernel) rfl (Nat.le_of_ble_eq_true rfl) rfl (fun x C hl hm => ?_)
  subst hl
  unfold F_X6_rewind
  refine r_aload_n C 0 dX6_rewind_0 rfl rfl ?_
  refine r_iconst (v := 0) C dX6_rewind_1 (by decide) ?_
  refine pf_15_4 C dX6_rewind_2 u_170 in_15 (fun M1 => ?_)
  refine r_aload_n C 0 dX6_rewind_5 rfl rfl ?_
  refine r_callVU (rest := []) C (c_X6_advance M1) dX6_rewind_6 u_408 in_15 (contW_15 g _ _ _ _ _) rfl u_409 u_410 mi_X6_advance (by decide) rfl rfl (Nat.le_of_ble_eq_true rfl) (xk1 hm (by decide)) (xn1 hm (by decide)) (fun M2 h3 => ?_)
  exact r_vret C dX6_rewind_9 rfl rfl (xk0 hm) (xn0 hm)
def F_J0_coder_7d493 (t0 : Nat) (M : Mw) : Option (Int32) :=
  (if (1 : Int32) = 0 then some 1 else some 0)
set_option maxRecDepth 100000 in
set_option maxHeartbeats 4000000 in
theorem c_J0_coder_7d493 {g : Gw} {l : Launch} {t0 : Nat} (ht0 : t0 < nStW) (M : Mw) : Kw g l yJ0_coder_7d493 cJ0_coder_7d493 1 (some .byte) 1 0 0 [.ref (gK g t0)] M (fun v : Int32 => (some (.int v), M)) (F_J0_coder_7d493 t0 M) := by
  refine Kw.of (own := RJ0) (lv0 := [(0, .ref (gK g t0))]) (by decide +kernel) rfl (Nat.le_of_ble_eq_true rfl) rfl (fun x C hl hm => ?_)
  subst hl
  unfold F_J0_coder_7d493
  refine r_gsC C dJ0_coder_7d493_0 u_431 ?_
  refine r_if_eq (tgt := 13) C dJ0_coder_7d493_3 (by decide) (fun h1 => ?_) (fun h1 => ?_)
  · refine r_iconst (v := 1) C dJ0_coder_7d493_13 (by decide) ?_
    exact r_cret C dJ0_coder_7d493_14 rfl (by first | rfl | exact pk_nc _) rfl (xk0 hm) (xn0 hm)
  · refine r_aload_n C 0 dJ0_coder_7d493_6 rfl rfl ?_
    refine r_getSC C dJ0_coder_7d493_7 u_1671 ht0 ?_
    refine r_goto (tgt := 14) C dJ0_coder_7d493_10 (by decide) ?_
    exact r_cret C dJ0_coder_7d493_14 rfl (by first | rfl | exact pk_nc _) rfl (xk0 hm) (xn0 hm)
def F_J0_length_8abf5 (t0 : Nat) (M : Mw) : Option (Int32) :=
  ((F_J0_coder_7d493 t0 M).bind (fun v1 => some ((nI (lenStW t0)) >>> (v1 &&& 31))))
set_option maxRecDepth 100000 in
set_option maxHeartbeats 4000000 in
theorem c_J0_length_8abf5 {g : Gw} {l : Launch} {t0 : Nat} (ht0 : t0 < nStW) (M : Mw) : Kw g l yJ0_length_8abf5 cJ0_length_8abf5 1 (some .int) 2 0 0 [.ref (gK g t0)] M (fun v : Int32 => (some (.int v), M)) (F_J0_length_8abf5 t0 M) := by
  refine Kw.of (own := RJ0) (lv0 := [(0, .ref (gK g t0))]) (by decide +kernel) rfl (Nat.le_of_ble_eq_true rfl) rfl (fun x C hl hm => ?_)
  subst hl
  unfold F_J0_length_8abf5
  refine r_aload_n C 0 dJ0_length_8abf5_0 rfl rfl ?_
  refine r_getSV C dJ0_length_8abf5_1 u_1670 ht0 ?_
  refine r_svLen C dJ0_length_8abf5_4 ht0 ?_
  refine r_aload_n C 0 dJ0_length_8abf5_5 rfl rfl ?_
  refine r_callTRi (rest := [.int (nI (lenStW t0))]) C (c_J0_coder_7d493 ht0 M) dJ0_length_8abf5_6 u_427 ht0 u_428 u_429 mi_J0_coder_7d493 (by decide) rfl rfl (Nat.le_of_ble_eq_true rfl) (xk1 hm (by decide)) (xn1 hm (by decide)) (fun v1 h2 => ?_)
  refine r_ishr C dJ0_length_8abf5_9 ?_
  exact r_iret C dJ0_length_8abf5_10 rfl rfl (xk0 hm) (xn0 hm)
def F_J0_isLatin1_aae02 (t0 : Nat) (M : Mw) : Option (Int32) :=
  (if (1 : Int32) = 0 then some 0 else (if (0 : Int32) = 0 then some 1 else some 0))
set_option maxRecDepth 100000 in
set_option maxHeartbeats 4000000 in
theorem c_J0_isLatin1_aae02 {g : Gw} {l : Launch} {t0 : Nat} (ht0 : t0 < nStW) (M : Mw) : Kw g l yJ0_isLatin1_aae02 cJ0_isLatin1_aae02 1 (some .boolean) 1 0 0 [.ref (gK g t0)] M (fun v : Int32 => (some (.int v), M)) (F_J0_isLatin1_aae02 t0 M) := by
  refine Kw.of (own := RJ0) (lv0 := [(0, .ref (gK g t0))]) (by decide +kernel) rfl (Nat.le_of_ble_eq_true rfl) rfl (fun x C hl hm => ?_)
  subst hl
  unfold F_J0_isLatin1_aae02
  refine r_gsC C dJ0_isLatin1_aae02_0 u_431 ?_
  refine r_if_eq (tgt := 17) C dJ0_isLatin1_aae02_3 (by decide) (fun h1 => ?_) (fun h1 => ?_)
  · refine r_iconst (v := 0) C dJ0_isLatin1_aae02_17 (by decide) ?_
    exact r_zretc C dJ0_isLatin1_aae02_18 rfl bz0 rfl (xk0 hm) (xn0 hm)
  · refine r_aload_n C 0 dJ0_isLatin1_aae02_6 rfl rfl ?_
    refine r_getSC C dJ0_isLatin1_aae02_7 u_1671 ht0 ?_
    refine r_if_ne (tgt := 17) C dJ0_isLatin1_aae02_10 (by decide) (fun h2 => ?_) (fun h2 => ?_)
    · refine r_iconst (v := 1) C dJ0_isLatin1_aae02_13 (by decide) ?_
      refine r_goto (tgt := 18) C dJ0_isLatin1_aae02_14 (by decide) ?_
      exact r_zretc C dJ0_isLatin1_aae02_18 rfl bz1 rfl (xk0 hm) (xn0 hm)
    · refine r_iconst (v := 0) C dJ0_isLatin1_aae02_17 (by decide) ?_
      exact r_zretc C dJ0_isLatin1_aae02_18 rfl bz0 rfl (xk0 hm) (xn0 hm)
def F_J3_checkIndex_8e157 (p1 : Int32) (p2 : Int32) (M : Mw) : Option (Int32) :=
  (if p1 < 0 then none else (if p1 < p2 then some p1 else none))
set_option maxRecDepth 100000 in
set_option maxHeartbeats 4000000 in
theorem c_J3_checkIndex_8e157 {g : Gw} {l : Launch} {a3 : Nat} (p1 : Int32) (p2 : Int32) (M : Mw) : Kw g l yJ3_checkIndex_8e157 cJ3_checkIndex_8e157 3 (some .int) 2 0 0 [.int p1, .int p2, .ref a3] M (fun v : Int32 => (some (.int v), M)) (F_J3_checkIndex_8e157 p1 p2 M) := by
  refine Kw.of (own := RJ3) (lv0 := [(0, .int p1), (1, .int p2), (2, .ref a3)]) (by decide +kernel) rfl (Nat.le_of_ble_eq_true rfl) rfl (fun x C hl hm => ?_)
  subst hl
  unfold F_J3_checkIndex_8e157
  refine r_iload_n C 0 dJ3_checkIndex_8e157_0 rfl rfl ?_
  refine r_if_lt (tgt := 9) C dJ3_checkIndex_8e157_1 (by decide) (fun h1 => ?_) (fun h1 => ?_)
  · exact r_none
  · refine r_iload_n C 0 dJ3_checkIndex_8e157_4 rfl rfl ?_
    refine r_iload_n C 1 dJ3_checkIndex_8e157_5 rfl rfl ?_
    refine r_icmp_lt (tgt := 16) C dJ3_checkIndex_8e157_6 (by decide) (fun h2 => ?_) (fun h2 => ?_)
    · refine r_iload_n C 0 dJ3_checkIndex_8e157_16 rfl rfl ?_
      exact r_iret C dJ3_checkIndex_8e157_17 rfl rfl (xk0 hm) (xn0 hm)
    · exact r_none
set_option maxRecDepth 100000 in
set_option maxHeartbeats 4000000 in
theorem c_J3_checkIndex_8e157n {g : Gw} {l : Launch} (p1 : Int32) (p2 : Int32) (M : Mw) : Kw g l yJ3_checkIndex_8e157 cJ3_checkIndex_8e157 3 (some .int) 2 0 0 [.int p1, .int p2, .null] M (fun v : Int32 => (some (.int v), M)) (F_J3_checkIndex_8e157 p1 p2 M) := by
  refine Kw.of (own := RJ3) (lv0 := [(0, .int p1), (1, .int p2), (2, .null)]) (by decide +kernel) rfl (Nat.le_of_ble_eq_true rfl) rfl (fun x C hl hm => ?_)
  subst hl
  unfold F_J3_checkIndex_8e157
  refine r_iload_n C 0 dJ3_checkIndex_8e157_0 rfl rfl ?_
  refine r_if_lt (tgt := 9) C dJ3_checkIndex_8e157_1 (by decide) (fun h1 => ?_) (fun h1 => ?_)
  · exact r_none
  · refine r_iload_n C 0 dJ3_checkIndex_8e157_4 rfl rfl ?_
    refine r_iload_n C 1 dJ3_checkIndex_8e157_5 rfl rfl ?_
    refine r_icmp_lt (tgt := 16) C dJ3_checkIndex_8e157_6 (by decide) (fun h2 => ?_) (fun h2 => ?_)
    · refine r_iload_n C 0 dJ3_checkIndex_8e157_16 rfl rfl ?_
      exact r_iret C dJ3_checkIndex_8e157_17 rfl rfl (xk0 hm) (xn0 hm)
    · exact r_none
def F_J0_checkIndex_df160 (p1 : Int32) (p2 : Int32) (M : Mw) : Option (Unit) :=
  ((F_J3_checkIndex_8e157 p1 p2 M).bind (fun v2 => some ()))
set_option maxRecDepth 100000 in
set_option maxHeartbeats 4000000 in
theorem c_J0_checkIndex_df160 {g : Gw} {l : Launch} (p1 : Int32) (p2 : Int32) (M : Mw) : Kw g l yJ0_checkIndex_df160 cJ0_checkIndex_df160 2 none 3 0 0 [.int p1, .int p2] M (fun _ : Unit => (none, M)) (F_J0_checkIndex_df160 p1 p2 M) := by
  refine Kw.of (own := RJ0) (lv0 := [(0, .int p1), (1, .int p2)]) (by decide +kernel) rfl (Nat.le_of_ble_eq_true rfl) rfl (fun x C hl hm => ?_)
  subst hl
  unfold F_J0_checkIndex_df160
  refine r_iload_n C 0 dJ0_checkIndex_df160_0 rfl rfl ?_
  refine r_iload_n C 1 dJ0_checkIndex_df160_1 rfl rfl ?_
  refine r_gsF C dJ0_checkIndex_df160_2 u_446 (fun a1 => ?_) ?_
  · refine r_callSRi (rest := []) C (c_J3_checkIndex_8e157 p1 p2 M) dJ0_checkIndex_df160_5 u_447 u_448 mi_J3_checkIndex_8e157 (by decide) rfl rfl (Nat.le_of_ble_eq_true rfl) (xk1 hm (by decide)) (xn1 hm (by decide)) (fun v2 h3 => ?_)
    refine r_pop C rfl dJ0_checkIndex_df160_8 ?_
    exact r_vret C dJ0_checkIndex_df160_9 rfl rfl (xk0 hm) (xn0 hm)
  · refine r_callSRi (rest := []) C (c_J3_checkIndex_8e157n p1 p2 M) dJ0_checkIndex_df160_5 u_447 u_448 mi_J3_checkIndex_8e157 (by decide) rfl rfl (Nat.le_of_ble_eq_true rfl) (xk1 hm (by decide)) (xn1 hm (by decide)) (fun v2 h3 => ?_)
    refine r_pop C rfl dJ0_checkIndex_df160_8 ?_
    exact r_vret C dJ0_checkIndex_df160_9 rfl rfl (xk0 hm) (xn0 hm)
def F_J1_charAt_3b067 (t1 : Nat) (p2 : Int32) (M : Mw) : Option (Int32) :=
  ((F_J0_checkIndex_df160 p2 (nI (lenStW t1)) M).bind (fun v1 => (if inb p2 (lenStW t1) then some ((((chStW t1 p2.toNatClampNeg) &&& 255).toUInt32 % 65536).toInt32) else none)))
set_option maxRecDepth 100000 in
set_option maxHeartbeats 4000000 in
theorem c_J1_charAt_3b067 {g : Gw} {l : Launch} {t1 : Nat} (ht1 : t1 < nStW) (p2 : Int32) (M : Mw) : Kw g l yJ1_charAt_3b067 cJ1_charAt_3b067 2 (some .char) 4 0 0 [.ref (gV g t1), .int p2] M (fun v : Int32 => (some (.int v), M)) (F_J1_charAt_3b067 t1 p2 M) := by
  refine Kw.of (own := RJ1) (lv0 := [(0, .ref (gV g t1)), (1, .int p2)]) (by decide +kernel) rfl (Nat.le_of_ble_eq_true rfl) rfl (fun x C hl hm => ?_)
  subst hl
  unfold F_J1_charAt_3b067
  refine r_iload_n C 1 dJ1_charAt_3b067_0 rfl rfl ?_
  refine r_aload_n C 0 dJ1_charAt_3b067_1 rfl rfl ?_
  refine r_svLen C dJ1_charAt_3b067_2 ht1 ?_
  refine r_callSE (rest := []) C (c_J0_checkIndex_df160 p2 (nI (lenStW t1)) M) dJ1_charAt_3b067_3 u_443 u_444 mi_J0_checkIndex_df160 (by decide) rfl rfl (Nat.le_of_ble_eq_true rfl) (xk1 hm (by decide)) (xn1 hm (by decide)) (fun v1 h2 => ?_)
  refine r_aload_n C 0 dJ1_charAt_3b067_6 rfl rfl ?_
  refine r_iload_n C 1 dJ1_charAt_3b067_7 rfl rfl ?_
  refine r_svAt C dJ1_charAt_3b067_8 ht1 ?_
  refine r_sipush (v := 255) C dJ1_charAt_3b067_9 (by decide) ?_
  refine r_iand C dJ1_charAt_3b067_12 ?_
  refine r_i2c C dJ1_charAt_3b067_13 ?_
  exact r_cret C dJ1_charAt_3b067_14 rfl (by first | rfl | exact pk_nc _) rfl (xk0 hm) (xn0 hm)
def F_J0_charAt_5068e (t0 : Nat) (p1 : Int32) (M : Mw) : Option (Int32) :=
  ((F_J0_isLatin1_aae02 t0 M).bind (fun v1 => (if v1 = 0 then none else ((F_J1_charAt_3b067 t0 p1 M).bind (fun v4 => (if (v4.toUInt32 % 65536).toInt32 = v4 then some v4 else none))))))
set_option maxRecDepth 100000 in
set_option maxHeartbeats 4000000 in
theorem c_J0_charAt_5068e {g : Gw} {l : Launch} {t0 : Nat} (ht0 : t0 < nStW) (p1 : Int32) (M : Mw) : Kw g l yJ0_charAt_5068e cJ0_charAt_5068e 2 (some .char) 6 0 0 [.ref (gK g t0), .int p1] M (fun v : Int32 => (some (.int v), M)) (F_J0_charAt_5068e t0 p1 M) := by
  refine Kw.of (own := RJ0) (lv0 := [(0, .ref (gK g t0)), (1, .int p1)]) (by decide +kernel) rfl (Nat.le_of_ble_eq_true rfl) rfl (fun x C hl hm => ?_)
  subst hl
  unfold F_J0_charAt_5068e
  refine r_aload_n C 0 dJ0_charAt_5068e_0 rfl rfl ?_
  refine r_callTRi (rest := []) C (c_J0_isLatin1_aae02 ht0 M) dJ0_charAt_5068e_1 u_436 ht0 u_437 u_438 mi_J0_isLatin1_aae02 (by decide) rfl rfl (Nat.le_of_ble_eq_true rfl) (xk1 hm (by decide)) (xn1 hm (by decide)) (fun v1 h2 => ?_)
  refine r_if_eq (tgt := 16) C dJ0_charAt_5068e_4 (by decide) (fun h3 => ?_) (fun h3 => ?_)
  · exact r_none
  · refine r_aload_n C 0 dJ0_charAt_5068e_7 rfl rfl ?_
    refine r_getSV C dJ0_charAt_5068e_8 u_1670 ht0 ?_
    refine r_iload_n C 1 dJ0_charAt_5068e_11 rfl rfl ?_
    refine r_callSRi (rest := []) C (c_J1_charAt_3b067 ht0 p1 M) dJ0_charAt_5068e_12 u_440 u_441 mi_J1_charAt_3b067 (by decide) rfl rfl (Nat.le_of_ble_eq_true rfl) (xk1 hm (by decide)) (xn1 hm (by decide)) (fun v4 h5 => ?_)
    exact r_ccret C dJ0_charAt_5068e_15 rfl rfl (xk0 hm) (xn0 hm)
def B_X6_isWord_27 (t1 : Nat) (M : Mw) (k27 : Int32 → Option (Int32)) (l2 : Int32) : Option (Int32) :=
  ((F_J0_length_8abf5 t1 M).bind (fun v5 => (if v5 ≤ l2 then some 1 else (if inb ((M.1 15 0 0 3) + l2) 1000 then ((F_J0_charAt_5068e t1 l2 M).bind (fun v9 => (if (M.1 16 0 0 ((M.1 15 0 0 3) + l2).toNatClampNeg) = v9 then (bd (l2 + 1) (fun v12 => (k27 v12))) else some 0))) else none))))
def F_X6_isWord (t1 : Nat) (M : Mw) : Option (Int32) :=
  (if (M.1 15 0 0 2) = 0 then ((F_J0_length_8abf5 t1 M).bind (fun v2 => (if ((M.1 15 0 0 4) - (M.1 15 0 0 3)) = v2 then (it (fun _ => none) (B_X6_isWord_27 t1 M) FU 0) else some 0))) else some 0)
set_option maxRecDepth 100000 in
set_option maxHeartbeats 4000000 in
theorem t_X6_isWord_27 {g : Gw} {x : Xw} (C : Cw g x cX6_isWord RX6 3 (some .boolean) 7) (hm : x.2.2.2.2.2.2.2.2.2.2.2 = (0, 0)) {t1 : Nat} (ht1 : t1 < nStW) (M : Mw) (k27 : Int32 → Option (Int32)) (hk27 : ∀ (l2 : Int32), Sw g x (fun v : Int32 => (some (.int v), M)) M 0 0 27 [(0, .ref (gA g 15 0 0)), (1, .ref (gK g t1)), (2, .int l2)] [] (k27 l2)) (l2 : Int32) : Sw g x (fun v : Int32 => (some (.int v), M)) M 0 0 27 [(0, .ref (gA g 15 0 0)), (1, .ref (gK g t1)), (2, .int l2)] [] (B_X6_isWord_27 t1 M k27 l2) := by
  unfold B_X6_isWord_27
  refine r_iload_n C 2 dX6_isWord_27 rfl rfl ?_
  refine r_aload_n C 1 dX6_isWord_28 rfl rfl ?_
  refine r_callTRi (rest := [.int l2]) C (c_J0_length_8abf5 ht1 M) dX6_isWord_29 u_423 ht1 u_424 u_425 mi_J0_length_8abf5 (by decide) rfl rfl (Nat.le_of_ble_eq_true rfl) (xk1 hm (by decide)) (xn1 hm (by decide)) (fun v5 h6 => ?_)
  refine r_icmp_ge (tgt := 62) C dX6_isWord_32 (by decide) (fun h7 => ?_) (fun h7 => ?_)
  · refine r_iconst (v := 1) C dX6_isWord_62 (by decide) ?_
    exact r_zretc C dX6_isWord_63 rfl bz1 rfl (xk0 hm) (xn0 hm)
  · refine r_aload_n C 0 dX6_isWord_35 rfl rfl ?_
    refine gf_15_0 C dX6_isWord_36 u_163 in_15 ?_
    refine r_aload_n C 0 dX6_isWord_39 rfl rfl ?_
    refine gf_15_3 C dX6_isWord_40 u_169 in_15 ?_
    refine r_iload_n C 2 dX6_isWord_43 rfl rfl ?_
    refine r_iadd C dX6_isWord_44 ?_
    refine r_iald C dX6_isWord_45 in_16 (contW_16 g _ _ _ _ _) (fun h8 => ?_)
    refine r_aload_n C 1 dX6_isWord_46 rfl rfl ?_
    refine r_iload_n C 2 dX6_isWord_47 rfl rfl ?_
    refine r_callTRi (rest := [.int (M.1 16 0 0 ((M.1 15 0 0 3) + l2).toNatClampNeg)]) C (c_J0_charAt_5068e ht1 l2 M) dX6_isWord_48 u_432 ht1 u_433 u_434 mi_J0_charAt_5068e (by decide) rfl rfl (Nat.le_of_ble_eq_true rfl) (xk1 hm (by decide)) (xn1 hm (by decide)) (fun v9 h10 => ?_)
    refine r_icmp_eq (tgt := 56) C dX6_isWord_51 (by decide) (fun h11 => ?_) (fun h11 => ?_)
    · refine r_iinc (c := 1) (lv' := fun v12 => [(2, .int v12), (0, .ref (gA g 15 0 0)), (1, .ref (gK g t1))]) C 2 dX6_isWord_56 rfl (by decide) (by decide) (fun _ => rfl) (fun v12 => ?_)
      refine r_goto (tgt := 27) C dX6_isWord_59 (by decide) ?_
      refine r_lv [1, 2, 0] rfl ?_
      exact hk27 v12
    · refine r_iconst (v := 0) C dX6_isWord_54 (by decide) ?_
      exact r_zretc C dX6_isWord_55 rfl bz0 rfl (xk0 hm) (xn0 hm)
set_option maxRecDepth 100000 in
set_option maxHeartbeats 4000000 in
theorem tl_X6_isWord_27 {g : Gw} {x : Xw} (C : Cw g x cX6_isWord RX6 3 (some .boolean) 7) (hm : x.2.2.2.2.2.2.2.2.2.2.2 = (0, 0)) {t1 : Nat} (ht1 : t1 < nStW) (M : Mw) (n : Nat) : ∀ (l2 : Int32), Sw g x (fun v : Int32 => (some (.int v), M)) M 0 0 27 [(0, .ref (gA g 15 0 0)), (1, .ref (gK g t1)), (2, .int l2)] [] (it (fun _ => none) (B_X6_isWord_27 t1 M) n l2) := by
  induction n with
  | zero =>
    intro l2
    exact r_none
  | succ n ih =>
    intro l2
    exact t_X6_isWord_27 C hm ht1 M _ ih l2
set_option maxRecDepth 100000 in
set_option maxHeartbeats 4000000 in
theorem c_X6_isWord {g : Gw} {l : Launch} {t1 : Nat} (ht1 : t1 < nStW) (M : Mw) : Kw g l yX6_isWord cX6_isWord 3 (some .boolean) 7 0 0 [.ref (gA g 15 0 0), .ref (gK g t1)] M (fun v : Int32 => (some (.int v), M)) (F_X6_isWord t1 M) := by
  refine Kw.of (own := RX6) (lv0 := [(0, .ref (gA g 15 0 0)), (1, .ref (gK g t1))]) (by decide +kernel) rfl (Nat.le_of_ble_eq_true rfl) rfl (fun x C hl hm => ?_)
  subst hl
  unfold F_X6_isWord
  refine r_aload_n C 0 dX6_isWord_0 rfl rfl ?_
  refine gf_15_2 C dX6_isWord_1 u_166 in_15 ?_
  refine r_if_ne (tgt := 23) C dX6_isWord_4 (by decide) (fun h1 => ?_) (fun h1 => ?_)
  · refine r_aload_n C 0 dX6_isWord_7 rfl rfl ?_
    refine gf_15_4 C dX6_isWord_8 u_170 in_15 ?_
    refine r_aload_n C 0 dX6_isWord_11 rfl rfl ?_
    refine gf_15_3 C dX6_isWord_12 u_169 in_15 ?_
    refine r_isub C dX6_isWord_15 ?_
    refine r_aload_n C 1 dX6_isWord_16 rfl rfl ?_
    refine r_callTRi (rest := [.int ((M.1 15 0 0 4) - (M.1 15 0 0 3))]) C (c_J0_length_8abf5 ht1 M) dX6_isWord_17 u_423 ht1 u_424 u_425 mi_J0_length_8abf5 (by decide) rfl rfl (Nat.le_of_ble_eq_true rfl) (xk1 hm (by decide)) (xn1 hm (by decide)) (fun v2 h3 => ?_)
    refine r_icmp_eq (tgt := 25) C dX6_isWord_20 (by decide) (fun h4 => ?_) (fun h4 => ?_)
    · refine r_iconst (v := 0) C dX6_isWord_25 (by decide) ?_
      refine r_istore_n0 (lv' := [(2, .int 0), (0, .ref (gA g 15 0 0)), (1, .ref (gK g t1))]) C dX6_isWord_26 rfl (by decide) rfl ?_
      refine r_lv [1, 2, 0] rfl ?_
      exact tl_X6_isWord_27 C hm ht1 M FU 0
    · refine r_iconst (v := 0) C dX6_isWord_23 (by decide) ?_
      exact r_zretc C dX6_isWord_24 rfl bz0 rfl (xk0 hm) (xn0 hm)
  · refine r_iconst (v := 0) C dX6_isWord_23 (by decide) ?_
    exact r_zretc C dX6_isWord_24 rfl bz0 rfl (xk0 hm) (xn0 hm)
def F_X1_fail (p1 : Int32) (M : Mw) : Option (Int32 × Mw) :=
  (bd (uIw M 13 0 0 2 p1) (fun M1 => (bd (uIw M1 13 0 0 3 (M1.1 15 0 0 3)) (fun M2 => some (0, M2)))))
set_option maxRecDepth 100000 in
set_option maxHeartbeats 4000000 in
theorem c_X1_fail {g : Gw} {l : Launch} (p1 : Int32) (M : Mw) : Kw g l yX1_fail cX1_fail 2 (some .boolean) 1 0 0 [.ref (gA g 13 0 0), .int p1] M (fun q : Int32 × Mw => (some (.int q.1), q.2)) (F_X1_fail p1 M) := by
  refine Kw.of (own := RX1) (lv0 := [(0, .ref (gA g 13 0 0)), (1, .int p1)]) (by decide +kernel) rfl (Nat.le_of_ble_eq_true rfl) rfl (fun x C hl hm => ?_)
  subst hl
  unfold F_X1_fail
  refine r_aload_n C 0 dX1_fail_0 rfl rfl ?_
  refine r_iload_n C 1 dX1_fail_1 rfl rfl ?_
  refine pf_13_2 C dX1_fail_2 u_243 in_13 (fun M1 => ?_)
  refine r_aload_n C 0 dX1_fail_5 rfl rfl ?_
  refine r_aload_n C 0 dX1_fail_6 rfl rfl ?_
  refine gf_13_0 C dX1_fail_7 u_239 in_13 ?_
  refine gf_15_3 C dX1_fail_10 u_168 in_15 ?_
  refine pf_13_3 C dX1_fail_13 u_245 in_13 (fun M2 => ?_)
  refine r_iconst (v := 0) C dX1_fail_16 (by decide) ?_
  exact r_zretc C dX1_fail_17 rfl bz0 rfl (xk0 hm) (xn0 hm)
def F_X1_readWord (t1 : Nat) (M : Mw) : Option (Int32 × Mw) :=
  ((F_X6_isWord t1 M).bind (fun v1 => (if v1 = 0 then ((F_X1_fail 1 M).bind (fun q6 => (if bz q6.1 then some (q6.1, q6.2) else none))) else ((F_X6_advance M).bind (fun M4 => some (1, M4))))))
set_option maxRecDepth 100000 in
set_option maxHeartbeats 4000000 in
theorem c_X1_readWord {g : Gw} {l : Launch} {t1 : Nat} (ht1 : t1 < nStW) (M : Mw) : Kw g l yX1_readWord cX1_readWord 2 (some .boolean) 8 0 0 [.ref (gA g 13 0 0), .ref (gK g t1)] M (fun q : Int32 × Mw => (some (.int q.1), q.2)) (F_X1_readWord t1 M) := by
  refine Kw.of (own := RX1) (lv0 := [(0, .ref (gA g 13 0 0)), (1, .ref (gK g t1))]) (by decide +kernel) rfl (Nat.le_of_ble_eq_true rfl) rfl (fun x C hl hm => ?_)
  subst hl
  unfold F_X1_readWord
  refine r_aload_n C 0 dX1_readWord_0 rfl rfl ?_
  refine gf_13_0 C dX1_readWord_1 u_239 in_13 ?_
  refine r_aload_n C 1 dX1_readWord_4 rfl rfl ?_
  refine r_callVRi (rest := []) C (c_X6_isWord ht1 M) dX1_readWord_5 u_419 in_15 (contW_15 g _ _ _ _ _) rfl u_420 u_421 mi_X6_isWord (by decide) rfl rfl (Nat.le_of_ble_eq_true rfl) (xk1 hm (by decide)) (xn1 hm (by decide)) (fun v1 h2 => ?_)
  refine r_if_ne (tgt := 17) C dX1_readWord_8 (by decide) (fun h3 => ?_) (fun h3 => ?_)
  · refine r_aload_n C 0 dX1_readWord_11 rfl rfl ?_
    refine r_iconst (v := 1) C dX1_readWord_12 (by decide) ?_
    refine r_callVWi (rest := []) C (c_X1_fail 1 M) dX1_readWord_13 u_466 in_13 (contW_13 g _ _ _ _ _) rfl u_467 u_3 mi_X1_fail (by decide) rfl rfl (Nat.le_of_ble_eq_true rfl) (xk1 hm (by decide)) (xn1 hm (by decide)) (fun q6 h7 => ?_)
    exact r_zret C dX1_readWord_16 rfl rfl (xk0 hm) (xn0 hm)
  · refine r_aload_n C 0 dX1_readWord_17 rfl rfl ?_
    refine gf_13_0 C dX1_readWord_18 u_239 in_13 ?_
    refine r_callVU (rest := []) C (c_X6_advance M) dX1_readWord_21 u_472 in_15 (contW_15 g _ _ _ _ _) rfl u_409 u_410 mi_X6_advance (by decide) rfl rfl (Nat.le_of_ble_eq_true rfl) (xk1 hm (by decide)) (xn1 hm (by decide)) (fun M4 h5 => ?_)
    refine r_iconst (v := 1) C dX1_readWord_24 (by decide) ?_
    exact r_zretc C dX1_readWord_25 rfl bz1 rfl (xk0 hm) (xn0 hm)
