def B_X5_endCycle_2 (b : Nat) (k2 : Int32 → Mw → Option (Mw)) (l1 : Int32) (M : Mw) : Option (Mw) :=
  (if (M.1 0 (b + 5) 0 5) ≤ l1 then some M else (if (M.1 23 b 0 8) = 0 then (if inb l1 5 then ((F_X7_endCycle b l1.toNatClampNeg M).bind (fun M4 => (bd (l1 + 1) (fun v6 => (k2 v6 M4))))) else none) else some M))
def F_X5_endCycle (b : Nat) (M : Mw) : Option (Mw) :=
  (it (fun _ _ => none) (B_X5_endCycle_2 b) FU 0 M)
set_option maxRecDepth 100000 in
set_option maxHeartbeats 4000000 in
theorem t_X5_endCycle_2 {g : Gw} {x : Xw} (C : Cw g x cX5_endCycle RX5 2 none 2) (hm : x.2.2.2.2.2.2.2.2.2.2.2 = (0, 0)) {b : Nat} (hb : b < 3) (k2 : Int32 → Mw → Option (Mw)) (hk2 : ∀ (l1 : Int32) (M : Mw), Sw g x (fun M : Mw => (none, M)) M 0 0 2 [(0, .ref (gA g 23 b 0)), (1, .int l1)] [] (k2 l1 M)) (l1 : Int32) (M : Mw) : Sw g x (fun M : Mw => (none, M)) M 0 0 2 [(0, .ref (gA g 23 b 0)), (1, .int l1)] [] (B_X5_endCycle_2 b k2 l1 M) := by
  unfold B_X5_endCycle_2
  refine r_iload_n C 1 dX5_endCycle_2 rfl rfl ?_
  refine r_aload_n C 0 dX5_endCycle_3 rfl rfl ?_
  refine gf_23_0 C dX5_endCycle_4 u_328 (in_23 hb) ?_
  refine gf_0_5 C dX5_endCycle_7 u_202 (in_0 (lt85 hb)) ?_
  refine r_icmp_ge (tgt := 35) C dX5_endCycle_10 (by decide) (fun h1 => ?_) (fun h1 => ?_)
  · exact r_vret C dX5_endCycle_35 rfl rfl (xk0 hm) (xn0 hm)
  · refine r_aload_n C 0 dX5_endCycle_13 rfl rfl ?_
    refine gf_23_8 C dX5_endCycle_14 u_343 (in_23 hb) ?_
    refine r_if_ne (tgt := 35) C dX5_endCycle_17 (by decide) (fun h2 => ?_) (fun h2 => ?_)
    · refine r_aload_n C 0 dX5_endCycle_20 rfl rfl ?_
      refine gf_23_1 C dX5_endCycle_21 u_331 (in_23 hb) ?_
      refine r_iload_n C 1 dX5_endCycle_24 rfl rfl ?_
      refine r_aald (t0 := 7) (ty := .object "WatchStack$TaskState") C dX5_endCycle_25 (in_24 hb) (contW_24 g _ _ _ _ _) rfl rfl (fun h3 => ?_)
      refine r_callVU (rest := []) C (c_X7_endCycle hb (inb_lt h3) M) dX5_endCycle_26 u_682 (in_25 hb (inb_lt h3)) (contW_25 g _ _ _ _ _) rfl u_683 u_684 mi_X7_endCycle (by decide) rfl rfl (Nat.le_of_ble_eq_true rfl) (xk1 hm (by decide)) (xn1 hm (by decide)) (fun M4 h5 => ?_)
      refine r_iinc (c := 1) (lv' := fun v6 => [(1, .int v6), (0, .ref (gA g 23 b 0))]) C 1 dX5_endCycle_29 rfl (by decide) (by decide) (fun _ => rfl) (fun v6 => ?_)
      refine r_goto (tgt := 2) C dX5_endCycle_32 (by decide) ?_
      refine r_lv [1, 0] rfl ?_
      exact hk2 v6 M4
    · exact r_vret C dX5_endCycle_35 rfl rfl (xk0 hm) (xn0 hm)
set_option maxRecDepth 100000 in
set_option maxHeartbeats 4000000 in
theorem tl_X5_endCycle_2 {g : Gw} {x : Xw} (C : Cw g x cX5_endCycle RX5 2 none 2) (hm : x.2.2.2.2.2.2.2.2.2.2.2 = (0, 0)) {b : Nat} (hb : b < 3) (n : Nat) : ∀ (l1 : Int32) (M : Mw), Sw g x (fun M : Mw => (none, M)) M 0 0 2 [(0, .ref (gA g 23 b 0)), (1, .int l1)] [] (it (fun _ _ => none) (B_X5_endCycle_2 b) n l1 M) := by
  induction n with
  | zero =>
    intro l1 M
    exact r_none
  | succ n ih =>
    intro l1 M
    exact t_X5_endCycle_2 C hm hb _ ih l1 M
set_option maxRecDepth 100000 in
set_option maxHeartbeats 4000000 in
theorem c_X5_endCycle {g : Gw} {l : Launch} {b : Nat} (hb : b < 3) (M : Mw) : Kw g l yX5_endCycle cX5_endCycle 2 none 2 0 0 [.ref (gA g 23 b 0)] M (fun M : Mw => (none, M)) (F_X5_endCycle b M) := by
  refine Kw.of (own := RX5) (lv0 := [(0, .ref (gA g 23 b 0))]) (by decide +kernel) rfl (Nat.le_of_ble_eq_true rfl) rfl (fun x C hl hm => ?_)
  subst hl
  unfold F_X5_endCycle
  refine r_iconst (v := 0) C dX5_endCycle_0 (by decide) ?_
  refine r_istore_n0 (lv' := [(1, .int 0), (0, .ref (gA g 23 b 0))]) C dX5_endCycle_1 rfl (by decide) rfl ?_
  refine r_lv [1, 0] rfl ?_
  exact tl_X5_endCycle_2 C hm hb FU 0 M
def B_X5_step_84 (b : Nat) (M : Mw) : Option (Mw) :=
  (if (M.1 23 b 0 3) = (-1) then (bd (uIw M 23 b 0 4 ((M.1 23 b 0 4) + 1)) (fun M10 => (bd (uIw M10 23 b 0 6 ((M10.1 23 b 0 6) + 1)) (fun M11 => some M11)))) else (bd (uIw M 23 b 0 6 ((M.1 23 b 0 6) + 1)) (fun M9 => some M9)))
def B_X5_step_53 (b : Nat) (M : Mw) : Option (Mw) :=
  ((F_X9_divides (M.1 0 (b + 5) 0 1) ((M.1 23 b 0 6) + 1) M).bind (fun v5 => (if v5 = 0 then (B_X5_step_84 b M) else ((F_X5_letWatchersLook b M).bind (fun M12 => ((F_X5_askDog b M12).bind (fun M14 => ((F_X5_endCycle b M14).bind (fun M16 => (B_X5_step_84 b M16))))))))))
def B_X5_step_19 (b : Nat) (s0 : Int32) (M : Mw) : Option (Mw) :=
  (if bz s0 then (bd (uIw M 23 b 0 8 s0) (fun M3 => (if (M3.1 23 b 0 8) = 0 then ((F_X5_beginTick b M3).bind (fun M18 => ((F_X5_nextOwner b M18).bind (fun v20 => (bd (uIw M18 23 b 0 3 v20) (fun M22 => ((F_X5_work b (M22.1 23 b 0 3) M22).bind (fun M23 => ((F_X5_askLate b M23).bind (fun M25 => (B_X5_step_53 b M25))))))))))) else (B_X5_step_53 b M3)))) else none)
def F_X5_step (b : Nat) (M : Mw) : Option (Mw) :=
  (bd (uIw M 23 b 0 3 (-1)) (fun M1 => (if (M1.1 23 b 0 5) = (-1) then (B_X5_step_19 b 0 M1) else (B_X5_step_19 b 1 M1))))
set_option maxRecDepth 100000 in
set_option maxHeartbeats 4000000 in
theorem t_X5_step_84 {g : Gw} {x : Xw} (C : Cw g x cX5_step RX5 1 none 5) (hm : x.2.2.2.2.2.2.2.2.2.2.2 = (0, 0)) {b : Nat} (hb : b < 3) (M : Mw) : Sw g x (fun M : Mw => (none, M)) M 0 0 84 [(0, .ref (gA g 23 b 0))] [] (B_X5_step_84 b M) := by
  unfold B_X5_step_84
  refine r_aload_n C 0 dX5_step_84 rfl rfl ?_
  refine gf_23_3 C dX5_step_85 u_335 (in_23 hb) ?_
  refine r_iconst (v := (-1)) C dX5_step_88 (by decide) ?_
  refine r_icmp_ne (tgt := 102) C dX5_step_89 (by decide) (fun h8 => ?_) (fun h8 => ?_)
  · refine r_aload_n C 0 dX5_step_92 rfl rfl ?_
    refine r_dup C rfl dX5_step_93 ?_
    refine gf_23_4 C dX5_step_94 u_337 (in_23 hb) ?_
    refine r_iconst (v := 1) C dX5_step_97 (by decide) ?_
    refine r_iadd C dX5_step_98 ?_
    refine pf_23_4 C dX5_step_99 u_337 (in_23 hb) (fun M10 => ?_)
    refine r_aload_n C 0 dX5_step_102 rfl rfl ?_
    refine r_dup C rfl dX5_step_103 ?_
    refine gf_23_6 C dX5_step_104 u_341 (in_23 hb) ?_
    refine r_iconst (v := 1) C dX5_step_107 (by decide) ?_
    refine r_iadd C dX5_step_108 ?_
    refine pf_23_6 C dX5_step_109 u_341 (in_23 hb) (fun M11 => ?_)
    exact r_vret C dX5_step_112 rfl rfl (xk0 hm) (xn0 hm)
  · refine r_aload_n C 0 dX5_step_102 rfl rfl ?_
    refine r_dup C rfl dX5_step_103 ?_
    refine gf_23_6 C dX5_step_104 u_341 (in_23 hb) ?_
    refine r_iconst (v := 1) C dX5_step_107 (by decide) ?_
    refine r_iadd C dX5_step_108 ?_
    refine pf_23_6 C dX5_step_109 u_341 (in_23 hb) (fun M9 => ?_)
    exact r_vret C dX5_step_112 rfl rfl (xk0 hm) (xn0 hm)
set_option maxRecDepth 100000 in
set_option maxHeartbeats 4000000 in
theorem t_X5_step_53 {g : Gw} {x : Xw} (C : Cw g x cX5_step RX5 1 none 5) (hm : x.2.2.2.2.2.2.2.2.2.2.2 = (0, 0)) {b : Nat} (hb : b < 3) (M : Mw) : Sw g x (fun M : Mw => (none, M)) M 0 0 53 [(0, .ref (gA g 23 b 0))] [] (B_X5_step_53 b M) := by
  unfold B_X5_step_53
  refine r_aload_n C 0 dX5_step_53 rfl rfl ?_
  refine gf_23_0 C dX5_step_54 u_328 (in_23 hb) ?_
  refine gf_0_1 C dX5_step_57 u_186 (in_0 (lt85 hb)) ?_
  refine r_aload_n C 0 dX5_step_60 rfl rfl ?_
  refine gf_23_6 C dX5_step_61 u_341 (in_23 hb) ?_
  refine r_iconst (v := 1) C dX5_step_64 (by decide) ?_
  refine r_iadd C dX5_step_65 ?_
  refine r_callNRi (host := "WatchStack") (rest := []) C (c_X9_divides (M.1 0 (b + 5) 0 1) ((M.1 23 b 0 6) + 1) M) dX5_step_66 (by decide +kernel) u_581 mi_X9_divides (by decide) rfl rfl (Nat.le_of_ble_eq_true rfl) (xk1 hm (by decide)) (xn1 hm (by decide)) (fun v5 h6 => ?_)
  refine r_if_eq (tgt := 84) C dX5_step_69 (by decide) (fun h7 => ?_) (fun h7 => ?_)
  · exact t_X5_step_84 C hm hb M
  · refine r_aload_n C 0 dX5_step_72 rfl rfl ?_
    refine r_callVU (rest := []) C (c_X5_letWatchersLook hb M) dX5_step_73 u_663 (in_23 hb) (contW_23 g _ _ _ _ _) rfl u_664 u_31 mi_X5_letWatchersLook (by decide) rfl rfl (Nat.le_of_ble_eq_true rfl) (xk1 hm (by decide)) (xn1 hm (by decide)) (fun M12 h13 => ?_)
    refine r_aload_n C 0 dX5_step_76 rfl rfl ?_
    refine r_callVU (rest := []) C (c_X5_askDog hb M12) dX5_step_77 u_676 (in_23 hb) (contW_23 g _ _ _ _ _) rfl u_677 u_34 mi_X5_askDog (by decide) rfl rfl (Nat.le_of_ble_eq_true rfl) (xk1 hm (by decide)) (xn1 hm (by decide)) (fun M14 h15 => ?_)
    refine r_aload_n C 0 dX5_step_80 rfl rfl ?_
    refine r_callVU (rest := []) C (c_X5_endCycle hb M14) dX5_step_81 u_679 (in_23 hb) (contW_23 g _ _ _ _ _) rfl u_680 u_35 mi_X5_endCycle (by decide) rfl rfl (Nat.le_of_ble_eq_true rfl) (xk1 hm (by decide)) (xn1 hm (by decide)) (fun M16 h17 => ?_)
    exact t_X5_step_84 C hm hb M16
set_option maxRecDepth 100000 in
set_option maxHeartbeats 4000000 in
theorem t_X5_step_19 {g : Gw} {x : Xw} (C : Cw g x cX5_step RX5 1 none 5) (hm : x.2.2.2.2.2.2.2.2.2.2.2 = (0, 0)) {b : Nat} (hb : b < 3) (s0 : Int32) (M : Mw) : Sw g x (fun M : Mw => (none, M)) M 0 0 19 [(0, .ref (gA g 23 b 0))] [.int s0, .ref (gA g 23 b 0)] (B_X5_step_19 b s0 M) := by
  unfold B_X5_step_19
  refine pz_23_8 C dX5_step_19 u_343 (in_23 hb) (fun M3 => ?_)
  refine r_aload_n C 0 dX5_step_22 rfl rfl ?_
  refine gf_23_8 C dX5_step_23 u_343 (in_23 hb) ?_
  refine r_if_ne (tgt := 53) C dX5_step_26 (by decide) (fun h4 => ?_) (fun h4 => ?_)
  · refine r_aload_n C 0 dX5_step_29 rfl rfl ?_
    refine r_callVU (rest := []) C (c_X5_beginTick hb M3) dX5_step_30 u_578 (in_23 hb) (contW_23 g _ _ _ _ _) rfl u_579 u_20 mi_X5_beginTick (by decide) rfl rfl (Nat.le_of_ble_eq_true rfl) (xk1 hm (by decide)) (xn1 hm (by decide)) (fun M18 h19 => ?_)
    refine r_aload_n C 0 dX5_step_33 rfl rfl ?_
    refine r_aload_n C 0 dX5_step_34 rfl rfl ?_
    refine r_callVRi (rest := [.ref (gA g 23 b 0)]) C (c_X5_nextOwner hb M18) dX5_step_35 u_595 (in_23 hb) (contW_23 g _ _ _ _ _) rfl u_596 u_22 mi_X5_nextOwner (by decide) rfl rfl (Nat.le_of_ble_eq_true rfl) (xk1 hm (by decide)) (xn1 hm (by decide)) (fun v20 h21 => ?_)
    refine pf_23_3 C dX5_step_38 u_335 (in_23 hb) (fun M22 => ?_)
    refine r_aload_n C 0 dX5_step_41 rfl rfl ?_
    refine r_aload_n C 0 dX5_step_42 rfl rfl ?_
    refine gf_23_3 C dX5_step_43 u_335 (in_23 hb) ?_
    refine r_callVU (rest := []) C (c_X5_work hb (M22.1 23 b 0 3) M22) dX5_step_46 u_602 (in_23 hb) (contW_23 g _ _ _ _ _) rfl u_603 u_23 mi_X5_work (by decide) rfl rfl (Nat.le_of_ble_eq_true rfl) (xk1 hm (by decide)) (xn1 hm (by decide)) (fun M23 h24 => ?_)
    refine r_aload_n C 0 dX5_step_49 rfl rfl ?_
    refine r_callVU (rest := []) C (c_X5_askLate hb M23) dX5_step_50 u_660 (in_23 hb) (contW_23 g _ _ _ _ _) rfl u_661 u_30 mi_X5_askLate (by decide) rfl rfl (Nat.le_of_ble_eq_true rfl) (xk1 hm (by decide)) (xn1 hm (by decide)) (fun M25 h26 => ?_)
    exact t_X5_step_53 C hm hb M25
  · exact t_X5_step_53 C hm hb M3
set_option maxRecDepth 100000 in
set_option maxHeartbeats 4000000 in
theorem c_X5_step {g : Gw} {l : Launch} {b : Nat} (hb : b < 3) (M : Mw) : Kw g l yX5_step cX5_step 1 none 5 0 0 [.ref (gA g 23 b 0)] M (fun M : Mw => (none, M)) (F_X5_step b M) := by
  refine Kw.of (own := RX5) (lv0 := [(0, .ref (gA g 23 b 0))]) (by decide +kernel) rfl (Nat.le_of_ble_eq_true rfl) rfl (fun x C hl hm => ?_)
  subst hl
  unfold F_X5_step
  refine r_aload_n C 0 dX5_step_0 rfl rfl ?_
  refine r_iconst (v := (-1)) C dX5_step_1 (by decide) ?_
  refine pf_23_3 C dX5_step_2 u_335 (in_23 hb) (fun M1 => ?_)
  refine r_aload_n C 0 dX5_step_5 rfl rfl ?_
  refine r_aload_n C 0 dX5_step_6 rfl rfl ?_
  refine gf_23_5 C dX5_step_7 u_339 (in_23 hb) ?_
  refine r_iconst (v := (-1)) C dX5_step_10 (by decide) ?_
  refine r_icmp_eq (tgt := 18) C dX5_step_11 (by decide) (fun h2 => ?_) (fun h2 => ?_)
  · refine r_iconst (v := 0) C dX5_step_18 (by decide) ?_
    exact t_X5_step_19 C hm hb 0 M1
  · refine r_iconst (v := 1) C dX5_step_14 (by decide) ?_
    refine r_goto (tgt := 19) C dX5_step_15 (by decide) ?_
    exact t_X5_step_19 C hm hb 1 M1
def B_X5_show_17 (b : Nat) (l1 : Int32) (k17 : Int32 → Mw → Option (Mw)) (l2 : Int32) (M : Mw) : Option (Mw) :=
  (if l1 ≤ l2 then some M else (if (M.1 0 (b + 5) 0 0) ≤ l2 then some M else ((F_X5_step b M).bind (fun M5 => (bd (l2 + 1) (fun v7 => (k17 v7 M5)))))))
def B_X5_show_12 (b : Nat) (l1 : Int32) (M : Mw) : Option (Mw) :=
  (bd (M.1 23 b 0 6) (fun v2 => (it (fun _ _ => none) (B_X5_show_17 b l1) FU v2 M)))
def F_X5_show (b : Nat) (p1 : Int32) (M : Mw) : Option (Mw) :=
  (if (M.1 23 b 0 6) ≤ p1 then (B_X5_show_12 b p1 M) else ((F_X5_reset b M).bind (fun M8 => (B_X5_show_12 b p1 M8))))
set_option maxRecDepth 100000 in
set_option maxHeartbeats 4000000 in
theorem t_X5_show_17 {g : Gw} {x : Xw} (C : Cw g x cX5_show RX5 3 none 6) (hm : x.2.2.2.2.2.2.2.2.2.2.2 = (0, 0)) {b : Nat} (hb : b < 3) (l1 : Int32) (k17 : Int32 → Mw → Option (Mw)) (hk17 : ∀ (l2 : Int32) (M : Mw), Sw g x (fun M : Mw => (none, M)) M 0 0 17 [(0, .ref (gA g 23 b 0)), (1, .int l1), (2, .int l2)] [] (k17 l2 M)) (l2 : Int32) (M : Mw) : Sw g x (fun M : Mw => (none, M)) M 0 0 17 [(0, .ref (gA g 23 b 0)), (1, .int l1), (2, .int l2)] [] (B_X5_show_17 b l1 k17 l2 M) := by
  unfold B_X5_show_17
  refine r_iload_n C 2 dX5_show_17 rfl rfl ?_
  refine r_iload_n C 1 dX5_show_18 rfl rfl ?_
  refine r_icmp_ge (tgt := 43) C dX5_show_19 (by decide) (fun h3 => ?_) (fun h3 => ?_)
  · exact r_vret C dX5_show_43 rfl rfl (xk0 hm) (xn0 hm)
  · refine r_iload_n C 2 dX5_show_22 rfl rfl ?_
    refine r_aload_n C 0 dX5_show_23 rfl rfl ?_
    refine gf_23_0 C dX5_show_24 u_328 (in_23 hb) ?_
    refine gf_0_0 C dX5_show_27 u_181 (in_0 (lt85 hb)) ?_
    refine r_icmp_ge (tgt := 43) C dX5_show_30 (by decide) (fun h4 => ?_) (fun h4 => ?_)
    · exact r_vret C dX5_show_43 rfl rfl (xk0 hm) (xn0 hm)
    · refine r_aload_n C 0 dX5_show_33 rfl rfl ?_
      refine r_callVU (rest := []) C (c_X5_step hb M) dX5_show_34 u_575 (in_23 hb) (contW_23 g _ _ _ _ _) rfl u_576 u_19 mi_X5_step (by decide) rfl rfl (Nat.le_of_ble_eq_true rfl) (xk1 hm (by decide)) (xn1 hm (by decide)) (fun M5 h6 => ?_)
      refine r_iinc (c := 1) (lv' := fun v7 => [(2, .int v7), (0, .ref (gA g 23 b 0)), (1, .int l1)]) C 2 dX5_show_37 rfl (by decide) (by decide) (fun _ => rfl) (fun v7 => ?_)
      refine r_goto (tgt := 17) C dX5_show_40 (by decide) ?_
      refine r_lv [1, 2, 0] rfl ?_
      exact hk17 v7 M5
set_option maxRecDepth 100000 in
set_option maxHeartbeats 4000000 in
theorem tl_X5_show_17 {g : Gw} {x : Xw} (C : Cw g x cX5_show RX5 3 none 6) (hm : x.2.2.2.2.2.2.2.2.2.2.2 = (0, 0)) {b : Nat} (hb : b < 3) (l1 : Int32) (n : Nat) : ∀ (l2 : Int32) (M : Mw), Sw g x (fun M : Mw => (none, M)) M 0 0 17 [(0, .ref (gA g 23 b 0)), (1, .int l1), (2, .int l2)] [] (it (fun _ _ => none) (B_X5_show_17 b l1) n l2 M) := by
  induction n with
  | zero =>
    intro l2 M
    exact r_none
  | succ n ih =>
    intro l2 M
    exact t_X5_show_17 C hm hb l1 _ ih l2 M
set_option maxRecDepth 100000 in
set_option maxHeartbeats 4000000 in
theorem t_X5_show_12 {g : Gw} {x : Xw} (C : Cw g x cX5_show RX5 3 none 6) (hm : x.2.2.2.2.2.2.2.2.2.2.2 = (0, 0)) {b : Nat} (hb : b < 3) (l1 : Int32) (M : Mw) : Sw g x (fun M : Mw => (none, M)) M 0 0 12 [(0, .ref (gA g 23 b 0)), (1, .int l1)] [] (B_X5_show_12 b l1 M) := by
  unfold B_X5_show_12
  refine r_aload_n C 0 dX5_show_12 rfl rfl ?_
  refine gf_23_6 C dX5_show_13 u_341 (in_23 hb) ?_
  refine r_istore_n (lv' := fun v2 => [(2, .int v2), (0, .ref (gA g 23 b 0)), (1, .int l1)]) C dX5_show_16 rfl (by decide) (fun _ => rfl) (fun v2 => ?_)
  refine r_lv [1, 2, 0] rfl ?_
  exact tl_X5_show_17 C hm hb l1 FU v2 M
set_option maxRecDepth 100000 in
set_option maxHeartbeats 4000000 in
theorem c_X5_show {g : Gw} {l : Launch} {b : Nat} (hb : b < 3) (p1 : Int32) (M : Mw) : Kw g l yX5_show cX5_show 3 none 6 0 0 [.ref (gA g 23 b 0), .int p1] M (fun M : Mw => (none, M)) (F_X5_show b p1 M) := by
  refine Kw.of (own := RX5) (lv0 := [(0, .ref (gA g 23 b 0)), (1, .int p1)]) (by decide +kernel) rfl (Nat.le_of_ble_eq_true rfl) rfl (fun x C hl hm => ?_)
  subst hl
  unfold F_X5_show
  refine r_iload_n C 1 dX5_show_0 rfl rfl ?_
  refine r_aload_n C 0 dX5_show_1 rfl rfl ?_
  refine gf_23_6 C dX5_show_2 u_341 (in_23 hb) ?_
  refine r_icmp_ge (tgt := 12) C dX5_show_5 (by decide) (fun h1 => ?_) (fun h1 => ?_)
  · exact t_X5_show_12 C hm hb p1 M
  · refine r_aload_n C 0 dX5_show_8 rfl rfl ?_
    refine r_callVU (rest := []) C (c_X5_reset hb M) dX5_show_9 u_574 (in_23 hb) (contW_23 g _ _ _ _ _) rfl u_555 u_556 mi_X5_reset (by decide) rfl rfl (Nat.le_of_ble_eq_true rfl) (xk1 hm (by decide)) (xn1 hm (by decide)) (fun M8 h9 => ?_)
    exact t_X5_show_12 C hm hb p1 M8
def B_X8_forget_9 (k2 : Int32 → Mw → Option (Mw)) (l1 : Int32) (k9 : Int32 → Mw → Option (Mw)) (l2 : Int32) (M : Mw) : Option (Mw) :=
  (if 5 ≤ l2 then (bd (l1 + 1) (fun v3 => (k2 v3 M))) else (if inb l1 5 then (if inb l2 5 then (bd (uIw M 40 0 l1.toNatClampNeg l2.toNatClampNeg (-1)) (fun M5 => (bd (l2 + 1) (fun v7 => (k9 v7 M5))))) else none) else none))
def B_X8_forget_2 (k2 : Int32 → Mw → Option (Mw)) (l1 : Int32) (M : Mw) : Option (Mw) :=
  (if 5 ≤ l1 then some M else (it (fun _ _ => none) (B_X8_forget_9 k2 l1) FU 0 M))
def F_X8_forget (M : Mw) : Option (Mw) :=
  (it (fun _ _ => none) (B_X8_forget_2) FU 0 M)
set_option maxRecDepth 100000 in
set_option maxHeartbeats 4000000 in
theorem t_X8_forget_9 {g : Gw} {x : Xw} (C : Cw g x cX8_forget RX8 3 none 1) (hm : x.2.2.2.2.2.2.2.2.2.2.2 = (0, 0)) (k2 : Int32 → Mw → Option (Mw)) (l1 : Int32) (hk2 : ∀ (l1 : Int32) (M : Mw), Sw g x (fun M : Mw => (none, M)) M 0 0 2 [(0, .ref (gA g 36 0 0)), (1, .int l1)] [] (k2 l1 M)) (k9 : Int32 → Mw → Option (Mw)) (hk9 : ∀ (l2 : Int32) (M : Mw), Sw g x (fun M : Mw => (none, M)) M 0 0 9 [(0, .ref (gA g 36 0 0)), (1, .int l1), (2, .int l2)] [] (k9 l2 M)) (l2 : Int32) (M : Mw) : Sw g x (fun M : Mw => (none, M)) M 0 0 9 [(0, .ref (gA g 36 0 0)), (1, .int l1), (2, .int l2)] [] (B_X8_forget_9 k2 l1 k9 l2 M) := by
  unfold B_X8_forget_9
  refine r_iload_n C 2 dX8_forget_9 rfl rfl ?_
  refine r_iconst (v := 5) C dX8_forget_10 (by decide) ?_
  refine r_icmp_ge (tgt := 29) C dX8_forget_11 (by decide) (fun h2 => ?_) (fun h2 => ?_)
  · refine r_iinc (c := 1) (lv' := fun v3 => [(1, .int v3), (0, .ref (gA g 36 0 0)), (2, .int l2)]) C 1 dX8_forget_29 rfl (by decide) (by decide) (fun _ => rfl) (fun v3 => ?_)
    refine r_goto (tgt := 2) C dX8_forget_32 (by decide) ?_
    refine r_lv [1, 0] rfl ?_
    exact hk2 v3 M
  · refine r_aload_n C 0 dX8_forget_14 rfl rfl ?_
    refine gf_36_1 C dX8_forget_15 u_361 in_36 ?_
    refine r_iload_n C 1 dX8_forget_18 rfl rfl ?_
    refine r_aald (t0 := 5) (ty := .array .int) C dX8_forget_19 in_39 (contW_39 g _ _ _ _ _) rfl rfl (fun h4 => ?_)
    refine r_iload_n C 2 dX8_forget_20 rfl rfl ?_
    refine r_iconst (v := (-1)) C dX8_forget_21 (by decide) ?_
    refine r_iast C dX8_forget_22 (in_40 (inb_lt h4)) (contW_40 g _ _) (fun M5 h6 => ?_)
    refine r_iinc (c := 1) (lv' := fun v7 => [(2, .int v7), (0, .ref (gA g 36 0 0)), (1, .int l1)]) C 2 dX8_forget_23 rfl (by decide) (by decide) (fun _ => rfl) (fun v7 => ?_)
    refine r_goto (tgt := 9) C dX8_forget_26 (by decide) ?_
    refine r_lv [1, 2, 0] rfl ?_
    exact hk9 v7 M5
set_option maxRecDepth 100000 in
set_option maxHeartbeats 4000000 in
theorem tl_X8_forget_9 {g : Gw} {x : Xw} (C : Cw g x cX8_forget RX8 3 none 1) (hm : x.2.2.2.2.2.2.2.2.2.2.2 = (0, 0)) (k2 : Int32 → Mw → Option (Mw)) (l1 : Int32) (hk2 : ∀ (l1 : Int32) (M : Mw), Sw g x (fun M : Mw => (none, M)) M 0 0 2 [(0, .ref (gA g 36 0 0)), (1, .int l1)] [] (k2 l1 M)) (n : Nat) : ∀ (l2 : Int32) (M : Mw), Sw g x (fun M : Mw => (none, M)) M 0 0 9 [(0, .ref (gA g 36 0 0)), (1, .int l1), (2, .int l2)] [] (it (fun _ _ => none) (B_X8_forget_9 k2 l1) n l2 M) := by
  induction n with
  | zero =>
    intro l2 M
    exact r_none
  | succ n ih =>
    intro l2 M
    exact t_X8_forget_9 C hm k2 l1 hk2 _ ih l2 M
set_option maxRecDepth 100000 in
set_option maxHeartbeats 4000000 in
theorem t_X8_forget_2 {g : Gw} {x : Xw} (C : Cw g x cX8_forget RX8 3 none 1) (hm : x.2.2.2.2.2.2.2.2.2.2.2 = (0, 0)) (k2 : Int32 → Mw → Option (Mw)) (hk2 : ∀ (l1 : Int32) (M : Mw), Sw g x (fun M : Mw => (none, M)) M 0 0 2 [(0, .ref (gA g 36 0 0)), (1, .int l1)] [] (k2 l1 M)) (l1 : Int32) (M : Mw) : Sw g x (fun M : Mw => (none, M)) M 0 0 2 [(0, .ref (gA g 36 0 0)), (1, .int l1)] [] (B_X8_forget_2 k2 l1 M) := by
  unfold B_X8_forget_2
  refine r_iload_n C 1 dX8_forget_2 rfl rfl ?_
  refine r_iconst (v := 5) C dX8_forget_3 (by decide) ?_
  refine r_icmp_ge (tgt := 35) C dX8_forget_4 (by decide) (fun h1 => ?_) (fun h1 => ?_)
  · exact r_vret C dX8_forget_35 rfl rfl (xk0 hm) (xn0 hm)
  · refine r_iconst (v := 0) C dX8_forget_7 (by decide) ?_
    refine r_istore_n0 (lv' := [(2, .int 0), (0, .ref (gA g 36 0 0)), (1, .int l1)]) C dX8_forget_8 rfl (by decide) rfl ?_
    refine r_lv [1, 2, 0] rfl ?_
    exact tl_X8_forget_9 C hm k2 l1 hk2 FU 0 M
set_option maxRecDepth 100000 in
set_option maxHeartbeats 4000000 in
theorem tl_X8_forget_2 {g : Gw} {x : Xw} (C : Cw g x cX8_forget RX8 3 none 1) (hm : x.2.2.2.2.2.2.2.2.2.2.2 = (0, 0)) (n : Nat) : ∀ (l1 : Int32) (M : Mw), Sw g x (fun M : Mw => (none, M)) M 0 0 2 [(0, .ref (gA g 36 0 0)), (1, .int l1)] [] (it (fun _ _ => none) (B_X8_forget_2) n l1 M) := by
  induction n with
  | zero =>
    intro l1 M
    exact r_none
  | succ n ih =>
    intro l1 M
    exact t_X8_forget_2 C hm _ ih l1 M
set_option maxRecDepth 100000 in
set_option maxHeartbeats 4000000 in
theorem c_X8_forget {g : Gw} {l : Launch} (M : Mw) : Kw g l yX8_forget cX8_forget 3 none 1 0 0 [.ref (gA g 36 0 0)] M (fun M : Mw => (none, M)) (F_X8_forget M) := by
  refine Kw.of (own := RX8) (lv0 := [(0, .ref (gA g 36 0 0))]) (by decide +kernel) rfl (Nat.le_of_ble_eq_true rfl) rfl (fun x C hl hm => ?_)
  subst hl
  unfold F_X8_forget
  refine r_iconst (v := 0) C dX8_forget_0 (by decide) ?_
  refine r_istore_n0 (lv' := [(1, .int 0), (0, .ref (gA g 36 0 0))]) C dX8_forget_1 rfl (by decide) rfl ?_
  refine r_lv [1, 0] rfl ?_
  exact tl_X8_forget_2 C hm FU 0 M
def F_X9_refresh (M : Mw) : Option (Mw) :=
  ((F_X0_copyFrom (0 + 5) 1 M).bind (fun M1 => ((F_X5_reset 0 M1).bind (fun M3 => ((F_X5_show 0 (M3.1 0 1 0 0) M3).bind (fun M5 => ((F_X0_copyFrom (1 + 5) 1 M5).bind (fun M7 => ((F_X5_reset 1 M7).bind (fun M9 => ((F_X8_forget M9).bind (fun M11 => some M11))))))))))))
set_option maxRecDepth 100000 in
set_option maxHeartbeats 4000000 in
theorem c_X9_refresh {g : Gw} {l : Launch} (M : Mw) : Kw g l yX9_refresh cX9_refresh 1 none 7 0 0 [.ref (gA g 41 0 0)] M (fun M : Mw => (none, M)) (F_X9_refresh M) := by
  refine Kw.of (own := RX9) (lv0 := [(0, .ref (gA g 41 0 0))]) (by decide +kernel) rfl (Nat.le_of_ble_eq_true rfl) rfl (fun x C hl hm => ?_)
  subst hl
  unfold F_X9_refresh
  refine r_aload_n C 0 dX9_refresh_0 rfl rfl ?_
  refine gf_41_6 C dX9_refresh_1 u_370 in_41 ?_
  refine gf_23_0 C dX9_refresh_4 u_330 (in_23 (by decide)) ?_
  refine r_aload_n C 0 dX9_refresh_7 rfl rfl ?_
  refine gf_41_1 C dX9_refresh_8 u_365 in_41 ?_
  refine r_callVU (rest := []) C (c_X0_copyFrom (lt85 (by decide)) (by decide) M) dX9_refresh_11 u_544 (in_0 (lt85 (by decide))) (contW_0 g _ _ _ _ _) rfl u_545 u_546 mi_X0_copyFrom (by decide) rfl rfl (Nat.le_of_ble_eq_true rfl) (xk1 hm (by decide)) (xn1 hm (by decide)) (fun M1 h2 => ?_)
  refine r_aload_n C 0 dX9_refresh_14 rfl rfl ?_
  refine gf_41_6 C dX9_refresh_15 u_370 in_41 ?_
  refine r_callVU (rest := []) C (c_X5_reset (by decide) M1) dX9_refresh_18 u_554 (in_23 (by decide)) (contW_23 g _ _ _ _ _) rfl u_555 u_556 mi_X5_reset (by decide) rfl rfl (Nat.le_of_ble_eq_true rfl) (xk1 hm (by decide)) (xn1 hm (by decide)) (fun M3 h4 => ?_)
  refine r_aload_n C 0 dX9_refresh_21 rfl rfl ?_
  refine gf_41_6 C dX9_refresh_22 u_370 in_41 ?_
  refine r_aload_n C 0 dX9_refresh_25 rfl rfl ?_
  refine gf_41_1 C dX9_refresh_26 u_365 in_41 ?_
  refine gf_0_0 C dX9_refresh_29 u_183 (in_0 (by decide)) ?_
  refine r_callVU (rest := []) C (c_X5_show (by decide) (M3.1 0 1 0 0) M3) dX9_refresh_32 u_570 (in_23 (by decide)) (contW_23 g _ _ _ _ _) rfl u_571 u_572 mi_X5_show (by decide) rfl rfl (Nat.le_of_ble_eq_true rfl) (xk1 hm (by decide)) (xn1 hm (by decide)) (fun M5 h6 => ?_)
  refine r_aload_n C 0 dX9_refresh_35 rfl rfl ?_
  refine gf_41_7 C dX9_refresh_36 u_371 in_41 ?_
  refine gf_23_0 C dX9_refresh_39 u_330 (in_23 (by decide)) ?_
  refine r_aload_n C 0 dX9_refresh_42 rfl rfl ?_
  refine gf_41_1 C dX9_refresh_43 u_365 in_41 ?_
  refine r_callVU (rest := []) C (c_X0_copyFrom (lt85 (by decide)) (by decide) M5) dX9_refresh_46 u_544 (in_0 (lt85 (by decide))) (contW_0 g _ _ _ _ _) rfl u_545 u_546 mi_X0_copyFrom (by decide) rfl rfl (Nat.le_of_ble_eq_true rfl) (xk1 hm (by decide)) (xn1 hm (by decide)) (fun M7 h8 => ?_)
  refine r_aload_n C 0 dX9_refresh_49 rfl rfl ?_
  refine gf_41_7 C dX9_refresh_50 u_371 in_41 ?_
  refine r_callVU (rest := []) C (c_X5_reset (by decide) M7) dX9_refresh_53 u_554 (in_23 (by decide)) (contW_23 g _ _ _ _ _) rfl u_555 u_556 mi_X5_reset (by decide) rfl rfl (Nat.le_of_ble_eq_true rfl) (xk1 hm (by decide)) (xn1 hm (by decide)) (fun M9 h10 => ?_)
  refine r_aload_n C 0 dX9_refresh_56 rfl rfl ?_
  refine gf_41_8 C dX9_refresh_57 u_372 in_41 ?_
  refine r_callVU (rest := []) C (c_X8_forget M9) dX9_refresh_60 u_686 in_36 (contW_36 g _ _ _ _ _) rfl u_687 u_688 mi_X8_forget (by decide) rfl rfl (Nat.le_of_ble_eq_true rfl) (xk1 hm (by decide)) (xn1 hm (by decide)) (fun M11 h12 => ?_)
  exact r_vret C dX9_refresh_63 rfl rfl (xk0 hm) (xn0 hm)
def F_X9_fault (p1 : Int32) (M : Mw) : Option (Int32) :=
  (if p1 = 0 then some (M.1 13 0 0 2) else (if p1 = 1 then some (M.1 13 0 0 3) else some (-1)))
set_option maxRecDepth 100000 in
set_option maxHeartbeats 4000000 in
theorem c_X9_fault {g : Gw} {l : Launch} (p1 : Int32) (M : Mw) : Kw g l yX9_fault cX9_fault 2 (some .int) 1 0 0 [.ref (gA g 41 0 0), .int p1] M (fun v : Int32 => (some (.int v), M)) (F_X9_fault p1 M) := by
  refine Kw.of (own := RX9) (lv0 := [(0, .ref (gA g 41 0 0)), (1, .int p1)]) (by decide +kernel) rfl (Nat.le_of_ble_eq_true rfl) rfl (fun x C hl hm => ?_)
  subst hl
  unfold F_X9_fault
  refine r_iload_n C 1 dX9_fault_0 rfl rfl ?_
  refine r_if_ne (tgt := 12) C dX9_fault_1 (by decide) (fun h1 => ?_) (fun h1 => ?_)
  · refine r_aload_n C 0 dX9_fault_4 rfl rfl ?_
    refine gf_41_0 C dX9_fault_5 u_364 in_41 ?_
    refine gf_13_2 C dX9_fault_8 u_244 in_13 ?_
    exact r_iret C dX9_fault_11 rfl rfl (xk0 hm) (xn0 hm)
  · refine r_iload_n C 1 dX9_fault_12 rfl rfl ?_
    refine r_iconst (v := 1) C dX9_fault_13 (by decide) ?_
    refine r_icmp_ne (tgt := 27) C dX9_fault_14 (by decide) (fun h2 => ?_) (fun h2 => ?_)
    · refine r_aload_n C 0 dX9_fault_17 rfl rfl ?_
      refine gf_41_0 C dX9_fault_18 u_364 in_41 ?_
      refine gf_13_3 C dX9_fault_21 u_246 in_13 ?_
      refine r_goto (tgt := 28) C dX9_fault_24 (by decide) ?_
      exact r_iret C dX9_fault_28 rfl rfl (xk0 hm) (xn0 hm)
    · refine r_iconst (v := (-1)) C dX9_fault_27 (by decide) ?_
      exact r_iret C dX9_fault_28 rfl rfl (xk0 hm) (xn0 hm)
def F_X9_task (p1 : Int32) (p2 : Int32) (M : Mw) : Option (Int32) :=
  ((F_X0_hasTask 1 p1 M).bind (fun v1 => (if v1 = 0 then some (-2) else (if p2 < 0 then some (-2) else (if p2 < 7 then (if inb p1 5 then (if inb p2 7 then some (M.1 4 1 p1.toNatClampNeg p2.toNatClampNeg) else none) else none) else some (-2))))))
set_option maxRecDepth 100000 in
set_option maxHeartbeats 4000000 in
theorem c_X9_task {g : Gw} {l : Launch} (p1 : Int32) (p2 : Int32) (M : Mw) : Kw g l yX9_task cX9_task 3 (some .int) 2 0 0 [.ref (gA g 41 0 0), .int p1, .int p2] M (fun v : Int32 => (some (.int v), M)) (F_X9_task p1 p2 M) := by
  refine Kw.of (own := RX9) (lv0 := [(0, .ref (gA g 41 0 0)), (1, .int p1), (2, .int p2)]) (by decide +kernel) rfl (Nat.le_of_ble_eq_true rfl) rfl (fun x C hl hm => ?_)
  subst hl
  unfold F_X9_task
  refine r_aload_n C 0 dX9_task_0 rfl rfl ?_
  refine gf_41_1 C dX9_task_1 u_365 in_41 ?_
  refine r_iload_n C 1 dX9_task_4 rfl rfl ?_
  refine r_callVRi (rest := []) C (c_X0_hasTask (by decide) p1 M) dX9_task_5 u_699 (in_0 (by decide)) (contW_0 g _ _ _ _ _) rfl u_510 u_511 mi_X0_hasTask (by decide) rfl rfl (Nat.le_of_ble_eq_true rfl) (xk1 hm (by decide)) (xn1 hm (by decide)) (fun v1 h2 => ?_)
  refine r_if_eq (tgt := 21) C dX9_task_8 (by decide) (fun h3 => ?_) (fun h3 => ?_)
  · refine r_bipush (v := (-2)) C dX9_task_21 (by decide) ?_
    exact r_iret C dX9_task_23 rfl rfl (xk0 hm) (xn0 hm)
  · refine r_iload_n C 2 dX9_task_11 rfl rfl ?_
    refine r_if_lt (tgt := 21) C dX9_task_12 (by decide) (fun h4 => ?_) (fun h4 => ?_)
    · refine r_bipush (v := (-2)) C dX9_task_21 (by decide) ?_
      exact r_iret C dX9_task_23 rfl rfl (xk0 hm) (xn0 hm)
    · refine r_iload_n C 2 dX9_task_15 rfl rfl ?_
      refine r_bipush (v := 7) C dX9_task_16 (by decide) ?_
      refine r_icmp_lt (tgt := 24) C dX9_task_18 (by decide) (fun h5 => ?_) (fun h5 => ?_)
      · refine r_aload_n C 0 dX9_task_24 rfl rfl ?_
        refine gf_41_1 C dX9_task_25 u_365 in_41 ?_
        refine gf_0_10 C dX9_task_28 u_222 (in_0 (by decide)) ?_
        refine r_iload_n C 1 dX9_task_31 rfl rfl ?_
        refine r_aald (t0 := 5) (ty := .array .int) C dX9_task_32 (in_3 (by decide)) (contW_3 g _ _ _ _ _) rfl rfl (fun h6 => ?_)
        refine r_iload_n C 2 dX9_task_33 rfl rfl ?_
        refine r_iald C dX9_task_34 (in_4 (by decide) (inb_lt h6)) (contW_4 g _ _ _ _ _) (fun h7 => ?_)
        exact r_iret C dX9_task_35 rfl rfl (xk0 hm) (xn0 hm)
      · refine r_bipush (v := (-2)) C dX9_task_21 (by decide) ?_
        exact r_iret C dX9_task_23 rfl rfl (xk0 hm) (xn0 hm)
def F_X9_node (p1 : Int32) (p2 : Int32) (p3 : Int32) (M : Mw) : Option (Int32) :=
  ((F_X0_hasNode 1 p1 p2 M).bind (fun v1 => (if v1 = 0 then some (-2) else (if p3 < 0 then some (-2) else (if p3 ≤ 1 then (if p3 = 0 then (if inb p1 5 then (if inb p2 6 then some (M.1 6 1 p1.toNatClampNeg p2.toNatClampNeg) else none) else none) else (if inb p1 5 then (if inb p2 6 then some (M.1 8 1 p1.toNatClampNeg p2.toNatClampNeg) else none) else none)) else some (-2))))))
set_option maxRecDepth 100000 in
set_option maxHeartbeats 4000000 in
theorem c_X9_node {g : Gw} {l : Launch} (p1 : Int32) (p2 : Int32) (p3 : Int32) (M : Mw) : Kw g l yX9_node cX9_node 4 (some .int) 3 0 0 [.ref (gA g 41 0 0), .int p1, .int p2, .int p3] M (fun v : Int32 => (some (.int v), M)) (F_X9_node p1 p2 p3 M) := by
  refine Kw.of (own := RX9) (lv0 := [(0, .ref (gA g 41 0 0)), (1, .int p1), (2, .int p2), (3, .int p3)]) (by decide +kernel) rfl (Nat.le_of_ble_eq_true rfl) rfl (fun x C hl hm => ?_)
  subst hl
  unfold F_X9_node
  refine r_aload_n C 0 dX9_node_0 rfl rfl ?_
  refine gf_41_1 C dX9_node_1 u_365 in_41 ?_
  refine r_iload_n C 1 dX9_node_4 rfl rfl ?_
  refine r_iload_n C 2 dX9_node_5 rfl rfl ?_
  refine r_callVRi (rest := []) C (c_X0_hasNode (by decide) p1 p2 M) dX9_node_6 u_704 (in_0 (by decide)) (contW_0 g _ _ _ _ _) rfl u_506 u_507 mi_X0_hasNode (by decide) rfl rfl (Nat.le_of_ble_eq_true rfl) (xk1 hm (by decide)) (xn1 hm (by decide)) (fun v1 h2 => ?_)
  refine r_if_eq (tgt := 21) C dX9_node_9 (by decide) (fun h3 => ?_) (fun h3 => ?_)
  · refine r_bipush (v := (-2)) C dX9_node_21 (by decide) ?_
    exact r_iret C dX9_node_23 rfl rfl (xk0 hm) (xn0 hm)
  · refine r_iload_n C 3 dX9_node_12 rfl rfl ?_
    refine r_if_lt (tgt := 21) C dX9_node_13 (by decide) (fun h4 => ?_) (fun h4 => ?_)
    · refine r_bipush (v := (-2)) C dX9_node_21 (by decide) ?_
      exact r_iret C dX9_node_23 rfl rfl (xk0 hm) (xn0 hm)
    · refine r_iload_n C 3 dX9_node_16 rfl rfl ?_
      refine r_iconst (v := 1) C dX9_node_17 (by decide) ?_
      refine r_icmp_le (tgt := 24) C dX9_node_18 (by decide) (fun h5 => ?_) (fun h5 => ?_)
      · refine r_iload_n C 3 dX9_node_24 rfl rfl ?_
        refine r_if_ne (tgt := 42) C dX9_node_25 (by decide) (fun h6 => ?_) (fun h6 => ?_)
        · refine r_aload_n C 0 dX9_node_28 rfl rfl ?_
          refine gf_41_1 C dX9_node_29 u_365 in_41 ?_
          refine gf_0_11 C dX9_node_32 u_226 (in_0 (by decide)) ?_
          refine r_iload_n C 1 dX9_node_35 rfl rfl ?_
          refine r_aald (t0 := 5) (ty := .array .int) C dX9_node_36 (in_5 (by decide)) (contW_5 g _ _ _ _ _) rfl rfl (fun h9 => ?_)
          refine r_iload_n C 2 dX9_node_37 rfl rfl ?_
          refine r_iald C dX9_node_38 (in_6 (by decide) (inb_lt h9)) (contW_6 g _ _ _ _ _) (fun h10 => ?_)
          refine r_goto (tgt := 53) C dX9_node_39 (by decide) ?_
          exact r_iret C dX9_node_53 rfl rfl (xk0 hm) (xn0 hm)
        · refine r_aload_n C 0 dX9_node_42 rfl rfl ?_
          refine gf_41_1 C dX9_node_43 u_365 in_41 ?_
          refine gf_0_12 C dX9_node_46 u_231 (in_0 (by decide)) ?_
          refine r_iload_n C 1 dX9_node_49 rfl rfl ?_
          refine r_aald (t0 := 5) (ty := .array .int) C dX9_node_50 (in_7 (by decide)) (contW_7 g _ _ _ _ _) rfl rfl (fun h7 => ?_)
          refine r_iload_n C 2 dX9_node_51 rfl rfl ?_
          refine r_iald C dX9_node_52 (in_8 (by decide) (inb_lt h7)) (contW_8 g _ _ _ _ _) (fun h8 => ?_)
          exact r_iret C dX9_node_53 rfl rfl (xk0 hm) (xn0 hm)
      · refine r_bipush (v := (-2)) C dX9_node_21 (by decide) ?_
        exact r_iret C dX9_node_23 rfl rfl (xk0 hm) (xn0 hm)
def F_X0_hasWatcher (b : Nat) (p1 : Int32) (M : Mw) : Option (Int32) :=
  (if p1 < 0 then some 0 else (if (M.1 0 b 0 4) ≤ p1 then some 0 else some 1))
set_option maxRecDepth 100000 in
set_option maxHeartbeats 4000000 in
theorem c_X0_hasWatcher {g : Gw} {l : Launch} {b : Nat} (hb : b < 8) (p1 : Int32) (M : Mw) : Kw g l yX0_hasWatcher cX0_hasWatcher 2 (some .boolean) 1 0 0 [.ref (gA g 0 b 0), .int p1] M (fun v : Int32 => (some (.int v), M)) (F_X0_hasWatcher b p1 M) := by
  refine Kw.of (own := RX0) (lv0 := [(0, .ref (gA g 0 b 0)), (1, .int p1)]) (by decide +kernel) rfl (Nat.le_of_ble_eq_true rfl) rfl (fun x C hl hm => ?_)
  subst hl
  unfold F_X0_hasWatcher
  refine r_iload_n C 1 dX0_hasWatcher_0 rfl rfl ?_
  refine r_if_lt (tgt := 16) C dX0_hasWatcher_1 (by decide) (fun h1 => ?_) (fun h1 => ?_)
  · refine r_iconst (v := 0) C dX0_hasWatcher_16 (by decide) ?_
    exact r_zretc C dX0_hasWatcher_17 rfl bz0 rfl (xk0 hm) (xn0 hm)
  · refine r_iload_n C 1 dX0_hasWatcher_4 rfl rfl ?_
    refine r_aload_n C 0 dX0_hasWatcher_5 rfl rfl ?_
    refine gf_0_4 C dX0_hasWatcher_6 u_196 (in_0 hb) ?_
    refine r_icmp_ge (tgt := 16) C dX0_hasWatcher_9 (by decide) (fun h2 => ?_) (fun h2 => ?_)
    · refine r_iconst (v := 0) C dX0_hasWatcher_16 (by decide) ?_
      exact r_zretc C dX0_hasWatcher_17 rfl bz0 rfl (xk0 hm) (xn0 hm)
    · refine r_iconst (v := 1) C dX0_hasWatcher_12 (by decide) ?_
      refine r_goto (tgt := 17) C dX0_hasWatcher_13 (by decide) ?_
      exact r_zretc C dX0_hasWatcher_17 rfl bz1 rfl (xk0 hm) (xn0 hm)
def F_X9_watcher (p1 : Int32) (M : Mw) : Option (Int32) :=
  ((F_X0_hasWatcher 1 p1 M).bind (fun v1 => (if v1 = 0 then some (-2) else (if inb p1 3 then some (M.1 1 1 0 p1.toNatClampNeg) else none))))
set_option maxRecDepth 100000 in
set_option maxHeartbeats 4000000 in
theorem c_X9_watcher {g : Gw} {l : Launch} (p1 : Int32) (M : Mw) : Kw g l yX9_watcher cX9_watcher 2 (some .int) 2 0 0 [.ref (gA g 41 0 0), .int p1] M (fun v : Int32 => (some (.int v), M)) (F_X9_watcher p1 M) := by
  refine Kw.of (own := RX9) (lv0 := [(0, .ref (gA g 41 0 0)), (1, .int p1)]) (by decide +kernel) rfl (Nat.le_of_ble_eq_true rfl) rfl (fun x C hl hm => ?_)
  subst hl
  unfold F_X9_watcher
  refine r_aload_n C 0 dX9_watcher_0 rfl rfl ?_
  refine gf_41_1 C dX9_watcher_1 u_365 in_41 ?_
  refine r_iload_n C 1 dX9_watcher_4 rfl rfl ?_
  refine r_callVRi (rest := []) C (c_X0_hasWatcher (by decide) p1 M) dX9_watcher_5 u_709 (in_0 (by decide)) (contW_0 g _ _ _ _ _) rfl u_710 u_711 mi_X0_hasWatcher (by decide) rfl rfl (Nat.le_of_ble_eq_true rfl) (xk1 hm (by decide)) (xn1 hm (by decide)) (fun v1 h2 => ?_)
  refine r_if_eq (tgt := 23) C dX9_watcher_8 (by decide) (fun h3 => ?_) (fun h3 => ?_)
  · refine r_bipush (v := (-2)) C dX9_watcher_23 (by decide) ?_
    exact r_iret C dX9_watcher_25 rfl rfl (xk0 hm) (xn0 hm)
  · refine r_aload_n C 0 dX9_watcher_11 rfl rfl ?_
    refine gf_41_1 C dX9_watcher_12 u_365 in_41 ?_
    refine gf_0_8 C dX9_watcher_15 u_215 (in_0 (by decide)) ?_
    refine r_iload_n C 1 dX9_watcher_18 rfl rfl ?_
    refine r_iald C dX9_watcher_19 (in_1 (by decide)) (contW_1 g _ _ _ _ _) (fun h4 => ?_)
    refine r_goto (tgt := 25) C dX9_watcher_20 (by decide) ?_
    exact r_iret C dX9_watcher_25 rfl rfl (xk0 hm) (xn0 hm)
def F_X0_hasInjection (b : Nat) (p1 : Int32) (M : Mw) : Option (Int32) :=
  (if p1 < 0 then some 0 else (if ((M.1 0 b 0 6) + (M.1 0 b 0 7)) ≤ p1 then some 0 else some 1))
set_option maxRecDepth 100000 in
set_option maxHeartbeats 4000000 in
theorem c_X0_hasInjection {g : Gw} {l : Launch} {b : Nat} (hb : b < 8) (p1 : Int32) (M : Mw) : Kw g l yX0_hasInjection cX0_hasInjection 2 (some .boolean) 1 0 0 [.ref (gA g 0 b 0), .int p1] M (fun v : Int32 => (some (.int v), M)) (F_X0_hasInjection b p1 M) := by
  refine Kw.of (own := RX0) (lv0 := [(0, .ref (gA g 0 b 0)), (1, .int p1)]) (by decide +kernel) rfl (Nat.le_of_ble_eq_true rfl) rfl (fun x C hl hm => ?_)
  subst hl
  unfold F_X0_hasInjection
  refine r_iload_n C 1 dX0_hasInjection_0 rfl rfl ?_
  refine r_if_lt (tgt := 21) C dX0_hasInjection_1 (by decide) (fun h1 => ?_) (fun h1 => ?_)
  · refine r_iconst (v := 0) C dX0_hasInjection_21 (by decide) ?_
    exact r_zretc C dX0_hasInjection_22 rfl bz0 rfl (xk0 hm) (xn0 hm)
  · refine r_iload_n C 1 dX0_hasInjection_4 rfl rfl ?_
    refine r_aload_n C 0 dX0_hasInjection_5 rfl rfl ?_
    refine gf_0_6 C dX0_hasInjection_6 u_205 (in_0 hb) ?_
    refine r_aload_n C 0 dX0_hasInjection_9 rfl rfl ?_
    refine gf_0_7 C dX0_hasInjection_10 u_210 (in_0 hb) ?_
    refine r_iadd C dX0_hasInjection_13 ?_
    refine r_icmp_ge (tgt := 21) C dX0_hasInjection_14 (by decide) (fun h2 => ?_) (fun h2 => ?_)
    · refine r_iconst (v := 0) C dX0_hasInjection_21 (by decide) ?_
      exact r_zretc C dX0_hasInjection_22 rfl bz0 rfl (xk0 hm) (xn0 hm)
    · refine r_iconst (v := 1) C dX0_hasInjection_17 (by decide) ?_
      refine r_goto (tgt := 22) C dX0_hasInjection_18 (by decide) ?_
      exact r_zretc C dX0_hasInjection_22 rfl bz1 rfl (xk0 hm) (xn0 hm)
def F_X9_injection (p1 : Int32) (p2 : Int32) (M : Mw) : Option (Int32) :=
  ((F_X0_hasInjection 1 p1 M).bind (fun v1 => (if v1 = 0 then some (-2) else (if p2 < 0 then some (-2) else (if p2 < 5 then (if inb p1 19 then (if inb p2 5 then some (M.1 12 1 p1.toNatClampNeg p2.toNatClampNeg) else none) else none) else some (-2))))))
set_option maxRecDepth 100000 in
set_option maxHeartbeats 4000000 in
theorem c_X9_injection {g : Gw} {l : Launch} (p1 : Int32) (p2 : Int32) (M : Mw) : Kw g l yX9_injection cX9_injection 3 (some .int) 2 0 0 [.ref (gA g 41 0 0), .int p1, .int p2] M (fun v : Int32 => (some (.int v), M)) (F_X9_injection p1 p2 M) := by
  refine Kw.of (own := RX9) (lv0 := [(0, .ref (gA g 41 0 0)), (1, .int p1), (2, .int p2)]) (by decide +kernel) rfl (Nat.le_of_ble_eq_true rfl) rfl (fun x C hl hm => ?_)
  subst hl
  unfold F_X9_injection
  refine r_aload_n C 0 dX9_injection_0 rfl rfl ?_
  refine gf_41_1 C dX9_injection_1 u_365 in_41 ?_
  refine r_iload_n C 1 dX9_injection_4 rfl rfl ?_
  refine r_callVRi (rest := []) C (c_X0_hasInjection (by decide) p1 M) dX9_injection_5 u_717 (in_0 (by decide)) (contW_0 g _ _ _ _ _) rfl u_718 u_719 mi_X0_hasInjection (by decide) rfl rfl (Nat.le_of_ble_eq_true rfl) (xk1 hm (by decide)) (xn1 hm (by decide)) (fun v1 h2 => ?_)
  refine r_if_eq (tgt := 20) C dX9_injection_8 (by decide) (fun h3 => ?_) (fun h3 => ?_)
  · refine r_bipush (v := (-2)) C dX9_injection_20 (by decide) ?_
    exact r_iret C dX9_injection_22 rfl rfl (xk0 hm) (xn0 hm)
  · refine r_iload_n C 2 dX9_injection_11 rfl rfl ?_
    refine r_if_lt (tgt := 20) C dX9_injection_12 (by decide) (fun h4 => ?_) (fun h4 => ?_)
    · refine r_bipush (v := (-2)) C dX9_injection_20 (by decide) ?_
      exact r_iret C dX9_injection_22 rfl rfl (xk0 hm) (xn0 hm)
    · refine r_iload_n C 2 dX9_injection_15 rfl rfl ?_
      refine r_iconst (v := 5) C dX9_injection_16 (by decide) ?_
      refine r_icmp_lt (tgt := 23) C dX9_injection_17 (by decide) (fun h5 => ?_) (fun h5 => ?_)
      · refine r_aload_n C 0 dX9_injection_23 rfl rfl ?_
        refine gf_41_1 C dX9_injection_24 u_365 in_41 ?_
        refine gf_0_14 C dX9_injection_27 u_237 (in_0 (by decide)) ?_
        refine r_iload_n C 1 dX9_injection_30 rfl rfl ?_
        refine r_aald (t0 := 5) (ty := .array .int) C dX9_injection_31 (in_11 (by decide)) (contW_11 g _ _ _ _ _) rfl rfl (fun h6 => ?_)
        refine r_iload_n C 2 dX9_injection_32 rfl rfl ?_
        refine r_iald C dX9_injection_33 (in_12 (by decide) (inb_lt h6)) (contW_12 g _ _ _ _ _) (fun h7 => ?_)
        exact r_iret C dX9_injection_34 rfl rfl (xk0 hm) (xn0 hm)
      · refine r_bipush (v := (-2)) C dX9_injection_20 (by decide) ?_
        exact r_iret C dX9_injection_22 rfl rfl (xk0 hm) (xn0 hm)
def F_X9_cost (p1 : Int32) (p2 : Int32) (M : Mw) : Option (Int32) :=
  ((F_X0_hasTask 1 p1 M).bind (fun v1 => (if v1 = 0 then some (-2) else (if p2 < 0 then some (-2) else (if p2 ≤ 1 then (if inb p1 5 then (if inb p2 2 then some (M.1 10 1 p1.toNatClampNeg p2.toNatClampNeg) else none) else none) else some (-2))))))
set_option maxRecDepth 100000 in
set_option maxHeartbeats 4000000 in
theorem c_X9_cost {g : Gw} {l : Launch} (p1 : Int32) (p2 : Int32) (M : Mw) : Kw g l yX9_cost cX9_cost 3 (some .int) 2 0 0 [.ref (gA g 41 0 0), .int p1, .int p2] M (fun v : Int32 => (some (.int v), M)) (F_X9_cost p1 p2 M) := by
  refine Kw.of (own := RX9) (lv0 := [(0, .ref (gA g 41 0 0)), (1, .int p1), (2, .int p2)]) (by decide +kernel) rfl (Nat.le_of_ble_eq_true rfl) rfl (fun x C hl hm => ?_)
  subst hl
  unfold F_X9_cost
  refine r_aload_n C 0 dX9_cost_0 rfl rfl ?_
  refine gf_41_1 C dX9_cost_1 u_365 in_41 ?_
  refine r_iload_n C 1 dX9_cost_4 rfl rfl ?_
  refine r_callVRi (rest := []) C (c_X0_hasTask (by decide) p1 M) dX9_cost_5 u_699 (in_0 (by decide)) (contW_0 g _ _ _ _ _) rfl u_510 u_511 mi_X0_hasTask (by decide) rfl rfl (Nat.le_of_ble_eq_true rfl) (xk1 hm (by decide)) (xn1 hm (by decide)) (fun v1 h2 => ?_)
  refine r_if_eq (tgt := 20) C dX9_cost_8 (by decide) (fun h3 => ?_) (fun h3 => ?_)
  · refine r_bipush (v := (-2)) C dX9_cost_20 (by decide) ?_
    exact r_iret C dX9_cost_22 rfl rfl (xk0 hm) (xn0 hm)
  · refine r_iload_n C 2 dX9_cost_11 rfl rfl ?_
    refine r_if_lt (tgt := 20) C dX9_cost_12 (by decide) (fun h4 => ?_) (fun h4 => ?_)
    · refine r_bipush (v := (-2)) C dX9_cost_20 (by decide) ?_
      exact r_iret C dX9_cost_22 rfl rfl (xk0 hm) (xn0 hm)
    · refine r_iload_n C 2 dX9_cost_15 rfl rfl ?_
      refine r_iconst (v := 1) C dX9_cost_16 (by decide) ?_
      refine r_icmp_le (tgt := 23) C dX9_cost_17 (by decide) (fun h5 => ?_) (fun h5 => ?_)
      · refine r_aload_n C 0 dX9_cost_23 rfl rfl ?_
        refine gf_41_1 C dX9_cost_24 u_365 in_41 ?_
        refine gf_0_13 C dX9_cost_27 u_235 (in_0 (by decide)) ?_
        refine r_iload_n C 1 dX9_cost_30 rfl rfl ?_
        refine r_aald (t0 := 5) (ty := .array .int) C dX9_cost_31 (in_9 (by decide)) (contW_9 g _ _ _ _ _) rfl rfl (fun h6 => ?_)
        refine r_iload_n C 2 dX9_cost_32 rfl rfl ?_
        refine r_iald C dX9_cost_33 (in_10 (by decide) (inb_lt h6)) (contW_10 g _ _ _ _ _) (fun h7 => ?_)
        exact r_iret C dX9_cost_34 rfl rfl (xk0 hm) (xn0 hm)
      · refine r_bipush (v := (-2)) C dX9_cost_20 (by decide) ?_
        exact r_iret C dX9_cost_22 rfl rfl (xk0 hm) (xn0 hm)
def F_X2_behindNode (p1 : Int32) (p2 : Int32) (M : Mw) : Option (Int32) :=
  (if 64 = 0 then none else some ((((5 * p1) + p2) + 1) - (((5 * p1) + p2) + 1) / 64 * 64))
set_option maxRecDepth 100000 in
set_option maxHeartbeats 4000000 in
theorem c_X2_behindNode {g : Gw} {l : Launch} (p1 : Int32) (p2 : Int32) (M : Mw) : Kw g l yX2_behindNode cX2_behindNode 2 (some .int) 1 0 0 [.int p1, .int p2] M (fun v : Int32 => (some (.int v), M)) (F_X2_behindNode p1 p2 M) := by
  refine Kw.of (own := RX2) (lv0 := [(0, .int p1), (1, .int p2)]) (by decide +kernel) rfl (Nat.le_of_ble_eq_true rfl) rfl (fun x C hl hm => ?_)
  subst hl
  unfold F_X2_behindNode
  refine r_iconst (v := 5) C dX2_behindNode_0 (by decide) ?_
  refine r_iload_n C 0 dX2_behindNode_1 rfl rfl ?_
  refine r_imul C dX2_behindNode_2 ?_
  refine r_iload_n C 1 dX2_behindNode_3 rfl rfl ?_
  refine r_iadd C dX2_behindNode_4 ?_
  refine r_iconst (v := 1) C dX2_behindNode_5 (by decide) ?_
  refine r_iadd C dX2_behindNode_6 ?_
  refine r_bipush (v := 64) C dX2_behindNode_7 (by decide) ?_
  refine r_irem C dX2_behindNode_9 (fun h1 => ?_)
  exact r_iret C dX2_behindNode_10 rfl rfl (xk0 hm) (xn0 hm)
def B_X2_pass_18 (l1 : Int32) (l2 : Int32) (l3 : Int32) (k18 : Int32 → Mw → Option (Mw)) (l4 : Int32) (M : Mw) : Option (Mw) :=
  (if 6 ≤ l4 then some M else (if (l1 &&& (1 <<< (l4 &&& 31))) = 0 then (bd (l4 + 1) (fun v4 => (k18 v4 M))) else (if inb l4 6 then (if inb l2 64 then (if inb l2 64 then (bd (uIw M 19 0 l4.toNatClampNeg l2.toNatClampNeg ((M.1 19 0 l4.toNatClampNeg l2.toNatClampNeg) + l3)) (fun M7 => (bd (l4 + 1) (fun v9 => (k18 v9 M7))))) else none) else none) else none)))
def F_X2_pass (p1 : Int32) (p2 : Int32) (p3 : Int32) (M : Mw) : Option (Mw) :=
  (if p1 = 0 then (if inb p2 64 then (if inb p2 64 then (bd (uIw M 20 0 0 p2.toNatClampNeg ((M.1 20 0 0 p2.toNatClampNeg) + p3)) (fun M11 => some M11)) else none) else none) else (it (fun _ _ => none) (B_X2_pass_18 p1 p2 p3) FU 0 M))
set_option maxRecDepth 100000 in
set_option maxHeartbeats 4000000 in
theorem t_X2_pass_18 {g : Gw} {x : Xw} (C : Cw g x cX2_pass RX2 5 none 1) (hm : x.2.2.2.2.2.2.2.2.2.2.2 = (0, 0)) (l1 : Int32) (l2 : Int32) (l3 : Int32) (k18 : Int32 → Mw → Option (Mw)) (hk18 : ∀ (l4 : Int32) (M : Mw), Sw g x (fun M : Mw => (none, M)) M 0 0 18 [(0, .ref (gA g 17 0 0)), (1, .int l1), (2, .int l2), (3, .int l3), (4, .int l4)] [] (k18 l4 M)) (l4 : Int32) (M : Mw) : Sw g x (fun M : Mw => (none, M)) M 0 0 18 [(0, .ref (gA g 17 0 0)), (1, .int l1), (2, .int l2), (3, .int l3), (4, .int l4)] [] (B_X2_pass_18 l1 l2 l3 k18 l4 M) := by
  unfold B_X2_pass_18
  refine r_iload C 4 dX2_pass_18 rfl ?_
  refine r_bipush (v := 6) C dX2_pass_20 (by decide) ?_
  refine r_icmp_ge (tgt := 53) C dX2_pass_22 (by decide) (fun h2 => ?_) (fun h2 => ?_)
  · exact r_vret C dX2_pass_53 rfl rfl (xk0 hm) (xn0 hm)
  · refine r_iload_n C 1 dX2_pass_25 rfl rfl ?_
    refine r_iconst (v := 1) C dX2_pass_26 (by decide) ?_
    refine r_iload C 4 dX2_pass_27 rfl ?_
    refine r_ishl C dX2_pass_29 ?_
    refine r_iand C dX2_pass_30 ?_
    refine r_if_eq (tgt := 47) C dX2_pass_31 (by decide) (fun h3 => ?_) (fun h3 => ?_)
    · refine r_iinc (c := 1) (lv' := fun v4 => [(4, .int v4), (0, .ref (gA g 17 0 0)), (1, .int l1), (2, .int l2), (3, .int l3)]) C 4 dX2_pass_47 rfl (by decide) (by decide) (fun _ => rfl) (fun v4 => ?_)
      refine r_goto (tgt := 18) C dX2_pass_50 (by decide) ?_
      refine r_lv [1, 2, 3, 4, 0] rfl ?_
      exact hk18 v4 M
    · refine r_aload_n C 0 dX2_pass_34 rfl rfl ?_
      refine gf_17_0 C dX2_pass_35 u_255 in_17 ?_
      refine r_iload C 4 dX2_pass_38 rfl ?_
      refine r_aald (t0 := 5) (ty := .array .int) C dX2_pass_40 in_18 (contW_18 g _ _ _ _ _) rfl rfl (fun h5 => ?_)
      refine r_iload_n C 2 dX2_pass_41 rfl rfl ?_
      refine r_dup2 C rfl rfl dX2_pass_42 ?_
      refine r_iald C dX2_pass_43 (in_19 (inb_lt h5)) (contW_19 g _ _ _ _ _) (fun h6 => ?_)
      refine r_iload_n C 3 dX2_pass_44 rfl rfl ?_
      refine r_iadd C dX2_pass_45 ?_
      refine r_iast C dX2_pass_46 (in_19 (inb_lt h5)) (contW_19 g _ _) (fun M7 h8 => ?_)
      refine r_iinc (c := 1) (lv' := fun v9 => [(4, .int v9), (0, .ref (gA g 17 0 0)), (1, .int l1), (2, .int l2), (3, .int l3)]) C 4 dX2_pass_47 rfl (by decide) (by decide) (fun _ => rfl) (fun v9 => ?_)
      refine r_goto (tgt := 18) C dX2_pass_50 (by decide) ?_
      refine r_lv [1, 2, 3, 4, 0] rfl ?_
      exact hk18 v9 M7
set_option maxRecDepth 100000 in
set_option maxHeartbeats 4000000 in
theorem tl_X2_pass_18 {g : Gw} {x : Xw} (C : Cw g x cX2_pass RX2 5 none 1) (hm : x.2.2.2.2.2.2.2.2.2.2.2 = (0, 0)) (l1 : Int32) (l2 : Int32) (l3 : Int32) (n : Nat) : ∀ (l4 : Int32) (M : Mw), Sw g x (fun M : Mw => (none, M)) M 0 0 18 [(0, .ref (gA g 17 0 0)), (1, .int l1), (2, .int l2), (3, .int l3), (4, .int l4)] [] (it (fun _ _ => none) (B_X2_pass_18 l1 l2 l3) n l4 M) := by
  induction n with
  | zero =>
    intro l4 M
    exact r_none
  | succ n ih =>
    intro l4 M
    exact t_X2_pass_18 C hm l1 l2 l3 _ ih l4 M
set_option maxRecDepth 100000 in
set_option maxHeartbeats 4000000 in
theorem c_X2_pass {g : Gw} {l : Launch} (p1 : Int32) (p2 : Int32) (p3 : Int32) (M : Mw) : Kw g l yX2_pass cX2_pass 5 none 1 0 0 [.ref (gA g 17 0 0), .int p1, .int p2, .int p3] M (fun M : Mw => (none, M)) (F_X2_pass p1 p2 p3 M) := by
  refine Kw.of (own := RX2) (lv0 := [(0, .ref (gA g 17 0 0)), (1, .int p1), (2, .int p2), (3, .int p3)]) (by decide +kernel) rfl (Nat.le_of_ble_eq_true rfl) rfl (fun x C hl hm => ?_)
  subst hl
  unfold F_X2_pass
  refine r_iload_n C 1 dX2_pass_0 rfl rfl ?_
  refine r_if_ne (tgt := 15) C dX2_pass_1 (by decide) (fun h1 => ?_) (fun h1 => ?_)
  · refine r_aload_n C 0 dX2_pass_4 rfl rfl ?_
    refine gf_17_1 C dX2_pass_5 u_256 in_17 ?_
    refine r_iload_n C 2 dX2_pass_8 rfl rfl ?_
    refine r_dup2 C rfl rfl dX2_pass_9 ?_
    refine r_iald C dX2_pass_10 in_20 (contW_20 g _ _ _ _ _) (fun h10 => ?_)
    refine r_iload_n C 3 dX2_pass_11 rfl rfl ?_
    refine r_iadd C dX2_pass_12 ?_
    refine r_iast C dX2_pass_13 in_20 (contW_20 g _ _) (fun M11 h12 => ?_)
    exact r_vret C dX2_pass_14 rfl rfl (xk0 hm) (xn0 hm)
  · refine r_iconst (v := 0) C dX2_pass_15 (by decide) ?_
    refine r_istore0 (lv' := [(4, .int 0), (0, .ref (gA g 17 0 0)), (1, .int p1), (2, .int p2), (3, .int p3)]) C dX2_pass_16 (by decide) rfl ?_
    refine r_lv [1, 2, 3, 4, 0] rfl ?_
    exact tl_X2_pass_18 C hm p1 p2 p3 FU 0 M
def B_X2_tallyAnswers_80 (b1 : Nat) (k63 : Int32 → Mw → Option (Mw)) (l2 : Int32) (l4 : Int32) (k80 : Int32 → Mw → Option (Mw)) (l5 : Int32) (M : Mw) : Option (Mw) :=
  (if 64 ≤ l5 then (bd (l4 + 1) (fun v8 => (k63 v8 M))) else (if inb l2 5 then (if inb l4 6 then ((F_X2_behindNode l5 l4 M).bind (fun v11 => (if inb l4 6 then (if inb l5 64 then ((F_X2_pass (M.1 8 b1 l2.toNatClampNeg l4.toNatClampNeg) v11 (M.1 19 0 l4.toNatClampNeg l5.toNatClampNeg) M).bind (fun M15 => (bd (l5 + 1) (fun v17 => (k80 v17 M15))))) else none) else none))) else none) else none))
def B_X2_tallyAnswers_63 (b1 : Nat) (l2 : Int32) (k63 : Int32 → Mw → Option (Mw)) (l4 : Int32) (M : Mw) : Option (Mw) :=
  (if inb l2 5 then (if (M.1 4 b1 l2.toNatClampNeg 6) ≤ l4 then some M else (it (fun _ _ => none) (B_X2_tallyAnswers_80 b1 k63 l2 l4) FU 0 M)) else none)
def B_X2_tallyAnswers_21 (b1 : Nat) (k3 : Int32 → Mw → Option (Mw)) (l2 : Int32) (l3 : Int32) (l4 : Int32) (k21 : Int32 → Mw → Option (Mw)) (l5 : Int32) (M : Mw) : Option (Mw) :=
  (if 6 ≤ l5 then (bd (l4 + 1) (fun v21 => (k3 v21 M))) else (if inb l5 6 then (if inb l4 64 then (bd (uIw M 19 0 l5.toNatClampNeg l4.toNatClampNeg 0) (fun M23 => (bd (l5 + 1) (fun v25 => (k21 v25 M23))))) else none) else none))
def B_X2_tallyAnswers_3 (b1 : Nat) (l2 : Int32) (l3 : Int32) (k3 : Int32 → Mw → Option (Mw)) (l4 : Int32) (M : Mw) : Option (Mw) :=
  (if 64 ≤ l4 then (if inb 0 6 then (if inb l3 64 then (bd (uIw M 19 0 ((0 : Int32).toNatClampNeg) l3.toNatClampNeg 1) (fun M3 => (it (fun _ _ => none) (B_X2_tallyAnswers_63 b1 l2) FU 0 M3))) else none) else none) else (if inb l4 64 then (bd (uIw M 20 0 0 l4.toNatClampNeg 0) (fun M18 => (it (fun _ _ => none) (B_X2_tallyAnswers_21 b1 k3 l2 l3 l4) FU 0 M18))) else none))
def F_X2_tallyAnswers (b1 : Nat) (p2 : Int32) (p3 : Int32) (M : Mw) : Option (Mw) :=
  (it (fun _ _ => none) (B_X2_tallyAnswers_3 b1 p2 p3) FU 0 M)
set_option maxRecDepth 100000 in
set_option maxHeartbeats 4000000 in
theorem t_X2_tallyAnswers_80 {g : Gw} {x : Xw} (C : Cw g x cX2_tallyAnswers RX2 6 none 2) (hm : x.2.2.2.2.2.2.2.2.2.2.2 = (0, 0)) {b1 : Nat} (hb1 : b1 < 8) (k63 : Int32 → Mw → Option (Mw)) (l2 : Int32) (l4 : Int32) (hk63 : ∀ (l4 : Int32) (M : Mw), Sw g x (fun M : Mw => (none, M)) M 0 0 63 [(0, .ref (gA g 17 0 0)), (1, .ref (gA g 0 b1 0)), (2, .int l2), (4, .int l4)] [] (k63 l4 M)) (k80 : Int32 → Mw → Option (Mw)) (hk80 : ∀ (l5 : Int32) (M : Mw), Sw g x (fun M : Mw => (none, M)) M 0 0 80 [(0, .ref (gA g 17 0 0)), (1, .ref (gA g 0 b1 0)), (2, .int l2), (4, .int l4), (5, .int l5)] [] (k80 l5 M)) (l5 : Int32) (M : Mw) : Sw g x (fun M : Mw => (none, M)) M 0 0 80 [(0, .ref (gA g 17 0 0)), (1, .ref (gA g 0 b1 0)), (2, .int l2), (4, .int l4), (5, .int l5)] [] (B_X2_tallyAnswers_80 b1 k63 l2 l4 k80 l5 M) := by
  unfold B_X2_tallyAnswers_80
  refine r_iload C 4 dX2_tallyAnswers_80 rfl ?_
  refine r_bipush (v := 64) C dX2_tallyAnswers_82 (by decide) ?_
  refine r_icmp_ge (tgt := 123) C dX2_tallyAnswers_84 (by decide) (fun h7 => ?_) (fun h7 => ?_)
  · refine r_iinc (c := 1) (lv' := fun v8 => [(4, .int v8), (0, .ref (gA g 17 0 0)), (1, .ref (gA g 0 b1 0)), (2, .int l2), (5, .int l5)]) C 3 dX2_tallyAnswers_123 rfl (by decide) (by decide) (fun _ => rfl) (fun v8 => ?_)
    refine r_goto (tgt := 63) C dX2_tallyAnswers_126 (by decide) ?_
    refine r_lv [1, 2, 3, 0] rfl ?_
    exact hk63 v8 M
  · refine r_aload_n C 0 dX2_tallyAnswers_87 rfl rfl ?_
    refine r_aload_n C 1 dX2_tallyAnswers_88 rfl rfl ?_
    refine gf_0_12 C dX2_tallyAnswers_89 u_230 (in_0 hb1) ?_
    refine r_iload_n C 2 dX2_tallyAnswers_92 rfl rfl ?_
    refine r_aald (t0 := 5) (ty := .array .int) C dX2_tallyAnswers_93 (in_7 hb1) (contW_7 g _ _ _ _ _) rfl rfl (fun h9 => ?_)
    refine r_iload C 3 dX2_tallyAnswers_94 rfl ?_
    refine r_iald C dX2_tallyAnswers_96 (in_8 hb1 (inb_lt h9)) (contW_8 g _ _ _ _ _) (fun h10 => ?_)
    refine r_iload C 4 dX2_tallyAnswers_97 rfl ?_
    refine r_iload C 3 dX2_tallyAnswers_99 rfl ?_
    refine r_callSRi (rest := [.int (M.1 8 b1 l2.toNatClampNeg l4.toNatClampNeg), .ref (gA g 17 0 0)]) C (c_X2_behindNode l5 l4 M) dX2_tallyAnswers_101 u_736 u_737 mi_X2_behindNode (by decide) rfl rfl (Nat.le_of_ble_eq_true rfl) (xk1 hm (by decide)) (xn1 hm (by decide)) (fun v11 h12 => ?_)
    refine r_aload_n C 0 dX2_tallyAnswers_104 rfl rfl ?_
    refine gf_17_0 C dX2_tallyAnswers_105 u_255 in_17 ?_
    refine r_iload C 3 dX2_tallyAnswers_108 rfl ?_
    refine r_aald (t0 := 5) (ty := .array .int) C dX2_tallyAnswers_110 in_18 (contW_18 g _ _ _ _ _) rfl rfl (fun h13 => ?_)
    refine r_iload C 4 dX2_tallyAnswers_111 rfl ?_
    refine r_iald C dX2_tallyAnswers_113 (in_19 (inb_lt h13)) (contW_19 g _ _ _ _ _) (fun h14 => ?_)
    refine r_callVU (rest := []) C (c_X2_pass (M.1 8 b1 l2.toNatClampNeg l4.toNatClampNeg) v11 (M.1 19 0 l4.toNatClampNeg l5.toNatClampNeg) M) dX2_tallyAnswers_114 u_739 in_17 (contW_17 g _ _ _ _ _) rfl u_740 u_37 mi_X2_pass (by decide) rfl rfl (Nat.le_of_ble_eq_true rfl) (xk1 hm (by decide)) (xn1 hm (by decide)) (fun M15 h16 => ?_)
    refine r_iinc (c := 1) (lv' := fun v17 => [(5, .int v17), (0, .ref (gA g 17 0 0)), (1, .ref (gA g 0 b1 0)), (2, .int l2), (4, .int l4)]) C 4 dX2_tallyAnswers_117 rfl (by decide) (by decide) (fun _ => rfl) (fun v17 => ?_)
    refine r_goto (tgt := 80) C dX2_tallyAnswers_120 (by decide) ?_
    refine r_lv [1, 2, 3, 4, 0] rfl ?_
    exact hk80 v17 M15
set_option maxRecDepth 100000 in
set_option maxHeartbeats 4000000 in
theorem tl_X2_tallyAnswers_80 {g : Gw} {x : Xw} (C : Cw g x cX2_tallyAnswers RX2 6 none 2) (hm : x.2.2.2.2.2.2.2.2.2.2.2 = (0, 0)) {b1 : Nat} (hb1 : b1 < 8) (k63 : Int32 → Mw → Option (Mw)) (l2 : Int32) (l4 : Int32) (hk63 : ∀ (l4 : Int32) (M : Mw), Sw g x (fun M : Mw => (none, M)) M 0 0 63 [(0, .ref (gA g 17 0 0)), (1, .ref (gA g 0 b1 0)), (2, .int l2), (4, .int l4)] [] (k63 l4 M)) (n : Nat) : ∀ (l5 : Int32) (M : Mw), Sw g x (fun M : Mw => (none, M)) M 0 0 80 [(0, .ref (gA g 17 0 0)), (1, .ref (gA g 0 b1 0)), (2, .int l2), (4, .int l4), (5, .int l5)] [] (it (fun _ _ => none) (B_X2_tallyAnswers_80 b1 k63 l2 l4) n l5 M) := by
  induction n with
  | zero =>
    intro l5 M
    exact r_none
  | succ n ih =>
    intro l5 M
    exact t_X2_tallyAnswers_80 C hm hb1 k63 l2 l4 hk63 _ ih l5 M
set_option maxRecDepth 100000 in
set_option maxHeartbeats 4000000 in
theorem t_X2_tallyAnswers_63 {g : Gw} {x : Xw} (C : Cw g x cX2_tallyAnswers RX2 6 none 2) (hm : x.2.2.2.2.2.2.2.2.2.2.2 = (0, 0)) {b1 : Nat} (hb1 : b1 < 8) (l2 : Int32) (k63 : Int32 → Mw → Option (Mw)) (hk63 : ∀ (l4 : Int32) (M : Mw), Sw g x (fun M : Mw => (none, M)) M 0 0 63 [(0, .ref (gA g 17 0 0)), (1, .ref (gA g 0 b1 0)), (2, .int l2), (4, .int l4)] [] (k63 l4 M)) (l4 : Int32) (M : Mw) : Sw g x (fun M : Mw => (none, M)) M 0 0 63 [(0, .ref (gA g 17 0 0)), (1, .ref (gA g 0 b1 0)), (2, .int l2), (4, .int l4)] [] (B_X2_tallyAnswers_63 b1 l2 k63 l4 M) := by
  unfold B_X2_tallyAnswers_63
  refine r_iload C 3 dX2_tallyAnswers_63 rfl ?_
  refine r_aload_n C 1 dX2_tallyAnswers_65 rfl rfl ?_
  refine gf_0_10 C dX2_tallyAnswers_66 u_224 (in_0 hb1) ?_
  refine r_iload_n C 2 dX2_tallyAnswers_69 rfl rfl ?_
  refine r_aald (t0 := 5) (ty := .array .int) C dX2_tallyAnswers_70 (in_3 hb1) (contW_3 g _ _ _ _ _) rfl rfl (fun h5 => ?_)
  refine r_bipush (v := 6) C dX2_tallyAnswers_71 (by decide) ?_
  refine r_ialdc C dX2_tallyAnswers_73 (in_4 hb1 (inb_lt h5)) (contW_4 g _ _ _ _ _) (by decide) (j := 6) (by decide) ?_
  refine r_icmp_ge (tgt := 129) C dX2_tallyAnswers_74 (by decide) (fun h6 => ?_) (fun h6 => ?_)
  · exact r_vret C dX2_tallyAnswers_129 rfl rfl (xk0 hm) (xn0 hm)
  · refine r_iconst (v := 0) C dX2_tallyAnswers_77 (by decide) ?_
    refine r_istore0 (lv' := [(5, .int 0), (0, .ref (gA g 17 0 0)), (1, .ref (gA g 0 b1 0)), (2, .int l2), (4, .int l4)]) C dX2_tallyAnswers_78 (by decide) rfl ?_
    refine r_lv [1, 2, 3, 4, 0] rfl ?_
    exact tl_X2_tallyAnswers_80 C hm hb1 k63 l2 l4 hk63 FU 0 M
set_option maxRecDepth 100000 in
set_option maxHeartbeats 4000000 in
theorem tl_X2_tallyAnswers_63 {g : Gw} {x : Xw} (C : Cw g x cX2_tallyAnswers RX2 6 none 2) (hm : x.2.2.2.2.2.2.2.2.2.2.2 = (0, 0)) {b1 : Nat} (hb1 : b1 < 8) (l2 : Int32) (n : Nat) : ∀ (l4 : Int32) (M : Mw), Sw g x (fun M : Mw => (none, M)) M 0 0 63 [(0, .ref (gA g 17 0 0)), (1, .ref (gA g 0 b1 0)), (2, .int l2), (4, .int l4)] [] (it (fun _ _ => none) (B_X2_tallyAnswers_63 b1 l2) n l4 M) := by
  induction n with
  | zero =>
    intro l4 M
    exact r_none
  | succ n ih =>
    intro l4 M
    exact t_X2_tallyAnswers_63 C hm hb1 l2 _ ih l4 M
set_option maxRecDepth 100000 in
set_option maxHeartbeats 4000000 in
theorem t_X2_tallyAnswers_21 {g : Gw} {x : Xw} (C : Cw g x cX2_tallyAnswers RX2 6 none 2) (hm : x.2.2.2.2.2.2.2.2.2.2.2 = (0, 0)) {b1 : Nat} (hb1 : b1 < 8) (k3 : Int32 → Mw → Option (Mw)) (l2 : Int32) (l3 : Int32) (l4 : Int32) (hk3 : ∀ (l4 : Int32) (M : Mw), Sw g x (fun M : Mw => (none, M)) M 0 0 3 [(0, .ref (gA g 17 0 0)), (1, .ref (gA g 0 b1 0)), (2, .int l2), (3, .int l3), (4, .int l4)] [] (k3 l4 M)) (k21 : Int32 → Mw → Option (Mw)) (hk21 : ∀ (l5 : Int32) (M : Mw), Sw g x (fun M : Mw => (none, M)) M 0 0 21 [(0, .ref (gA g 17 0 0)), (1, .ref (gA g 0 b1 0)), (2, .int l2), (3, .int l3), (4, .int l4), (5, .int l5)] [] (k21 l5 M)) (l5 : Int32) (M : Mw) : Sw g x (fun M : Mw => (none, M)) M 0 0 21 [(0, .ref (gA g 17 0 0)), (1, .ref (gA g 0 b1 0)), (2, .int l2), (3, .int l3), (4, .int l4), (5, .int l5)] [] (B_X2_tallyAnswers_21 b1 k3 l2 l3 l4 k21 l5 M) := by
  unfold B_X2_tallyAnswers_21
  refine r_iload C 5 dX2_tallyAnswers_21 rfl ?_
  refine r_bipush (v := 6) C dX2_tallyAnswers_23 (by decide) ?_
  refine r_icmp_ge (tgt := 45) C dX2_tallyAnswers_25 (by decide) (fun h20 => ?_) (fun h20 => ?_)
  · refine r_iinc (c := 1) (lv' := fun v21 => [(4, .int v21), (0, .ref (gA g 17 0 0)), (1, .ref (gA g 0 b1 0)), (2, .int l2), (3, .int l3), (5, .int l5)]) C 4 dX2_tallyAnswers_45 rfl (by decide) (by decide) (fun _ => rfl) (fun v21 => ?_)
    refine r_goto (tgt := 3) C dX2_tallyAnswers_48 (by decide) ?_
    refine r_lv [1, 2, 3, 4, 0] rfl ?_
    exact hk3 v21 M
  · refine r_aload_n C 0 dX2_tallyAnswers_28 rfl rfl ?_
    refine gf_17_0 C dX2_tallyAnswers_29 u_255 in_17 ?_
    refine r_iload C 5 dX2_tallyAnswers_32 rfl ?_
    refine r_aald (t0 := 5) (ty := .array .int) C dX2_tallyAnswers_34 in_18 (contW_18 g _ _ _ _ _) rfl rfl (fun h22 => ?_)
    refine r_iload C 4 dX2_tallyAnswers_35 rfl ?_
    refine r_iconst (v := 0) C dX2_tallyAnswers_37 (by decide) ?_
    refine r_iast C dX2_tallyAnswers_38 (in_19 (inb_lt h22)) (contW_19 g _ _) (fun M23 h24 => ?_)
    refine r_iinc (c := 1) (lv' := fun v25 => [(5, .int v25), (0, .ref (gA g 17 0 0)), (1, .ref (gA g 0 b1 0)), (2, .int l2), (3, .int l3), (4, .int l4)]) C 5 dX2_tallyAnswers_39 rfl (by decide) (by decide) (fun _ => rfl) (fun v25 => ?_)
    refine r_goto (tgt := 21) C dX2_tallyAnswers_42 (by decide) ?_
    refine r_lv [1, 2, 3, 4, 5, 0] rfl ?_
    exact hk21 v25 M23
set_option maxRecDepth 100000 in
set_option maxHeartbeats 4000000 in
theorem tl_X2_tallyAnswers_21 {g : Gw} {x : Xw} (C : Cw g x cX2_tallyAnswers RX2 6 none 2) (hm : x.2.2.2.2.2.2.2.2.2.2.2 = (0, 0)) {b1 : Nat} (hb1 : b1 < 8) (k3 : Int32 → Mw → Option (Mw)) (l2 : Int32) (l3 : Int32) (l4 : Int32) (hk3 : ∀ (l4 : Int32) (M : Mw), Sw g x (fun M : Mw => (none, M)) M 0 0 3 [(0, .ref (gA g 17 0 0)), (1, .ref (gA g 0 b1 0)), (2, .int l2), (3, .int l3), (4, .int l4)] [] (k3 l4 M)) (n : Nat) : ∀ (l5 : Int32) (M : Mw), Sw g x (fun M : Mw => (none, M)) M 0 0 21 [(0, .ref (gA g 17 0 0)), (1, .ref (gA g 0 b1 0)), (2, .int l2), (3, .int l3), (4, .int l4), (5, .int l5)] [] (it (fun _ _ => none) (B_X2_tallyAnswers_21 b1 k3 l2 l3 l4) n l5 M) := by
  induction n with
  | zero =>
    intro l5 M
    exact r_none
  | succ n ih =>
    intro l5 M
    exact t_X2_tallyAnswers_21 C hm hb1 k3 l2 l3 l4 hk3 _ ih l5 M
set_option maxRecDepth 100000 in
set_option maxHeartbeats 4000000 in
theorem t_X2_tallyAnswers_3 {g : Gw} {x : Xw} (C : Cw g x cX2_tallyAnswers RX2 6 none 2) (hm : x.2.2.2.2.2.2.2.2.2.2.2 = (0, 0)) {b1 : Nat} (hb1 : b1 < 8) (l2 : Int32) (l3 : Int32) (k3 : Int32 → Mw → Option (Mw)) (hk3 : ∀ (l4 : Int32) (M : Mw), Sw g x (fun M : Mw => (none, M)) M 0 0 3 [(0, .ref (gA g 17 0 0)), (1, .ref (gA g 0 b1 0)), (2, .int l2), (3, .int l3), (4, .int l4)] [] (k3 l4 M)) (l4 : Int32) (M : Mw) : Sw g x (fun M : Mw => (none, M)) M 0 0 3 [(0, .ref (gA g 17 0 0)), (1, .ref (gA g 0 b1 0)), (2, .int l2), (3, .int l3), (4, .int l4)] [] (B_X2_tallyAnswers_3 b1 l2 l3 k3 l4 M) := by
  unfold B_X2_tallyAnswers_3
  refine r_iload C 4 dX2_tallyAnswers_3 rfl ?_
  refine r_bipush (v := 64) C dX2_tallyAnswers_5 (by decide) ?_
  refine r_icmp_ge (tgt := 51) C dX2_tallyAnswers_7 (by decide) (fun h1 => ?_) (fun h1 => ?_)
  · refine r_aload_n C 0 dX2_tallyAnswers_51 rfl rfl ?_
    refine gf_17_0 C dX2_tallyAnswers_52 u_255 in_17 ?_
    refine r_iconst (v := 0) C dX2_tallyAnswers_55 (by decide) ?_
    refine r_aald (t0 := 5) (ty := .array .int) C dX2_tallyAnswers_56 in_18 (contW_18 g _ _ _ _ _) rfl rfl (fun h2 => ?_)
    refine r_iload_n C 3 dX2_tallyAnswers_57 rfl rfl ?_
    refine r_iconst (v := 1) C dX2_tallyAnswers_58 (by decide) ?_
    refine r_iast C dX2_tallyAnswers_59 (in_19 (inb_lt h2)) (contW_19 g _ _) (fun M3 h4 => ?_)
    refine r_iconst (v := 0) C dX2_tallyAnswers_60 (by decide) ?_
    refine r_istore0 (lv' := [(4, .int 0), (0, .ref (gA g 17 0 0)), (1, .ref (gA g 0 b1 0)), (2, .int l2), (3, .int l3)]) C dX2_tallyAnswers_61 (by decide) rfl ?_
    refine r_lv [1, 2, 3, 0] rfl ?_
    exact tl_X2_tallyAnswers_63 C hm hb1 l2 FU 0 M3
  · refine r_aload_n C 0 dX2_tallyAnswers_10 rfl rfl ?_
    refine gf_17_1 C dX2_tallyAnswers_11 u_256 in_17 ?_
    refine r_iload C 4 dX2_tallyAnswers_14 rfl ?_
    refine r_iconst (v := 0) C dX2_tallyAnswers_16 (by decide) ?_
    refine r_iast C dX2_tallyAnswers_17 in_20 (contW_20 g _ _) (fun M18 h19 => ?_)
    refine r_iconst (v := 0) C dX2_tallyAnswers_18 (by decide) ?_
    refine r_istore0 (lv' := [(5, .int 0), (0, .ref (gA g 17 0 0)), (1, .ref (gA g 0 b1 0)), (2, .int l2), (3, .int l3), (4, .int l4)]) C dX2_tallyAnswers_19 (by decide) rfl ?_
    refine r_lv [1, 2, 3, 4, 5, 0] rfl ?_
    exact tl_X2_tallyAnswers_21 C hm hb1 k3 l2 l3 l4 hk3 FU 0 M18
set_option maxRecDepth 100000 in
set_option maxHeartbeats 4000000 in
theorem tl_X2_tallyAnswers_3 {g : Gw} {x : Xw} (C : Cw g x cX2_tallyAnswers RX2 6 none 2) (hm : x.2.2.2.2.2.2.2.2.2.2.2 = (0, 0)) {b1 : Nat} (hb1 : b1 < 8) (l2 : Int32) (l3 : Int32) (n : Nat) : ∀ (l4 : Int32) (M : Mw), Sw g x (fun M : Mw => (none, M)) M 0 0 3 [(0, .ref (gA g 17 0 0)), (1, .ref (gA g 0 b1 0)), (2, .int l2), (3, .int l3), (4, .int l4)] [] (it (fun _ _ => none) (B_X2_tallyAnswers_3 b1 l2 l3) n l4 M) := by
  induction n with
  | zero =>
    intro l4 M
    exact r_none
  | succ n ih =>
    intro l4 M
    exact t_X2_tallyAnswers_3 C hm hb1 l2 l3 _ ih l4 M
set_option maxRecDepth 100000 in
set_option maxHeartbeats 4000000 in
theorem c_X2_tallyAnswers {g : Gw} {l : Launch} {b1 : Nat} (hb1 : b1 < 8) (p2 : Int32) (p3 : Int32) (M : Mw) : Kw g l yX2_tallyAnswers cX2_tallyAnswers 6 none 2 0 0 [.ref (gA g 17 0 0), .ref (gA g 0 b1 0), .int p2, .int p3] M (fun M : Mw => (none, M)) (F_X2_tallyAnswers b1 p2 p3 M) := by
  refine Kw.of (own := RX2) (lv0 := [(0, .ref (gA g 17 0 0)), (1, .ref (gA g 0 b1 0)), (2, .int p2), (3, .int p3)]) (by decide +kernel) rfl (Nat.le_of_ble_eq_true rfl) rfl (fun x C hl hm => ?_)
  subst hl
  unfold F_X2_tallyAnswers
  refine r_iconst (v := 0) C dX2_tallyAnswers_0 (by decide) ?_
  refine r_istore0 (lv' := [(4, .int 0), (0, .ref (gA g 17 0 0)), (1, .ref (gA g 0 b1 0)), (2, .int p2), (3, .int p3)]) C dX2_tallyAnswers_1 (by decide) rfl ?_
  refine r_lv [1, 2, 3, 4, 0] rfl ?_
  exact tl_X2_tallyAnswers_3 C hm hb1 p2 p3 FU 0 M
def B_X2_countWays_12 (b1 : Nat) (M : Mw) (k12 : Int32 → Int32 → Option (Int32 × Mw)) (l3 : Int32) (l4 : Int32) : Option (Int32 × Mw) :=
  (if 64 ≤ l4 then some (l3, M) else (if inb l4 64 then (bd (l3 + (M.1 20 0 0 l4.toNatClampNeg)) (fun v5 => (bd (l4 + 1) (fun v6 => (k12 v5 v6))))) else none))
def F_X2_countWays (b1 : Nat) (p2 : Int32) (M : Mw) : Option (Int32 × Mw) :=
  ((F_X2_tallyAnswers b1 p2 0 M).bind (fun M1 => (it (fun _ _ => none) (B_X2_countWays_12 b1 M1) FU 0 0)))
set_option maxRecDepth 100000 in
set_option maxHeartbeats 4000000 in
theorem t_X2_countWays_12 {g : Gw} {x : Xw} (C : Cw g x cX2_countWays RX2 5 (some .int) 3) (hm : x.2.2.2.2.2.2.2.2.2.2.2 = (0, 0)) {b1 : Nat} (hb1 : b1 < 8) (M : Mw) (k12 : Int32 → Int32 → Option (Int32 × Mw)) (hk12 : ∀ (l3 : Int32) (l4 : Int32), Sw g x (fun q : Int32 × Mw => (some (.int q.1), q.2)) M 0 0 12 [(0, .ref (gA g 17 0 0)), (3, .int l3), (4, .int l4)] [] (k12 l3 l4)) (l3 : Int32) (l4 : Int32) : Sw g x (fun q : Int32 × Mw => (some (.int q.1), q.2)) M 0 0 12 [(0, .ref (gA g 17 0 0)), (3, .int l3), (4, .int l4)] [] (B_X2_countWays_12 b1 M k12 l3 l4) := by
  unfold B_X2_countWays_12
  refine r_iload C 2 dX2_countWays_12 rfl ?_
  refine r_bipush (v := 64) C dX2_countWays_14 (by decide) ?_
  refine r_icmp_ge (tgt := 35) C dX2_countWays_16 (by decide) (fun h3 => ?_) (fun h3 => ?_)
  · refine r_iload_n C 1 dX2_countWays_35 rfl rfl ?_
    exact r_iret C dX2_countWays_36 rfl rfl (xk0 hm) (xn0 hm)
  · refine r_iload_n C 1 dX2_countWays_19 rfl rfl ?_
    refine r_aload_n C 0 dX2_countWays_20 rfl rfl ?_
    refine gf_17_1 C dX2_countWays_21 u_256 in_17 ?_
    refine r_iload C 2 dX2_countWays_24 rfl ?_
    refine r_iald C dX2_countWays_26 in_20 (contW_20 g _ _ _ _ _) (fun h4 => ?_)
    refine r_iadd C dX2_countWays_27 ?_
    refine r_istore_n (lv' := fun v5 => [(3, .int v5), (0, .ref (gA g 17 0 0)), (4, .int l4)]) C dX2_countWays_28 rfl (by decide) (fun _ => rfl) (fun v5 => ?_)
    refine r_iinc (c := 1) (lv' := fun v6 => [(4, .int v6), (3, .int v5), (0, .ref (gA g 17 0 0))]) C 2 dX2_countWays_29 rfl (by decide) (by decide) (fun _ => rfl) (fun v6 => ?_)
    refine r_goto (tgt := 12) C dX2_countWays_32 (by decide) ?_
    refine r_lv [2, 1, 0] rfl ?_
    exact hk12 v5 v6
set_option maxRecDepth 100000 in
set_option maxHeartbeats 4000000 in
theorem tl_X2_countWays_12 {g : Gw} {x : Xw} (C : Cw g x cX2_countWays RX2 5 (some .int) 3) (hm : x.2.2.2.2.2.2.2.2.2.2.2 = (0, 0)) {b1 : Nat} (hb1 : b1 < 8) (M : Mw) (n : Nat) : ∀ (l3 : Int32) (l4 : Int32), Sw g x (fun q : Int32 × Mw => (some (.int q.1), q.2)) M 0 0 12 [(0, .ref (gA g 17 0 0)), (3, .int l3), (4, .int l4)] [] (it (fun _ _ => none) (B_X2_countWays_12 b1 M) n l3 l4) := by
  induction n with
  | zero =>
    intro l3 l4
    exact r_none
  | succ n ih =>
    intro l3 l4
    exact t_X2_countWays_12 C hm hb1 M _ ih l3 l4
set_option maxRecDepth 100000 in
set_option maxHeartbeats 4000000 in
theorem c_X2_countWays {g : Gw} {l : Launch} {b1 : Nat} (hb1 : b1 < 8) (p2 : Int32) (M : Mw) : Kw g l yX2_countWays cX2_countWays 5 (some .int) 3 0 0 [.ref (gA g 17 0 0), .ref (gA g 0 b1 0), .int p2] M (fun q : Int32 × Mw => (some (.int q.1), q.2)) (F_X2_countWays b1 p2 M) := by
  refine Kw.of (own := RX2) (lv0 := [(0, .ref (gA g 17 0 0)), (1, .ref (gA g 0 b1 0)), (2, .int p2)]) (by decide +kernel) rfl (Nat.le_of_ble_eq_true rfl) rfl (fun x C hl hm => ?_)
  subst hl
  unfold F_X2_countWays
  refine r_aload_n C 0 dX2_countWays_0 rfl rfl ?_
  refine r_aload_n C 1 dX2_countWays_1 rfl rfl ?_
  refine r_iload_n C 2 dX2_countWays_2 rfl rfl ?_
  refine r_iconst (v := 0) C dX2_countWays_3 (by decide) ?_
  refine r_callVU (rest := []) C (c_X2_tallyAnswers hb1 p2 0 M) dX2_countWays_4 u_733 in_17 (contW_17 g _ _ _ _ _) rfl u_734 u_36 mi_X2_tallyAnswers (by decide) rfl rfl (Nat.le_of_ble_eq_true rfl) (xk1 hm (by decide)) (xn1 hm (by decide)) (fun M1 h2 => ?_)
  refine r_iconst (v := 0) C dX2_countWays_7 (by decide) ?_
  refine r_istore_n0 (lv' := [(3, .int 0), (0, .ref (gA g 17 0 0)), (1, .ref (gA g 0 b1 0)), (2, .int p2)]) C dX2_countWays_8 rfl (by decide) rfl ?_
  refine r_iconst (v := 0) C dX2_countWays_9 (by decide) ?_
  refine r_istore0 (lv' := [(4, .int 0), (3, .int 0), (0, .ref (gA g 17 0 0)), (1, .ref (gA g 0 b1 0)), (2, .int p2)]) C dX2_countWays_10 (by decide) rfl ?_
  refine r_lv [2, 1, 0] rfl ?_
  exact tl_X2_countWays_12 C hm hb1 M1 FU 0 0
def F_X9_ways (p1 : Int32) (M : Mw) : Option (Int32 × Mw) :=
  ((F_X0_hasTask 1 p1 M).bind (fun v1 => (if v1 = 0 then some ((-2), M) else ((F_X2_countWays 1 p1 M).bind (fun q4 => some (q4.1, q4.2))))))
set_option maxRecDepth 100000 in
set_option maxHeartbeats 4000000 in
theorem c_X9_ways {g : Gw} {l : Launch} (p1 : Int32) (M : Mw) : Kw g l yX9_ways cX9_ways 2 (some .int) 4 0 0 [.ref (gA g 41 0 0), .int p1] M (fun q : Int32 × Mw => (some (.int q.1), q.2)) (F_X9_ways p1 M) := by
  refine Kw.of (own := RX9) (lv0 := [(0, .ref (gA g 41 0 0)), (1, .int p1)]) (by decide +kernel) rfl (Nat.le_of_ble_eq_true rfl) rfl (fun x C hl hm => ?_)
  subst hl
  unfold F_X9_ways
  refine r_aload_n C 0 dX9_ways_0 rfl rfl ?_
  refine gf_41_1 C dX9_ways_1 u_365 in_41 ?_
  refine r_iload_n C 1 dX9_ways_4 rfl rfl ?_
  refine r_callVRi (rest := []) C (c_X0_hasTask (by decide) p1 M) dX9_ways_5 u_699 (in_0 (by decide)) (contW_0 g _ _ _ _ _) rfl u_510 u_511 mi_X0_hasTask (by decide) rfl rfl (Nat.le_of_ble_eq_true rfl) (xk1 hm (by decide)) (xn1 hm (by decide)) (fun v1 h2 => ?_)
  refine r_if_eq (tgt := 26) C dX9_ways_8 (by decide) (fun h3 => ?_) (fun h3 => ?_)
  · refine r_bipush (v := (-2)) C dX9_ways_26 (by decide) ?_
    exact r_iret C dX9_ways_28 rfl rfl (xk0 hm) (xn0 hm)
  · refine r_aload_n C 0 dX9_ways_11 rfl rfl ?_
    refine gf_41_4 C dX9_ways_12 u_368 in_41 ?_
    refine r_aload_n C 0 dX9_ways_15 rfl rfl ?_
    refine gf_41_1 C dX9_ways_16 u_365 in_41 ?_
    refine r_iload_n C 1 dX9_ways_19 rfl rfl ?_
    refine r_callVWi (rest := []) C (c_X2_countWays (by decide) p1 M) dX9_ways_20 u_729 in_17 (contW_17 g _ _ _ _ _) rfl u_730 u_731 mi_X2_countWays (by decide) rfl rfl (Nat.le_of_ble_eq_true rfl) (xk1 hm (by decide)) (xn1 hm (by decide)) (fun q4 h5 => ?_)
    refine r_goto (tgt := 28) C dX9_ways_23 (by decide) ?_
    exact r_iret C dX9_ways_28 rfl rfl (xk0 hm) (xn0 hm)
