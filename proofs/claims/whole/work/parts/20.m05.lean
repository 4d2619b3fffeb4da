def B_X7_kickWell_22 (b : Nat) (i : Nat) (l1 : Int32) (M : Mw) : Option (Mw) :=
  (bd (uIw M 25 b i 12 ((M.1 25 b i 12) + 1)) (fun M2 => (bd (uIw M2 25 b i 10 ((M2.1 25 b i 10) + 1)) (fun M3 => (bd (uIw M3 25 b i 13 l1) (fun M4 => (bd (uIw M4 25 b i 5 l1) (fun M5 => (if nf (FP.fsub FP.fconst1 (M5.2.1 25 b i 11)) then (if nf (FP.fmul (FP.fsub FP.fconst1 (M5.2.1 25 b i 11)) 1048576000) then (if nf (FP.fadd (M5.2.1 25 b i 11) (FP.fmul (FP.fsub FP.fconst1 (M5.2.1 25 b i 11)) 1048576000)) then (bd (uFw M5 25 b i 11 (FP.fadd (M5.2.1 25 b i 11) (FP.fmul (FP.fsub FP.fconst1 (M5.2.1 25 b i 11)) 1048576000))) (fun M6 => (if 64 = 0 then none else (bd (uIw M6 25 b i 6 (((13 * (M6.1 25 b i 6)) + 7) - ((13 * (M6.1 25 b i 6)) + 7) / 64 * 64)) (fun M8 => (bd (uIw M8 25 b i 2 (-1)) (fun M9 => (bd (uIw M9 25 b i 4 (-1)) (fun M10 => some M10))))))))) else none) else none) else none)))))))))
def F_X7_kickWell (b : Nat) (i : Nat) (p1 : Int32) (p2 : Int32) (p3 : Int32) (M : Mw) : Option (Mw) :=
  (if (M.1 25 b i 5) = (-1) then (B_X7_kickWell_22 b i p1 M) else ((F_X7_gapAt b i p1 M).bind (fun v11 => ((F_X7_addMargin b i (p3 - v11) (p3 - p2) M).bind (fun M13 => (B_X7_kickWell_22 b i p1 M13))))))
set_option maxRecDepth 100000 in
set_option maxHeartbeats 4000000 in
theorem t_X7_kickWell_22 {g : Gw} {x : Xw} (C : Cw g x cX7_kickWell RX7 4 none 2) (hm : x.2.2.2.2.2.2.2.2.2.2.2 = (0, 0)) {b : Nat} (hb : b < 3) {i : Nat} (hi : i < 5) (l1 : Int32) (M : Mw) : Sw g x (fun M : Mw => (none, M)) M 0 0 22 [(0, .ref (gA g 25 b i)), (1, .int l1)] [] (B_X7_kickWell_22 b i l1 M) := by
  unfold B_X7_kickWell_22
  refine r_aload_n C 0 dX7_kickWell_22 rfl rfl ?_
  refine r_dup C rfl dX7_kickWell_23 ?_
  refine gf_25_12 C dX7_kickWell_24 u_318 (in_25 hb hi) ?_
  refine r_iconst (v := 1) C dX7_kickWell_27 (by decide) ?_
  refine r_iadd C dX7_kickWell_28 ?_
  refine pf_25_12 C dX7_kickWell_29 u_318 (in_25 hb hi) (fun M2 => ?_)
  refine r_aload_n C 0 dX7_kickWell_32 rfl rfl ?_
  refine r_dup C rfl dX7_kickWell_33 ?_
  refine gf_25_10 C dX7_kickWell_34 u_313 (in_25 hb hi) ?_
  refine r_iconst (v := 1) C dX7_kickWell_37 (by decide) ?_
  refine r_iadd C dX7_kickWell_38 ?_
  refine pf_25_10 C dX7_kickWell_39 u_313 (in_25 hb hi) (fun M3 => ?_)
  refine r_aload_n C 0 dX7_kickWell_42 rfl rfl ?_
  refine r_iload_n C 1 dX7_kickWell_43 rfl rfl ?_
  refine pf_25_13 C dX7_kickWell_44 u_320 (in_25 hb hi) (fun M4 => ?_)
  refine r_aload_n C 0 dX7_kickWell_47 rfl rfl ?_
  refine r_iload_n C 1 dX7_kickWell_48 rfl rfl ?_
  refine pf_25_5 C dX7_kickWell_49 u_304 (in_25 hb hi) (fun M5 => ?_)
  refine r_aload_n C 0 dX7_kickWell_52 rfl rfl ?_
  refine r_aload_n C 0 dX7_kickWell_53 rfl rfl ?_
  refine gf_25_11 C dX7_kickWell_54 u_315 (in_25 hb hi) ?_
  refine r_fconst1 C dX7_kickWell_57 ?_
  refine r_aload_n C 0 dX7_kickWell_58 rfl rfl ?_
  refine gf_25_11 C dX7_kickWell_59 u_315 (in_25 hb hi) ?_
  refine r_fsub C dX7_kickWell_62 ?_
  refine r_ldcf (v := 1048576000) C u_659 dX7_kickWell_63 ?_
  refine r_fmul C dX7_kickWell_65 ?_
  refine r_fadd C dX7_kickWell_66 ?_
  refine pf_25_11 C dX7_kickWell_67 u_315 (in_25 hb hi) (fun M6 => ?_)
  refine r_aload_n C 0 dX7_kickWell_70 rfl rfl ?_
  refine r_bipush (v := 13) C dX7_kickWell_71 (by decide) ?_
  refine r_aload_n C 0 dX7_kickWell_73 rfl rfl ?_
  refine gf_25_6 C dX7_kickWell_74 u_306 (in_25 hb hi) ?_
  refine r_imul C dX7_kickWell_77 ?_
  refine r_bipush (v := 7) C dX7_kickWell_78 (by decide) ?_
  refine r_iadd C dX7_kickWell_80 ?_
  refine r_bipush (v := 64) C dX7_kickWell_81 (by decide) ?_
  refine r_irem C dX7_kickWell_83 (fun h7 => ?_)
  refine pf_25_6 C dX7_kickWell_84 u_306 (in_25 hb hi) (fun M8 => ?_)
  refine r_aload_n C 0 dX7_kickWell_87 rfl rfl ?_
  refine r_iconst (v := (-1)) C dX7_kickWell_88 (by decide) ?_
  refine pf_25_2 C dX7_kickWell_89 u_297 (in_25 hb hi) (fun M9 => ?_)
  refine r_aload_n C 0 dX7_kickWell_92 rfl rfl ?_
  refine r_iconst (v := (-1)) C dX7_kickWell_93 (by decide) ?_
  refine pf_25_4 C dX7_kickWell_94 u_302 (in_25 hb hi) (fun M10 => ?_)
  exact r_vret C dX7_kickWell_97 rfl rfl (xk0 hm) (xn0 hm)
set_option maxRecDepth 100000 in
set_option maxHeartbeats 4000000 in
theorem c_X7_kickWell {g : Gw} {l : Launch} {b : Nat} (hb : b < 3) {i : Nat} (hi : i < 5) (p1 : Int32) (p2 : Int32) (p3 : Int32) (M : Mw) : Kw g l yX7_kickWell cX7_kickWell 4 none 2 0 0 [.ref (gA g 25 b i), .int p1, .int p2, .int p3] M (fun M : Mw => (none, M)) (F_X7_kickWell b i p1 p2 p3 M) := by
  refine Kw.of (own := RX7) (lv0 := [(0, .ref (gA g 25 b i)), (1, .int p1), (2, .int p2), (3, .int p3)]) (by decide +kernel) rfl (Nat.le_of_ble_eq_true rfl) rfl (fun x C hl hm => ?_)
  subst hl
  unfold F_X7_kickWell
  refine r_aload_n C 0 dX7_kickWell_0 rfl rfl ?_
  refine gf_25_5 C dX7_kickWell_1 u_304 (in_25 hb hi) ?_
  refine r_iconst (v := (-1)) C dX7_kickWell_4 (by decide) ?_
  refine r_icmp_eq (tgt := 22) C dX7_kickWell_5 (by decide) (fun h1 => ?_) (fun h1 => ?_)
  · refine r_lv [0, 1] rfl ?_
    exact t_X7_kickWell_22 C hm hb hi p1 M
  · refine r_aload_n C 0 dX7_kickWell_8 rfl rfl ?_
    refine r_iload_n C 3 dX7_kickWell_9 rfl rfl ?_
    refine r_aload_n C 0 dX7_kickWell_10 rfl rfl ?_
    refine r_iload_n C 1 dX7_kickWell_11 rfl rfl ?_
    refine r_callVRi (rest := [.int p3, .ref (gA g 25 b i)]) C (c_X7_gapAt hb hi p1 M) dX7_kickWell_12 u_655 (in_25 hb hi) (contW_25 g _ _ _ _ _) rfl u_620 u_621 mi_X7_gapAt (by decide) rfl rfl (Nat.le_of_ble_eq_true rfl) (xk1 hm (by decide)) (xn1 hm (by decide)) (fun v11 h12 => ?_)
    refine r_isub C dX7_kickWell_15 ?_
    refine r_iload_n C 3 dX7_kickWell_16 rfl rfl ?_
    refine r_iload_n C 2 dX7_kickWell_17 rfl rfl ?_
    refine r_isub C dX7_kickWell_18 ?_
    refine r_callVU (rest := []) C (c_X7_addMargin hb hi (p3 - v11) (p3 - p2) M) dX7_kickWell_19 u_656 (in_25 hb hi) (contW_25 g _ _ _ _ _) rfl u_657 u_29 mi_X7_addMargin (by decide) rfl rfl (Nat.le_of_ble_eq_true rfl) (xk1 hm (by decide)) (xn1 hm (by decide)) (fun M13 h14 => ?_)
    refine r_lv [0, 1] rfl ?_
    exact t_X7_kickWell_22 C hm hb hi p1 M13
def B_X5_work_98 (b : Nat) (l1 : Int32) (l2i : Nat) (s0 : Int32) (s1 : Int32) (M : Mw) : Option (Mw) :=
  ((F_X5_kindOfKick b s1 s0 M).bind (fun v15 => (if v15 = 0 then ((F_X7_gapAt b l2i (M.1 23 b 0 6) M).bind (fun v18 => ((F_X5_noteKick b l1 v18 M).bind (fun M20 => (if inb l1 5 then (if inb l1 5 then ((F_X7_kickWell b l2i (M20.1 23 b 0 6) (M20.1 4 (b + 5) l1.toNatClampNeg 2) (M20.1 4 (b + 5) l1.toNatClampNeg 3) M20).bind (fun M24 => some M24)) else none) else none))))) else ((F_X5_failTask b l1 v15 M).bind (fun M26 => some M26)))))
def B_X5_work_86 (b : Nat) (l1 : Int32) (l2i : Nat) (l3 : Int32) (M : Mw) : Option (Mw) :=
  (if l3 = (-1) then (B_X5_work_98 b l1 l2i 0 l1 M) else (B_X5_work_98 b l1 l2i 1 l1 M))
def F_X5_work (b : Nat) (p1 : Int32) (M : Mw) : Option (Mw) :=
  ((F_X0_hasTask (b + 5) p1 M).bind (fun v1 => (if v1 = 0 then some M else (if inb p1 5 then (if (M.1 25 b p1.toNatClampNeg 4) = 0 then some M else (if inb p1 5 then (bd (uIw M 25 b p1.toNatClampNeg 3 ((M.1 25 b p1.toNatClampNeg 3) - 1)) (fun M7 => (if (M7.1 25 b p1.toNatClampNeg 3) ≤ 0 then ((F_X7_job b p1.toNatClampNeg M7).bind (fun v9 => ((F_X2_follower (b + 5) p1 (M7.1 25 b p1.toNatClampNeg 2) v9 M7).bind (fun v11 => (if v11 = (-1) then (B_X5_work_86 b p1 p1.toNatClampNeg v11 M7) else (if (M7.1 25 b p1.toNatClampNeg 4) = 2 then (B_X5_work_86 b p1 p1.toNatClampNeg v11 M7) else ((F_X5_enterNode b p1 v11 M7).bind (fun M29 => some M29)))))))) else some M7))) else none)) else none))))
set_option maxRecDepth 100000 in
set_option maxHeartbeats 4000000 in
theorem t_X5_work_98 {g : Gw} {x : Xw} (C : Cw g x cX5_work RX5 5 none 4) (hm : x.2.2.2.2.2.2.2.2.2.2.2 = (0, 0)) {b : Nat} (hb : b < 3) (l1 : Int32) (l2i : Nat) (s0 : Int32) (s1 : Int32) (hl2i : l2i < 5) (M : Mw) : Sw g x (fun M : Mw => (none, M)) M 0 0 98 [(0, .ref (gA g 23 b 0)), (1, .int l1), (2, .ref (gA g 25 b l2i))] [.int s0, .int s1, .ref (gA g 23 b 0)] (B_X5_work_98 b l1 l2i s0 s1 M) := by
  unfold B_X5_work_98
  refine r_callVRi (rest := []) C (c_X5_kindOfKick hb s1 s0 M) dX5_work_98 u_616 (in_23 hb) (contW_23 g _ _ _ _ _) rfl u_617 u_24 mi_X5_kindOfKick (by decide) rfl rfl (Nat.le_of_ble_eq_true rfl) (xk1 hm (by decide)) (xn1 hm (by decide)) (fun v15 h16 => ?_)
  refine r_istore0 (lv' := [(4, .int v15), (0, .ref (gA g 23 b 0)), (1, .int l1), (2, .ref (gA g 25 b l2i))]) C dX5_work_101 (by decide) rfl ?_
  refine r_iload C 0 dX5_work_103 rfl ?_
  refine r_if_eq (tgt := 116) C dX5_work_105 (by decide) (fun h17 => ?_) (fun h17 => ?_)
  · refine r_aload_n C 1 dX5_work_116 rfl rfl ?_
    refine r_iload_n C 2 dX5_work_117 rfl rfl ?_
    refine r_aload_n C 3 dX5_work_118 rfl rfl ?_
    refine r_aload_n C 1 dX5_work_119 rfl rfl ?_
    refine gf_23_6 C dX5_work_120 u_341 (in_23 hb) ?_
    refine r_callVRi (rest := [.int l1, .ref (gA g 23 b 0)]) C (c_X7_gapAt hb hl2i (M.1 23 b 0 6) M) dX5_work_123 u_619 (in_25 hb hl2i) (contW_25 g _ _ _ _ _) rfl u_620 u_621 mi_X7_gapAt (by decide) rfl rfl (Nat.le_of_ble_eq_true rfl) (xk1 hm (by decide)) (xn1 hm (by decide)) (fun v18 h19 => ?_)
    refine r_callVU (rest := []) C (c_X5_noteKick hb l1 v18 M) dX5_work_126 u_648 (in_23 hb) (contW_23 g _ _ _ _ _) rfl u_649 u_28 mi_X5_noteKick (by decide) rfl rfl (Nat.le_of_ble_eq_true rfl) (xk1 hm (by decide)) (xn1 hm (by decide)) (fun M20 h21 => ?_)
    refine r_aload_n C 3 dX5_work_129 rfl rfl ?_
    refine r_aload_n C 1 dX5_work_130 rfl rfl ?_
    refine gf_23_6 C dX5_work_131 u_341 (in_23 hb) ?_
    refine r_aload_n C 1 dX5_work_134 rfl rfl ?_
    refine gf_23_0 C dX5_work_135 u_328 (in_23 hb) ?_
    refine gf_0_10 C dX5_work_138 u_223 (in_0 (lt85 hb)) ?_
    refine r_iload_n C 2 dX5_work_141 rfl rfl ?_
    refine r_aald (t0 := 5) (ty := .array .int) C dX5_work_142 (in_3 (lt85 hb)) (contW_3 g _ _ _ _ _) rfl rfl (fun h22 => ?_)
    refine r_iconst (v := 2) C dX5_work_143 (by decide) ?_
    refine r_ialdc C dX5_work_144 (in_4 (lt85 hb) (inb_lt h22)) (contW_4 g _ _ _ _ _) (by decide) (j := 2) (by decide) ?_
    refine r_aload_n C 1 dX5_work_145 rfl rfl ?_
    refine gf_23_0 C dX5_work_146 u_328 (in_23 hb) ?_
    refine gf_0_10 C dX5_work_149 u_223 (in_0 (lt85 hb)) ?_
    refine r_iload_n C 2 dX5_work_152 rfl rfl ?_
    refine r_aald (t0 := 5) (ty := .array .int) C dX5_work_153 (in_3 (lt85 hb)) (contW_3 g _ _ _ _ _) rfl rfl (fun h23 => ?_)
    refine r_iconst (v := 3) C dX5_work_154 (by decide) ?_
    refine r_ialdc C dX5_work_155 (in_4 (lt85 hb) (inb_lt h23)) (contW_4 g _ _ _ _ _) (by decide) (j := 3) (by decide) ?_
    refine r_callVU (rest := []) C (c_X7_kickWell hb hl2i (M20.1 23 b 0 6) (M20.1 4 (b + 5) l1.toNatClampNeg 2) (M20.1 4 (b + 5) l1.toNatClampNeg 3) M20) dX5_work_156 u_651 (in_25 hb hl2i) (contW_25 g _ _ _ _ _) rfl u_652 u_653 mi_X7_kickWell (by decide) rfl rfl (Nat.le_of_ble_eq_true rfl) (xk1 hm (by decide)) (xn1 hm (by decide)) (fun M24 h25 => ?_)
    exact r_vret C dX5_work_159 rfl rfl (xk0 hm) (xn0 hm)
  · refine r_aload_n C 1 dX5_work_108 rfl rfl ?_
    refine r_iload_n C 2 dX5_work_109 rfl rfl ?_
    refine r_iload C 0 dX5_work_110 rfl ?_
    refine r_callVU (rest := []) C (c_X5_failTask hb l1 v15 M) dX5_work_112 u_623 (in_23 hb) (contW_23 g _ _ _ _ _) rfl u_624 u_25 mi_X5_failTask (by decide) rfl rfl (Nat.le_of_ble_eq_true rfl) (xk1 hm (by decide)) (xn1 hm (by decide)) (fun M26 h27 => ?_)
    exact r_vret C dX5_work_115 rfl rfl (xk0 hm) (xn0 hm)
set_option maxRecDepth 100000 in
set_option maxHeartbeats 4000000 in
theorem t_X5_work_86 {g : Gw} {x : Xw} (C : Cw g x cX5_work RX5 5 none 4) (hm : x.2.2.2.2.2.2.2.2.2.2.2 = (0, 0)) {b : Nat} (hb : b < 3) (l1 : Int32) (l2i : Nat) (l3 : Int32) (hl2i : l2i < 5) (M : Mw) : Sw g x (fun M : Mw => (none, M)) M 0 0 86 [(0, .ref (gA g 23 b 0)), (1, .int l1), (2, .ref (gA g 25 b l2i)), (3, .int l3)] [] (B_X5_work_86 b l1 l2i l3 M) := by
  unfold B_X5_work_86
  refine r_aload_n C 0 dX5_work_86 rfl rfl ?_
  refine r_iload_n C 1 dX5_work_87 rfl rfl ?_
  refine r_iload_n C 3 dX5_work_88 rfl rfl ?_
  refine r_iconst (v := (-1)) C dX5_work_89 (by decide) ?_
  refine r_icmp_eq (tgt := 97) C dX5_work_90 (by decide) (fun h14 => ?_) (fun h14 => ?_)
  · refine r_iconst (v := 0) C dX5_work_97 (by decide) ?_
    refine r_lv [0, 1, 2] rfl ?_
    exact t_X5_work_98 C hm hb l1 l2i 0 l1 hl2i M
  · refine r_iconst (v := 1) C dX5_work_93 (by decide) ?_
    refine r_goto (tgt := 98) C dX5_work_94 (by decide) ?_
    refine r_lv [0, 1, 2] rfl ?_
    exact t_X5_work_98 C hm hb l1 l2i 1 l1 hl2i M
set_option maxRecDepth 100000 in
set_option maxHeartbeats 4000000 in
theorem c_X5_work {g : Gw} {l : Launch} {b : Nat} (hb : b < 3) (p1 : Int32) (M : Mw) : Kw g l yX5_work cX5_work 5 none 4 0 0 [.ref (gA g 23 b 0), .int p1] M (fun M : Mw => (none, M)) (F_X5_work b p1 M) := by
  refine Kw.of (own := RX5) (lv0 := [(0, .ref (gA g 23 b 0)), (1, .int p1)]) (by decide +kernel) rfl (Nat.le_of_ble_eq_true rfl) rfl (fun x C hl hm => ?_)
  subst hl
  unfold F_X5_work
  refine r_aload_n C 0 dX5_work_0 rfl rfl ?_
  refine gf_23_0 C dX5_work_1 u_328 (in_23 hb) ?_
  refine r_iload_n C 1 dX5_work_4 rfl rfl ?_
  refine r_callVRi (rest := []) C (c_X0_hasTask (lt85 hb) p1 M) dX5_work_5 u_605 (in_0 (lt85 hb)) (contW_0 g _ _ _ _ _) rfl u_510 u_511 mi_X0_hasTask (by decide) rfl rfl (Nat.le_of_ble_eq_true rfl) (xk1 hm (by decide)) (xn1 hm (by decide)) (fun v1 h2 => ?_)
  refine r_if_eq (tgt := 23) C dX5_work_8 (by decide) (fun h3 => ?_) (fun h3 => ?_)
  · exact r_vret C dX5_work_23 rfl rfl (xk0 hm) (xn0 hm)
  · refine r_aload_n C 0 dX5_work_11 rfl rfl ?_
    refine gf_23_1 C dX5_work_12 u_331 (in_23 hb) ?_
    refine r_iload_n C 1 dX5_work_15 rfl rfl ?_
    refine r_aald (t0 := 7) (ty := .object "WatchStack$TaskState") C dX5_work_16 (in_24 hb) (contW_24 g _ _ _ _ _) rfl rfl (fun h4 => ?_)
    refine gf_25_4 C dX5_work_17 u_303 (in_25 hb (inb_lt h4)) ?_
    refine r_if_ne (tgt := 24) C dX5_work_20 (by decide) (fun h5 => ?_) (fun h5 => ?_)
    · exact r_vret C dX5_work_23 rfl rfl (xk0 hm) (xn0 hm)
    · refine r_aload_n C 0 dX5_work_24 rfl rfl ?_
      refine gf_23_1 C dX5_work_25 u_331 (in_23 hb) ?_
      refine r_iload_n C 1 dX5_work_28 rfl rfl ?_
      refine r_aald (t0 := 7) (ty := .object "WatchStack$TaskState") C dX5_work_29 (in_24 hb) (contW_24 g _ _ _ _ _) rfl rfl (fun h6 => ?_)
      refine r_astore_n (lv' := [(2, .ref (gA g 25 b p1.toNatClampNeg)), (0, .ref (gA g 23 b 0)), (1, .int p1)]) C dX5_work_30 rfl (by decide) rfl ?_
      refine r_aload_n C 0 dX5_work_31 rfl rfl ?_
      refine r_dup C rfl dX5_work_32 ?_
      refine gf_25_3 C dX5_work_33 u_301 (in_25 hb (inb_lt h6)) ?_
      refine r_iconst (v := 1) C dX5_work_36 (by decide) ?_
      refine r_isub C dX5_work_37 ?_
      refine pf_25_3 C dX5_work_38 u_301 (in_25 hb (inb_lt h6)) (fun M7 => ?_)
      refine r_aload_n C 0 dX5_work_41 rfl rfl ?_
      refine gf_25_3 C dX5_work_42 u_301 (in_25 hb (inb_lt h6)) ?_
      refine r_if_le (tgt := 49) C dX5_work_45 (by decide) (fun h8 => ?_) (fun h8 => ?_)
      · refine r_aload_n C 1 dX5_work_49 rfl rfl ?_
        refine gf_23_0 C dX5_work_50 u_328 (in_23 hb) ?_
        refine r_iload_n C 2 dX5_work_53 rfl rfl ?_
        refine r_aload_n C 0 dX5_work_54 rfl rfl ?_
        refine gf_25_2 C dX5_work_55 u_298 (in_25 hb (inb_lt h6)) ?_
        refine r_aload_n C 0 dX5_work_58 rfl rfl ?_
        refine r_callVRi (rest := [.int (M7.1 25 b p1.toNatClampNeg 2), .int p1, .ref (gA g 0 (b + 5) 0)]) C (c_X7_job hb (inb_lt h6) M7) dX5_work_59 u_587 (in_25 hb (inb_lt h6)) (contW_25 g _ _ _ _ _) rfl u_588 u_589 mi_X7_job (by decide) rfl rfl (Nat.le_of_ble_eq_true rfl) (xk1 hm (by decide)) (xn1 hm (by decide)) (fun v9 h10 => ?_)
        refine r_callSRi (rest := []) C (c_X2_follower (lt85 hb) p1 (M7.1 25 b p1.toNatClampNeg 2) v9 M7) dX5_work_62 u_606 u_607 mi_X2_follower (by decide) rfl rfl (Nat.le_of_ble_eq_true rfl) (xk1 hm (by decide)) (xn1 hm (by decide)) (fun v11 h12 => ?_)
        refine r_istore_n0 (lv' := [(3, .int v11), (2, .ref (gA g 25 b p1.toNatClampNeg)), (0, .ref (gA g 23 b 0)), (1, .int p1)]) C dX5_work_65 rfl (by decide) rfl ?_
        refine r_iload_n C 0 dX5_work_66 rfl rfl ?_
        refine r_iconst (v := (-1)) C dX5_work_67 (by decide) ?_
        refine r_icmp_eq (tgt := 86) C dX5_work_68 (by decide) (fun h13 => ?_) (fun h13 => ?_)
        · refine r_lv [2, 3, 1, 0] rfl ?_
          exact t_X5_work_86 C hm hb p1 p1.toNatClampNeg v11 (inb_lt h6) M7
        · refine r_aload_n C 1 dX5_work_71 rfl rfl ?_
          refine gf_25_4 C dX5_work_72 u_303 (in_25 hb (inb_lt h6)) ?_
          refine r_iconst (v := 2) C dX5_work_75 (by decide) ?_
          refine r_icmp_eq (tgt := 86) C dX5_work_76 (by decide) (fun h28 => ?_) (fun h28 => ?_)
          · refine r_lv [2, 3, 1, 0] rfl ?_
            exact t_X5_work_86 C hm hb p1 p1.toNatClampNeg v11 (inb_lt h6) M7
          · refine r_aload_n C 2 dX5_work_79 rfl rfl ?_
            refine r_iload_n C 3 dX5_work_80 rfl rfl ?_
            refine r_iload_n C 0 dX5_work_81 rfl rfl ?_
            refine r_callVU (rest := []) C (c_X5_enterNode hb p1 v11 M7) dX5_work_82 u_584 (in_23 hb) (contW_23 g _ _ _ _ _) rfl u_585 u_21 mi_X5_enterNode (by decide) rfl rfl (Nat.le_of_ble_eq_true rfl) (xk1 hm (by decide)) (xn1 hm (by decide)) (fun M29 h30 => ?_)
            exact r_vret C dX5_work_85 rfl rfl (xk0 hm) (xn0 hm)
      · exact r_vret C dX5_work_48 rfl rfl (xk0 hm) (xn0 hm)
def B_X5_askLate_2 (b : Nat) (k2 : Int32 → Mw → Option (Mw)) (l1 : Int32) (M : Mw) : Option (Mw) :=
  (if (M.1 0 (b + 5) 0 5) ≤ l1 then some M else (if (M.1 23 b 0 8) = 0 then (if inb l1 5 then (if (M.1 23 b 0 6) < (M.1 25 b l1.toNatClampNeg 0) then (bd (l1 + 1) (fun v5 => (k2 v5 M))) else ((F_X7_gapAt b l1.toNatClampNeg (M.1 23 b 0 6) M).bind (fun v6 => (if inb l1 5 then (if v6 < (M.1 4 (b + 5) l1.toNatClampNeg 3) then (bd (l1 + 1) (fun v10 => (k2 v10 M))) else ((F_X5_failTask b l1 2 M).bind (fun M11 => (bd (l1 + 1) (fun v13 => (k2 v13 M11)))))) else none)))) else none) else some M))
def F_X5_askLate (b : Nat) (M : Mw) : Option (Mw) :=
  (it (fun _ _ => none) (B_X5_askLate_2 b) FU 0 M)
set_option maxRecDepth 100000 in
set_option maxHeartbeats 4000000 in
theorem t_X5_askLate_2 {g : Gw} {x : Xw} (C : Cw g x cX5_askLate RX5 3 none 4) (hm : x.2.2.2.2.2.2.2.2.2.2.2 = (0, 0)) {b : Nat} (hb : b < 3) (k2 : Int32 → Mw → Option (Mw)) (hk2 : ∀ (l1 : Int32) (M : Mw), Sw g x (fun M : Mw => (none, M)) M 0 0 2 [(0, .ref (gA g 23 b 0)), (1, .int l1)] [] (k2 l1 M)) (l1 : Int32) (M : Mw) : Sw g x (fun M : Mw => (none, M)) M 0 0 2 [(0, .ref (gA g 23 b 0)), (1, .int l1)] [] (B_X5_askLate_2 b k2 l1 M) := by
  unfold B_X5_askLate_2
  refine r_iload_n C 1 dX5_askLate_2 rfl rfl ?_
  refine r_aload_n C 0 dX5_askLate_3 rfl rfl ?_
  refine gf_23_0 C dX5_askLate_4 u_328 (in_23 hb) ?_
  refine gf_0_5 C dX5_askLate_7 u_202 (in_0 (lt85 hb)) ?_
  refine r_icmp_ge (tgt := 72) C dX5_askLate_10 (by decide) (fun h1 => ?_) (fun h1 => ?_)
  · exact r_vret C dX5_askLate_72 rfl rfl (xk0 hm) (xn0 hm)
  · refine r_aload_n C 0 dX5_askLate_13 rfl rfl ?_
    refine gf_23_8 C dX5_askLate_14 u_343 (in_23 hb) ?_
    refine r_if_ne (tgt := 72) C dX5_askLate_17 (by decide) (fun h2 => ?_) (fun h2 => ?_)
    · refine r_aload_n C 0 dX5_askLate_20 rfl rfl ?_
      refine gf_23_1 C dX5_askLate_21 u_331 (in_23 hb) ?_
      refine r_iload_n C 1 dX5_askLate_24 rfl rfl ?_
      refine r_aald (t0 := 7) (ty := .object "WatchStack$TaskState") C dX5_askLate_25 (in_24 hb) (contW_24 g _ _ _ _ _) rfl rfl (fun h3 => ?_)
      refine r_astore_n (lv' := [(2, .ref (gA g 25 b l1.toNatClampNeg)), (0, .ref (gA g 23 b 0)), (1, .int l1)]) C dX5_askLate_26 rfl (by decide) rfl ?_
      refine r_aload_n C 1 dX5_askLate_27 rfl rfl ?_
      refine gf_23_6 C dX5_askLate_28 u_341 (in_23 hb) ?_
      refine r_aload_n C 0 dX5_askLate_31 rfl rfl ?_
      refine gf_25_0 C dX5_askLate_32 u_292 (in_25 hb (inb_lt h3)) ?_
      refine r_icmp_lt (tgt := 66) C dX5_askLate_35 (by decide) (fun h4 => ?_) (fun h4 => ?_)
      · refine r_iinc (c := 1) (lv' := fun v5 => [(1, .int v5), (2, .ref (gA g 25 b l1.toNatClampNeg)), (0, .ref (gA g 23 b 0))]) C 2 dX5_askLate_66 rfl (by decide) (by decide) (fun _ => rfl) (fun v5 => ?_)
        refine r_goto (tgt := 2) C dX5_askLate_69 (by decide) ?_
        refine r_lv [2, 0] rfl ?_
        exact hk2 v5 M
      · refine r_aload_n C 0 dX5_askLate_38 rfl rfl ?_
        refine r_aload_n C 1 dX5_askLate_39 rfl rfl ?_
        refine gf_23_6 C dX5_askLate_40 u_341 (in_23 hb) ?_
        refine r_callVRi (rest := []) C (c_X7_gapAt hb (inb_lt h3) (M.1 23 b 0 6) M) dX5_askLate_43 u_619 (in_25 hb (inb_lt h3)) (contW_25 g _ _ _ _ _) rfl u_620 u_621 mi_X7_gapAt (by decide) rfl rfl (Nat.le_of_ble_eq_true rfl) (xk1 hm (by decide)) (xn1 hm (by decide)) (fun v6 h7 => ?_)
        refine r_aload_n C 1 dX5_askLate_46 rfl rfl ?_
        refine gf_23_0 C dX5_askLate_47 u_328 (in_23 hb) ?_
        refine gf_0_10 C dX5_askLate_50 u_223 (in_0 (lt85 hb)) ?_
        refine r_iload_n C 2 dX5_askLate_53 rfl rfl ?_
        refine r_aald (t0 := 5) (ty := .array .int) C dX5_askLate_54 (in_3 (lt85 hb)) (contW_3 g _ _ _ _ _) rfl rfl (fun h8 => ?_)
        refine r_iconst (v := 3) C dX5_askLate_55 (by decide) ?_
        refine r_ialdc C dX5_askLate_56 (in_4 (lt85 hb) (inb_lt h8)) (contW_4 g _ _ _ _ _) (by decide) (j := 3) (by decide) ?_
        refine r_icmp_lt (tgt := 66) C dX5_askLate_57 (by decide) (fun h9 => ?_) (fun h9 => ?_)
        · refine r_iinc (c := 1) (lv' := fun v10 => [(1, .int v10), (2, .ref (gA g 25 b l1.toNatClampNeg)), (0, .ref (gA g 23 b 0))]) C 2 dX5_askLate_66 rfl (by decide) (by decide) (fun _ => rfl) (fun v10 => ?_)
          refine r_goto (tgt := 2) C dX5_askLate_69 (by decide) ?_
          refine r_lv [2, 0] rfl ?_
          exact hk2 v10 M
        · refine r_aload_n C 1 dX5_askLate_60 rfl rfl ?_
          refine r_iload_n C 2 dX5_askLate_61 rfl rfl ?_
          refine r_iconst (v := 2) C dX5_askLate_62 (by decide) ?_
          refine r_callVU (rest := []) C (c_X5_failTask hb l1 2 M) dX5_askLate_63 u_623 (in_23 hb) (contW_23 g _ _ _ _ _) rfl u_624 u_25 mi_X5_failTask (by decide) rfl rfl (Nat.le_of_ble_eq_true rfl) (xk1 hm (by decide)) (xn1 hm (by decide)) (fun M11 h12 => ?_)
          refine r_iinc (c := 1) (lv' := fun v13 => [(1, .int v13), (2, .ref (gA g 25 b l1.toNatClampNeg)), (0, .ref (gA g 23 b 0))]) C 2 dX5_askLate_66 rfl (by decide) (by decide) (fun _ => rfl) (fun v13 => ?_)
          refine r_goto (tgt := 2) C dX5_askLate_69 (by decide) ?_
          refine r_lv [2, 0] rfl ?_
          exact hk2 v13 M11
    · exact r_vret C dX5_askLate_72 rfl rfl (xk0 hm) (xn0 hm)
set_option maxRecDepth 100000 in
set_option maxHeartbeats 4000000 in
theorem tl_X5_askLate_2 {g : Gw} {x : Xw} (C : Cw g x cX5_askLate RX5 3 none 4) (hm : x.2.2.2.2.2.2.2.2.2.2.2 = (0, 0)) {b : Nat} (hb : b < 3) (n : Nat) : ∀ (l1 : Int32) (M : Mw), Sw g x (fun M : Mw => (none, M)) M 0 0 2 [(0, .ref (gA g 23 b 0)), (1, .int l1)] [] (it (fun _ _ => none) (B_X5_askLate_2 b) n l1 M) := by
  induction n with
  | zero =>
    intro l1 M
    exact r_none
  | succ n ih =>
    intro l1 M
    exact t_X5_askLate_2 C hm hb _ ih l1 M
set_option maxRecDepth 100000 in
set_option maxHeartbeats 4000000 in
theorem c_X5_askLate {g : Gw} {l : Launch} {b : Nat} (hb : b < 3) (M : Mw) : Kw g l yX5_askLate cX5_askLate 3 none 4 0 0 [.ref (gA g 23 b 0)] M (fun M : Mw => (none, M)) (F_X5_askLate b M) := by
  refine Kw.of (own := RX5) (lv0 := [(0, .ref (gA g 23 b 0))]) (by decide +kernel) rfl (Nat.le_of_ble_eq_true rfl) rfl (fun x C hl hm => ?_)
  subst hl
  unfold F_X5_askLate
  refine r_iconst (v := 0) C dX5_askLate_0 (by decide) ?_
  refine r_istore_n0 (lv' := [(1, .int 0), (0, .ref (gA g 23 b 0))]) C dX5_askLate_1 rfl (by decide) rfl ?_
  refine r_lv [1, 0] rfl ?_
  exact tl_X5_askLate_2 C hm hb FU 0 M
def B_X5_isAsleep_2 (b : Nat) (l1 : Int32) (M : Mw) (k2 : Int32 → Option (Int32)) (l2 : Int32) : Option (Int32) :=
  (if ((M.1 0 (b + 5) 0 6) + (M.1 0 (b + 5) 0 7)) ≤ l2 then some 0 else (if inb l2 19 then (if (M.1 12 (b + 5) l2.toNatClampNeg 0) = 5 then (if (M.1 12 (b + 5) l2.toNatClampNeg 1) = l1 then (if (M.1 23 b 0 6) < (M.1 12 (b + 5) l2.toNatClampNeg 2) then (bd (l2 + 1) (fun v8 => (k2 v8))) else (if inb l1 3 then (if (M.1 12 (b + 5) l2.toNatClampNeg 2) ≤ (M.1 33 b 0 l1.toNatClampNeg) then (bd (l2 + 1) (fun v11 => (k2 v11))) else some 1) else none)) else (bd (l2 + 1) (fun v6 => (k2 v6)))) else (bd (l2 + 1) (fun v4 => (k2 v4)))) else none))
def F_X5_isAsleep (b : Nat) (p1 : Int32) (M : Mw) : Option (Int32) :=
  (it (fun _ => none) (B_X5_isAsleep_2 b p1 M) FU 0)
set_option maxRecDepth 100000 in
set_option maxHeartbeats 4000000 in
theorem t_X5_isAsleep_2 {g : Gw} {x : Xw} (C : Cw g x cX5_isAsleep RX5 4 (some .boolean) 1) (hm : x.2.2.2.2.2.2.2.2.2.2.2 = (0, 0)) {b : Nat} (hb : b < 3) (M : Mw) (l1 : Int32) (k2 : Int32 → Option (Int32)) (hk2 : ∀ (l2 : Int32), Sw g x (fun v : Int32 => (some (.int v), M)) M 0 0 2 [(0, .ref (gA g 23 b 0)), (1, .int l1), (2, .int l2)] [] (k2 l2)) (l2 : Int32) : Sw g x (fun v : Int32 => (some (.int v), M)) M 0 0 2 [(0, .ref (gA g 23 b 0)), (1, .int l1), (2, .int l2)] [] (B_X5_isAsleep_2 b l1 M k2 l2) := by
  unfold B_X5_isAsleep_2
  refine r_iload_n C 2 dX5_isAsleep_2 rfl rfl ?_
  refine r_aload_n C 0 dX5_isAsleep_3 rfl rfl ?_
  refine gf_23_0 C dX5_isAsleep_4 u_328 (in_23 hb) ?_
  refine gf_0_6 C dX5_isAsleep_7 u_208 (in_0 (lt85 hb)) ?_
  refine r_aload_n C 0 dX5_isAsleep_10 rfl rfl ?_
  refine gf_23_0 C dX5_isAsleep_11 u_328 (in_23 hb) ?_
  refine gf_0_7 C dX5_isAsleep_14 u_212 (in_0 (lt85 hb)) ?_
  refine r_iadd C dX5_isAsleep_17 ?_
  refine r_icmp_ge (tgt := 75) C dX5_isAsleep_18 (by decide) (fun h1 => ?_) (fun h1 => ?_)
  · refine r_iconst (v := 0) C dX5_isAsleep_75 (by decide) ?_
    exact r_zretc C dX5_isAsleep_76 rfl bz0 rfl (xk0 hm) (xn0 hm)
  · refine r_aload_n C 0 dX5_isAsleep_21 rfl rfl ?_
    refine gf_23_0 C dX5_isAsleep_22 u_328 (in_23 hb) ?_
    refine gf_0_14 C dX5_isAsleep_25 u_238 (in_0 (lt85 hb)) ?_
    refine r_iload_n C 2 dX5_isAsleep_28 rfl rfl ?_
    refine r_aald (t0 := 5) (ty := .array .int) C dX5_isAsleep_29 (in_11 (lt85 hb)) (contW_11 g _ _ _ _ _) rfl rfl (fun h2 => ?_)
    refine r_astore_n (lv' := [(3, .ref (gA g 12 (b + 5) l2.toNatClampNeg)), (0, .ref (gA g 23 b 0)), (1, .int l1), (2, .int l2)]) C dX5_isAsleep_30 rfl (by decide) rfl ?_
    refine r_aload_n C 0 dX5_isAsleep_31 rfl rfl ?_
    refine r_iconst (v := 0) C dX5_isAsleep_32 (by decide) ?_
    refine r_ialdc C dX5_isAsleep_33 (in_12 (lt85 hb) (inb_lt h2)) (contW_12 g _ _ _ _ _) (by decide) (j := 0) (by decide) ?_
    refine r_iconst (v := 5) C dX5_isAsleep_34 (by decide) ?_
    refine r_icmp_ne (tgt := 69) C dX5_isAsleep_35 (by decide) (fun h3 => ?_) (fun h3 => ?_)
    · refine r_aload_n C 0 dX5_isAsleep_38 rfl rfl ?_
      refine r_iconst (v := 1) C dX5_isAsleep_39 (by decide) ?_
      refine r_ialdc C dX5_isAsleep_40 (in_12 (lt85 hb) (inb_lt h2)) (contW_12 g _ _ _ _ _) (by decide) (j := 1) (by decide) ?_
      refine r_iload_n C 2 dX5_isAsleep_41 rfl rfl ?_
      refine r_icmp_ne (tgt := 69) C dX5_isAsleep_42 (by decide) (fun h5 => ?_) (fun h5 => ?_)
      · refine r_aload_n C 0 dX5_isAsleep_45 rfl rfl ?_
        refine r_iconst (v := 2) C dX5_isAsleep_46 (by decide) ?_
        refine r_ialdc C dX5_isAsleep_47 (in_12 (lt85 hb) (inb_lt h2)) (contW_12 g _ _ _ _ _) (by decide) (j := 2) (by decide) ?_
        refine r_aload_n C 1 dX5_isAsleep_48 rfl rfl ?_
        refine gf_23_6 C dX5_isAsleep_49 u_341 (in_23 hb) ?_
        refine r_icmp_gt (tgt := 69) C dX5_isAsleep_52 (by decide) (fun h7 => ?_) (fun h7 => ?_)
        · refine r_iinc (c := 1) (lv' := fun v8 => [(2, .int v8), (3, .ref (gA g 12 (b + 5) l2.toNatClampNeg)), (0, .ref (gA g 23 b 0)), (1, .int l1)]) C 3 dX5_isAsleep_69 rfl (by decide) (by decide) (fun _ => rfl) (fun v8 => ?_)
          refine r_goto (tgt := 2) C dX5_isAsleep_72 (by decide) ?_
          refine r_lv [2, 3, 0] rfl ?_
          exact hk2 v8
        · refine r_aload_n C 0 dX5_isAsleep_55 rfl rfl ?_
          refine r_iconst (v := 2) C dX5_isAsleep_56 (by decide) ?_
          refine r_ialdc C dX5_isAsleep_57 (in_12 (lt85 hb) (inb_lt h2)) (contW_12 g _ _ _ _ _) (by decide) (j := 2) (by decide) ?_
          refine r_aload_n C 1 dX5_isAsleep_58 rfl rfl ?_
          refine gf_23_13 C dX5_isAsleep_59 u_348 (in_23 hb) ?_
          refine r_iload_n C 2 dX5_isAsleep_62 rfl rfl ?_
          refine r_iald C dX5_isAsleep_63 (in_33 hb) (contW_33 g _ _ _ _ _) (fun h9 => ?_)
          refine r_icmp_le (tgt := 69) C dX5_isAsleep_64 (by decide) (fun h10 => ?_) (fun h10 => ?_)
          · refine r_iinc (c := 1) (lv' := fun v11 => [(2, .int v11), (3, .ref (gA g 12 (b + 5) l2.toNatClampNeg)), (0, .ref (gA g 23 b 0)), (1, .int l1)]) C 3 dX5_isAsleep_69 rfl (by decide) (by decide) (fun _ => rfl) (fun v11 => ?_)
            refine r_goto (tgt := 2) C dX5_isAsleep_72 (by decide) ?_
            refine r_lv [2, 3, 0] rfl ?_
            exact hk2 v11
          · refine r_iconst (v := 1) C dX5_isAsleep_67 (by decide) ?_
            exact r_zretc C dX5_isAsleep_68 rfl bz1 rfl (xk0 hm) (xn0 hm)
      · refine r_iinc (c := 1) (lv' := fun v6 => [(2, .int v6), (3, .ref (gA g 12 (b + 5) l2.toNatClampNeg)), (0, .ref (gA g 23 b 0)), (1, .int l1)]) C 3 dX5_isAsleep_69 rfl (by decide) (by decide) (fun _ => rfl) (fun v6 => ?_)
        refine r_goto (tgt := 2) C dX5_isAsleep_72 (by decide) ?_
        refine r_lv [2, 3, 0] rfl ?_
        exact hk2 v6
    · refine r_iinc (c := 1) (lv' := fun v4 => [(2, .int v4), (3, .ref (gA g 12 (b + 5) l2.toNatClampNeg)), (0, .ref (gA g 23 b 0)), (1, .int l1)]) C 3 dX5_isAsleep_69 rfl (by decide) (by decide) (fun _ => rfl) (fun v4 => ?_)
      refine r_goto (tgt := 2) C dX5_isAsleep_72 (by decide) ?_
      refine r_lv [2, 3, 0] rfl ?_
      exact hk2 v4
set_option maxRecDepth 100000 in
set_option maxHeartbeats 4000000 in
theorem tl_X5_isAsleep_2 {g : Gw} {x : Xw} (C : Cw g x cX5_isAsleep RX5 4 (some .boolean) 1) (hm : x.2.2.2.2.2.2.2.2.2.2.2 = (0, 0)) {b : Nat} (hb : b < 3) (M : Mw) (l1 : Int32) (n : Nat) : ∀ (l2 : Int32), Sw g x (fun v : Int32 => (some (.int v), M)) M 0 0 2 [(0, .ref (gA g 23 b 0)), (1, .int l1), (2, .int l2)] [] (it (fun _ => none) (B_X5_isAsleep_2 b l1 M) n l2) := by
  induction n with
  | zero =>
    intro l2
    exact r_none
  | succ n ih =>
    intro l2
    exact t_X5_isAsleep_2 C hm hb M l1 _ ih l2
set_option maxRecDepth 100000 in
set_option maxHeartbeats 4000000 in
theorem c_X5_isAsleep {g : Gw} {l : Launch} {b : Nat} (hb : b < 3) (p1 : Int32) (M : Mw) : Kw g l yX5_isAsleep cX5_isAsleep 4 (some .boolean) 1 0 0 [.ref (gA g 23 b 0), .int p1] M (fun v : Int32 => (some (.int v), M)) (F_X5_isAsleep b p1 M) := by
  refine Kw.of (own := RX5) (lv0 := [(0, .ref (gA g 23 b 0)), (1, .int p1)]) (by decide +kernel) rfl (Nat.le_of_ble_eq_true rfl) rfl (fun x C hl hm => ?_)
  subst hl
  unfold F_X5_isAsleep
  refine r_iconst (v := 0) C dX5_isAsleep_0 (by decide) ?_
  refine r_istore_n0 (lv' := [(2, .int 0), (0, .ref (gA g 23 b 0)), (1, .int p1)]) C dX5_isAsleep_1 rfl (by decide) rfl ?_
  refine r_lv [1, 2, 0] rfl ?_
  exact tl_X5_isAsleep_2 C hm hb M p1 FU 0
def F_X5_missesUnder (b : Nat) (p1 : Int32) (p2 : Int32) (M : Mw) : Option (Int32) :=
  (if inb p2 5 then (if inb p2 5 then (if (M.1 4 (b + 5) p2.toNatClampNeg 0) = p1 then (if (((M.1 23 b 0 6) - (M.1 0 (b + 5) 0 1)) + 1) < (M.1 25 b p2.toNatClampNeg 0) then some 0 else (if (M.1 25 b p2.toNatClampNeg 10) < (M.1 4 (b + 5) p2.toNatClampNeg 4) then some 1 else (if (M.1 25 b p2.toNatClampNeg 10) ≤ (M.1 4 (b + 5) p2.toNatClampNeg 5) then some 0 else some 1))) else some 0) else none) else none)
set_option maxRecDepth 100000 in
set_option maxHeartbeats 4000000 in
theorem c_X5_missesUnder {g : Gw} {l : Launch} {b : Nat} (hb : b < 3) (p1 : Int32) (p2 : Int32) (M : Mw) : Kw g l yX5_missesUnder cX5_missesUnder 5 (some .boolean) 1 0 0 [.ref (gA g 23 b 0), .int p1, .int p2] M (fun v : Int32 => (some (.int v), M)) (F_X5_missesUnder b p1 p2 M) := by
  refine Kw.of (own := RX5) (lv0 := [(0, .ref (gA g 23 b 0)), (1, .int p1), (2, .int p2)]) (by decide +kernel) rfl (Nat.le_of_ble_eq_true rfl) rfl (fun x C hl hm => ?_)
  subst hl
  unfold F_X5_missesUnder
  refine r_aload_n C 0 dX5_missesUnder_0 rfl rfl ?_
  refine gf_23_0 C dX5_missesUnder_1 u_328 (in_23 hb) ?_
  refine gf_0_10 C dX5_missesUnder_4 u_223 (in_0 (lt85 hb)) ?_
  refine r_iload_n C 2 dX5_missesUnder_7 rfl rfl ?_
  refine r_aald (t0 := 5) (ty := .array .int) C dX5_missesUnder_8 (in_3 (lt85 hb)) (contW_3 g _ _ _ _ _) rfl rfl (fun h1 => ?_)
  refine r_astore_n (lv' := [(3, .ref (gA g 4 (b + 5) p2.toNatClampNeg)), (0, .ref (gA g 23 b 0)), (1, .int p1), (2, .int p2)]) C dX5_missesUnder_9 rfl (by decide) rfl ?_
  refine r_aload_n C 1 dX5_missesUnder_10 rfl rfl ?_
  refine gf_23_1 C dX5_missesUnder_11 u_331 (in_23 hb) ?_
  refine r_iload_n C 3 dX5_missesUnder_14 rfl rfl ?_
  refine r_aald (t0 := 7) (ty := .object "WatchStack$TaskState") C dX5_missesUnder_15 (in_24 hb) (contW_24 g _ _ _ _ _) rfl rfl (fun h2 => ?_)
  refine r_astore (lv' := [(4, .ref (gA g 25 b p2.toNatClampNeg)), (3, .ref (gA g 4 (b + 5) p2.toNatClampNeg)), (0, .ref (gA g 23 b 0)), (1, .int p1), (2, .int p2)]) C dX5_missesUnder_16 (by decide) rfl ?_
  refine r_aload_n C 1 dX5_missesUnder_18 rfl rfl ?_
  refine r_iconst (v := 0) C dX5_missesUnder_19 (by decide) ?_
  refine r_ialdc C dX5_missesUnder_20 (in_4 (lt85 hb) (inb_lt h1)) (contW_4 g _ _ _ _ _) (by decide) (j := 0) (by decide) ?_
  refine r_iload_n C 3 dX5_missesUnder_21 rfl rfl ?_
  refine r_icmp_ne (tgt := 73) C dX5_missesUnder_22 (by decide) (fun h3 => ?_) (fun h3 => ?_)
  · refine r_aload C 0 dX5_missesUnder_25 rfl ?_
    refine gf_25_0 C dX5_missesUnder_27 u_292 (in_25 hb (inb_lt h2)) ?_
    refine r_aload_n C 2 dX5_missesUnder_30 rfl rfl ?_
    refine gf_23_6 C dX5_missesUnder_31 u_341 (in_23 hb) ?_
    refine r_aload_n C 2 dX5_missesUnder_34 rfl rfl ?_
    refine gf_23_0 C dX5_missesUnder_35 u_328 (in_23 hb) ?_
    refine gf_0_1 C dX5_missesUnder_38 u_186 (in_0 (lt85 hb)) ?_
    refine r_isub C dX5_missesUnder_41 ?_
    refine r_iconst (v := 1) C dX5_missesUnder_42 (by decide) ?_
    refine r_iadd C dX5_missesUnder_43 ?_
    refine r_icmp_gt (tgt := 73) C dX5_missesUnder_44 (by decide) (fun h4 => ?_) (fun h4 => ?_)
    · refine r_iconst (v := 0) C dX5_missesUnder_73 (by decide) ?_
      exact r_zretc C dX5_missesUnder_74 rfl bz0 rfl (xk0 hm) (xn0 hm)
    · refine r_aload C 0 dX5_missesUnder_47 rfl ?_
      refine gf_25_10 C dX5_missesUnder_49 u_314 (in_25 hb (inb_lt h2)) ?_
      refine r_aload_n C 1 dX5_missesUnder_52 rfl rfl ?_
      refine r_iconst (v := 4) C dX5_missesUnder_53 (by decide) ?_
      refine r_ialdc C dX5_missesUnder_54 (in_4 (lt85 hb) (inb_lt h1)) (contW_4 g _ _ _ _ _) (by decide) (j := 4) (by decide) ?_
      refine r_icmp_lt (tgt := 69) C dX5_missesUnder_55 (by decide) (fun h5 => ?_) (fun h5 => ?_)
      · refine r_iconst (v := 1) C dX5_missesUnder_69 (by decide) ?_
        refine r_goto (tgt := 74) C dX5_missesUnder_70 (by decide) ?_
        exact r_zretc C dX5_missesUnder_74 rfl bz1 rfl (xk0 hm) (xn0 hm)
      · refine r_aload C 0 dX5_missesUnder_58 rfl ?_
        refine gf_25_10 C dX5_missesUnder_60 u_314 (in_25 hb (inb_lt h2)) ?_
        refine r_aload_n C 1 dX5_missesUnder_63 rfl rfl ?_
        refine r_iconst (v := 5) C dX5_missesUnder_64 (by decide) ?_
        refine r_ialdc C dX5_missesUnder_65 (in_4 (lt85 hb) (inb_lt h1)) (contW_4 g _ _ _ _ _) (by decide) (j := 5) (by decide) ?_
        refine r_icmp_le (tgt := 73) C dX5_missesUnder_66 (by decide) (fun h6 => ?_) (fun h6 => ?_)
        · refine r_iconst (v := 0) C dX5_missesUnder_73 (by decide) ?_
          exact r_zretc C dX5_missesUnder_74 rfl bz0 rfl (xk0 hm) (xn0 hm)
        · refine r_iconst (v := 1) C dX5_missesUnder_69 (by decide) ?_
          refine r_goto (tgt := 74) C dX5_missesUnder_70 (by decide) ?_
          exact r_zretc C dX5_missesUnder_74 rfl bz1 rfl (xk0 hm) (xn0 hm)
  · refine r_iconst (v := 0) C dX5_missesUnder_73 (by decide) ?_
    exact r_zretc C dX5_missesUnder_74 rfl bz0 rfl (xk0 hm) (xn0 hm)
def B_X5_failWatcher_14 (b : Nat) (l1 : Int32) (s0 : Int32) (M : Mw) : Option (Mw) :=
  (if inb l1 3 then (bd (uIw M 34 b 0 l1.toNatClampNeg (vp_nar .boolean 1)) (fun M3 => ((F_X4_add b (M3.1 23 b 0 6) 6 l1 s0 M3).bind (fun M5 => ((F_X5_climb b s0 (-1) l1 M5).bind (fun M7 => some M7)))))) else none)
def F_X5_failWatcher (b : Nat) (p1 : Int32) (M : Mw) : Option (Mw) :=
  (if inb p1 3 then (if (M.1 34 b 0 p1.toNatClampNeg) = 0 then (B_X5_failWatcher_14 b p1 2 M) else (B_X5_failWatcher_14 b p1 3 M)) else none)
set_option maxRecDepth 100000 in
set_option maxHeartbeats 4000000 in
theorem t_X5_failWatcher_14 {g : Gw} {x : Xw} (C : Cw g x cX5_failWatcher RX5 3 none 3) (hm : x.2.2.2.2.2.2.2.2.2.2.2 = (0, 0)) {b : Nat} (hb : b < 3) (l1 : Int32) (s0 : Int32) (M : Mw) : Sw g x (fun M : Mw => (none, M)) M 0 0 14 [(0, .ref (gA g 23 b 0)), (1, .int l1)] [.int s0] (B_X5_failWatcher_14 b l1 s0 M) := by
  unfold B_X5_failWatcher_14
  refine r_istore_n0 (lv' := [(2, .int s0), (0, .ref (gA g 23 b 0)), (1, .int l1)]) C dX5_failWatcher_14 rfl (by decide) rfl ?_
  refine r_aload_n C 1 dX5_failWatcher_15 rfl rfl ?_
  refine gf_23_14 C dX5_failWatcher_16 u_349 (in_23 hb) ?_
  refine r_iload_n C 2 dX5_failWatcher_19 rfl rfl ?_
  refine r_iconst (v := 1) C dX5_failWatcher_20 (by decide) ?_
  refine r_zast C dX5_failWatcher_21 (in_34 hb) (contW_34 g _ _) (fun M3 h4 => ?_)
  refine r_aload_n C 1 dX5_failWatcher_22 rfl rfl ?_
  refine gf_23_2 C dX5_failWatcher_23 u_333 (in_23 hb) ?_
  refine r_aload_n C 1 dX5_failWatcher_26 rfl rfl ?_
  refine gf_23_6 C dX5_failWatcher_27 u_341 (in_23 hb) ?_
  refine r_bipush (v := 6) C dX5_failWatcher_30 (by decide) ?_
  refine r_iload_n C 2 dX5_failWatcher_32 rfl rfl ?_
  refine r_iload_n C 0 dX5_failWatcher_33 rfl rfl ?_
  refine r_callVU (rest := []) C (c_X4_add hb (M3.1 23 b 0 6) 6 l1 s0 M3) dX5_failWatcher_34 u_632 (in_26 hb) (contW_26 g _ _ _ _ _) rfl u_633 u_634 mi_X4_add (by decide) rfl rfl (Nat.le_of_ble_eq_true rfl) (xk1 hm (by decide)) (xn1 hm (by decide)) (fun M5 h6 => ?_)
  refine r_aload_n C 1 dX5_failWatcher_37 rfl rfl ?_
  refine r_iload_n C 0 dX5_failWatcher_38 rfl rfl ?_
  refine r_iconst (v := (-1)) C dX5_failWatcher_39 (by decide) ?_
  refine r_iload_n C 2 dX5_failWatcher_40 rfl rfl ?_
  refine r_callVU (rest := []) C (c_X5_climb hb s0 (-1) l1 M5) dX5_failWatcher_41 u_636 (in_23 hb) (contW_23 g _ _ _ _ _) rfl u_637 u_26 mi_X5_climb (by decide) rfl rfl (Nat.le_of_ble_eq_true rfl) (xk1 hm (by decide)) (xn1 hm (by decide)) (fun M7 h8 => ?_)
  exact r_vret C dX5_failWatcher_44 rfl rfl (xk0 hm) (xn0 hm)
set_option maxRecDepth 100000 in
set_option maxHeartbeats 4000000 in
theorem c_X5_failWatcher {g : Gw} {l : Launch} {b : Nat} (hb : b < 3) (p1 : Int32) (M : Mw) : Kw g l yX5_failWatcher cX5_failWatcher 3 none 3 0 0 [.ref (gA g 23 b 0), .int p1] M (fun M : Mw => (none, M)) (F_X5_failWatcher b p1 M) := by
  refine Kw.of (own := RX5) (lv0 := [(0, .ref (gA g 23 b 0)), (1, .int p1)]) (by decide +kernel) rfl (Nat.le_of_ble_eq_true rfl) rfl (fun x C hl hm => ?_)
  subst hl
  unfold F_X5_failWatcher
  refine r_aload_n C 0 dX5_failWatcher_0 rfl rfl ?_
  refine gf_23_14 C dX5_failWatcher_1 u_349 (in_23 hb) ?_
  refine r_iload_n C 1 dX5_failWatcher_4 rfl rfl ?_
  refine r_zald C dX5_failWatcher_5 (in_34 hb) (contW_34 g _ _ _ _ _) (fun h1 => ?_)
  refine r_if_eq (tgt := 13) C dX5_failWatcher_6 (by decide) (fun h2 => ?_) (fun h2 => ?_)
  · refine r_iconst (v := 2) C dX5_failWatcher_13 (by decide) ?_
    exact t_X5_failWatcher_14 C hm hb p1 2 M
  · refine r_iconst (v := 3) C dX5_failWatcher_9 (by decide) ?_
    refine r_goto (tgt := 14) C dX5_failWatcher_10 (by decide) ?_
    exact t_X5_failWatcher_14 C hm hb p1 3 M
def B_X5_letWatchersLook_97 (b : Nat) (k10 : Int32 → Mw → Option (Mw)) (l1 : Int32) (k97 : Int32 → Mw → Option (Mw)) (l2 : Int32) (M : Mw) : Option (Mw) :=
  (if (M.1 0 (b + 5) 0 4) ≤ l2 then (bd (l1 + (-1)) (fun v14 => (k10 v14 M))) else (if (M.1 23 b 0 8) = 0 then (if inb l2 3 then (if (M.1 1 (b + 5) 0 l2.toNatClampNeg) = l1 then (if inb l2 3 then (if (M.1 35 b 0 l2.toNatClampNeg) = 0 then ((F_X5_failWatcher b l2 M).bind (fun M23 => (bd (l2 + 1) (fun v25 => (k97 v25 M23))))) else (bd (l2 + 1) (fun v22 => (k97 v22 M)))) else none) else (bd (l2 + 1) (fun v19 => (k97 v19 M)))) else none) else (bd (l1 + (-1)) (fun v16 => (k10 v16 M)))))
def B_X5_letWatchersLook_93 (b : Nat) (k10 : Int32 → Mw → Option (Mw)) (l1 : Int32) (M : Mw) : Option (Mw) :=
  (bd (l1 + 1) (fun v12 => (it (fun _ _ => none) (B_X5_letWatchersLook_97 b k10 l1) FU v12 M)))
def B_X5_letWatchersLook_54 (b : Nat) (k10 : Int32 → Mw → Option (Mw)) (l1 : Int32) (k54 : Int32 → Mw → Option (Mw)) (l2 : Int32) (M : Mw) : Option (Mw) :=
  (if (M.1 0 (b + 5) 0 5) ≤ l2 then (B_X5_letWatchersLook_93 b k10 l1 M) else (if (M.1 23 b 0 8) = 0 then ((F_X5_missesUnder b l1 l2 M).bind (fun v27 => (if v27 = 0 then (bd (l2 + 1) (fun v30 => (k54 v30 M))) else ((F_X5_failTask b l2 5 M).bind (fun M31 => (bd (l2 + 1) (fun v33 => (k54 v33 M31)))))))) else (B_X5_letWatchersLook_93 b k10 l1 M)))
def B_X5_letWatchersLook_39 (b : Nat) (k10 : Int32 → Mw → Option (Mw)) (l1 : Int32) (s0 : Int32) (s1 : Int32) (M : Mw) : Option (Mw) :=
  (if inb s1 3 then (bd (uIw M 35 b 0 s1.toNatClampNeg (vp_nar .boolean s0)) (fun M7 => (if inb l1 3 then (if (M7.1 35 b 0 l1.toNatClampNeg) = 0 then (bd (l1 + (-1)) (fun v34 => (k10 v34 M7))) else (it (fun _ _ => none) (B_X5_letWatchersLook_54 b k10 l1) FU 0 M7)) else none))) else none)
def B_X5_letWatchersLook_10 (b : Nat) (k10 : Int32 → Mw → Option (Mw)) (l1 : Int32) (M : Mw) : Option (Mw) :=
  (if l1 < 0 then some M else (if (M.1 23 b 0 8) = 0 then ((F_X5_isAsleep b l1 M).bind (fun v4 => (if v4 = 0 then (B_X5_letWatchersLook_39 b k10 l1 1 l1 M) else (B_X5_letWatchersLook_39 b k10 l1 0 l1 M)))) else some M))
def F_X5_letWatchersLook (b : Nat) (M : Mw) : Option (Mw) :=
  (bd ((M.1 0 (b + 5) 0 4) - 1) (fun v1 => (it (fun _ _ => none) (B_X5_letWatchersLook_10 b) FU v1 M)))
set_option maxRecDepth 100000 in
set_option maxHeartbeats 4000000 in
theorem t_X5_letWatchersLook_97 {g : Gw} {x : Xw} (C : Cw g x cX5_letWatchersLook RX5 3 none 4) (hm : x.2.2.2.2.2.2.2.2.2.2.2 = (0, 0)) {b : Nat} (hb : b < 3) (k10 : Int32 → Mw → Option (Mw)) (l1 : Int32) (hk10 : ∀ (l1 : Int32) (M : Mw), Sw g x (fun M : Mw => (none, M)) M 0 0 10 [(0, .ref (gA g 23 b 0)), (1, .int l1)] [] (k10 l1 M)) (k97 : Int32 → Mw → Option (Mw)) (hk97 : ∀ (l2 : Int32) (M : Mw), Sw g x (fun M : Mw => (none, M)) M 0 0 97 [(0, .ref (gA g 23 b 0)), (1, .int l1), (2, .int l2)] [] (k97 l2 M)) (l2 : Int32) (M : Mw) : Sw g x (fun M : Mw => (none, M)) M 0 0 97 [(0, .ref (gA g 23 b 0)), (1, .int l1), (2, .int l2)] [] (B_X5_letWatchersLook_97 b k10 l1 k97 l2 M) := by
  unfold B_X5_letWatchersLook_97
  refine r_iload_n C 2 dX5_letWatchersLook_97 rfl rfl ?_
  refine r_aload_n C 0 dX5_letWatchersLook_98 rfl rfl ?_
  refine gf_23_0 C dX5_letWatchersLook_99 u_328 (in_23 hb) ?_
  refine gf_0_4 C dX5_letWatchersLook_102 u_198 (in_0 (lt85 hb)) ?_
  refine r_icmp_ge (tgt := 148) C dX5_letWatchersLook_105 (by decide) (fun h13 => ?_) (fun h13 => ?_)
  · refine r_iinc (c := (-1)) (lv' := fun v14 => [(1, .int v14), (0, .ref (gA g 23 b 0)), (2, .int l2)]) C 1 dX5_letWatchersLook_148 rfl (by decide) (by decide) (fun _ => rfl) (fun v14 => ?_)
    refine r_goto (tgt := 10) C dX5_letWatchersLook_151 (by decide) ?_
    refine r_lv [1, 0] rfl ?_
    exact hk10 v14 M
  · refine r_aload_n C 0 dX5_letWatchersLook_108 rfl rfl ?_
    refine gf_23_8 C dX5_letWatchersLook_109 u_343 (in_23 hb) ?_
    refine r_if_ne (tgt := 148) C dX5_letWatchersLook_112 (by decide) (fun h15 => ?_) (fun h15 => ?_)
    · refine r_aload_n C 0 dX5_letWatchersLook_115 rfl rfl ?_
      refine gf_23_0 C dX5_letWatchersLook_116 u_328 (in_23 hb) ?_
      refine gf_0_8 C dX5_letWatchersLook_119 u_216 (in_0 (lt85 hb)) ?_
      refine r_iload_n C 2 dX5_letWatchersLook_122 rfl rfl ?_
      refine r_iald C dX5_letWatchersLook_123 (in_1 (lt85 hb)) (contW_1 g _ _ _ _ _) (fun h17 => ?_)
      refine r_iload_n C 1 dX5_letWatchersLook_124 rfl rfl ?_
      refine r_icmp_ne (tgt := 142) C dX5_letWatchersLook_125 (by decide) (fun h18 => ?_) (fun h18 => ?_)
      · refine r_aload_n C 0 dX5_letWatchersLook_128 rfl rfl ?_
        refine gf_23_15 C dX5_letWatchersLook_129 u_350 (in_23 hb) ?_
        refine r_iload_n C 2 dX5_letWatchersLook_132 rfl rfl ?_
        refine r_zald C dX5_letWatchersLook_133 (in_35 hb) (contW_35 g _ _ _ _ _) (fun h20 => ?_)
        refine r_if_ne (tgt := 142) C dX5_letWatchersLook_134 (by decide) (fun h21 => ?_) (fun h21 => ?_)
        · refine r_aload_n C 0 dX5_letWatchersLook_137 rfl rfl ?_
          refine r_iload_n C 2 dX5_letWatchersLook_138 rfl rfl ?_
          refine r_callVU (rest := []) C (c_X5_failWatcher hb l2 M) dX5_letWatchersLook_139 u_673 (in_23 hb) (contW_23 g _ _ _ _ _) rfl u_674 u_33 mi_X5_failWatcher (by decide) rfl rfl (Nat.le_of_ble_eq_true rfl) (xk1 hm (by decide)) (xn1 hm (by decide)) (fun M23 h24 => ?_)
          refine r_iinc (c := 1) (lv' := fun v25 => [(2, .int v25), (0, .ref (gA g 23 b 0)), (1, .int l1)]) C 2 dX5_letWatchersLook_142 rfl (by decide) (by decide) (fun _ => rfl) (fun v25 => ?_)
          refine r_goto (tgt := 97) C dX5_letWatchersLook_145 (by decide) ?_
          refine r_lv [1, 2, 0] rfl ?_
          exact hk97 v25 M23
        · refine r_iinc (c := 1) (lv' := fun v22 => [(2, .int v22), (0, .ref (gA g 23 b 0)), (1, .int l1)]) C 2 dX5_letWatchersLook_142 rfl (by decide) (by decide) (fun _ => rfl) (fun v22 => ?_)
          refine r_goto (tgt := 97) C dX5_letWatchersLook_145 (by decide) ?_
          refine r_lv [1, 2, 0] rfl ?_
          exact hk97 v22 M
      · refine r_iinc (c := 1) (lv' := fun v19 => [(2, .int v19), (0, .ref (gA g 23 b 0)), (1, .int l1)]) C 2 dX5_letWatchersLook_142 rfl (by decide) (by decide) (fun _ => rfl) (fun v19 => ?_)
        refine r_goto (tgt := 97) C dX5_letWatchersLook_145 (by decide) ?_
        refine r_lv [1, 2, 0] rfl ?_
        exact hk97 v19 M
    · refine r_iinc (c := (-1)) (lv' := fun v16 => [(1, .int v16), (0, .ref (gA g 23 b 0)), (2, .int l2)]) C 1 dX5_letWatchersLook_148 rfl (by decide) (by decide) (fun _ => rfl) (fun v16 => ?_)
      refine r_goto (tgt := 10) C dX5_letWatchersLook_151 (by decide) ?_
      refine r_lv [1, 0] rfl ?_
      exact hk10 v16 M
set_option maxRecDepth 100000 in
set_option maxHeartbeats 4000000 in
theorem tl_X5_letWatchersLook_97 {g : Gw} {x : Xw} (C : Cw g x cX5_letWatchersLook RX5 3 none 4) (hm : x.2.2.2.2.2.2.2.2.2.2.2 = (0, 0)) {b : Nat} (hb : b < 3) (k10 : Int32 → Mw → Option (Mw)) (l1 : Int32) (hk10 : ∀ (l1 : Int32) (M : Mw), Sw g x (fun M : Mw => (none, M)) M 0 0 10 [(0, .ref (gA g 23 b 0)), (1, .int l1)] [] (k10 l1 M)) (n : Nat) : ∀ (l2 : Int32) (M : Mw), Sw g x (fun M : Mw => (none, M)) M 0 0 97 [(0, .ref (gA g 23 b 0)), (1, .int l1), (2, .int l2)] [] (it (fun _ _ => none) (B_X5_letWatchersLook_97 b k10 l1) n l2 M) := by
  induction n with
  | zero =>
    intro l2 M
    exact r_none
  | succ n ih =>
    intro l2 M
    exact t_X5_letWatchersLook_97 C hm hb k10 l1 hk10 _ ih l2 M
set_option maxRecDepth 100000 in
set_option maxHeartbeats 4000000 in
theorem t_X5_letWatchersLook_93 {g : Gw} {x : Xw} (C : Cw g x cX5_letWatchersLook RX5 3 none 4) (hm : x.2.2.2.2.2.2.2.2.2.2.2 = (0, 0)) {b : Nat} (hb : b < 3) (k10 : Int32 → Mw → Option (Mw)) (l1 : Int32) (hk10 : ∀ (l1 : Int32) (M : Mw), Sw g x (fun M : Mw => (none, M)) M 0 0 10 [(0, .ref (gA g 23 b 0)), (1, .int l1)] [] (k10 l1 M)) (M : Mw) : Sw g x (fun M : Mw => (none, M)) M 0 0 93 [(0, .ref (gA g 23 b 0)), (1, .int l1)] [] (B_X5_letWatchersLook_93 b k10 l1 M) := by
  unfold B_X5_letWatchersLook_93
  refine r_iload_n C 1 dX5_letWatchersLook_93 rfl rfl ?_
  refine r_iconst (v := 1) C dX5_letWatchersLook_94 (by decide) ?_
  refine r_iadd C dX5_letWatchersLook_95 ?_
  refine r_istore_n (lv' := fun v12 => [(2, .int v12), (0, .ref (gA g 23 b 0)), (1, .int l1)]) C dX5_letWatchersLook_96 rfl (by decide) (fun _ => rfl) (fun v12 => ?_)
  refine r_lv [1, 2, 0] rfl ?_
  exact tl_X5_letWatchersLook_97 C hm hb k10 l1 hk10 FU v12 M
set_option maxRecDepth 100000 in
set_option maxHeartbeats 4000000 in
theorem t_X5_letWatchersLook_54 {g : Gw} {x : Xw} (C : Cw g x cX5_letWatchersLook RX5 3 none 4) (hm : x.2.2.2.2.2.2.2.2.2.2.2 = (0, 0)) {b : Nat} (hb : b < 3) (k10 : Int32 → Mw → Option (Mw)) (l1 : Int32) (hk10 : ∀ (l1 : Int32) (M : Mw), Sw g x (fun M : Mw => (none, M)) M 0 0 10 [(0, .ref (gA g 23 b 0)), (1, .int l1)] [] (k10 l1 M)) (k54 : Int32 → Mw → Option (Mw)) (hk54 : ∀ (l2 : Int32) (M : Mw), Sw g x (fun M : Mw => (none, M)) M 0 0 54 [(0, .ref (gA g 23 b 0)), (1, .int l1), (2, .int l2)] [] (k54 l2 M)) (l2 : Int32) (M : Mw) : Sw g x (fun M : Mw => (none, M)) M 0 0 54 [(0, .ref (gA g 23 b 0)), (1, .int l1), (2, .int l2)] [] (B_X5_letWatchersLook_54 b k10 l1 k54 l2 M) := by
  unfold B_X5_letWatchersLook_54
  refine r_iload_n C 2 dX5_letWatchersLook_54 rfl rfl ?_
  refine r_aload_n C 0 dX5_letWatchersLook_55 rfl rfl ?_
  refine gf_23_0 C dX5_letWatchersLook_56 u_328 (in_23 hb) ?_
  refine gf_0_5 C dX5_letWatchersLook_59 u_202 (in_0 (lt85 hb)) ?_
  refine r_icmp_ge (tgt := 93) C dX5_letWatchersLook_62 (by decide) (fun h11 => ?_) (fun h11 => ?_)
  · refine r_lv [0, 1] rfl ?_
    exact t_X5_letWatchersLook_93 C hm hb k10 l1 hk10 M
  · refine r_aload_n C 0 dX5_letWatchersLook_65 rfl rfl ?_
    refine gf_23_8 C dX5_letWatchersLook_66 u_343 (in_23 hb) ?_
    refine r_if_ne (tgt := 93) C dX5_letWatchersLook_69 (by decide) (fun h26 => ?_) (fun h26 => ?_)
    · refine r_aload_n C 0 dX5_letWatchersLook_72 rfl rfl ?_
      refine r_iload_n C 1 dX5_letWatchersLook_73 rfl rfl ?_
      refine r_iload_n C 2 dX5_letWatchersLook_74 rfl rfl ?_
      refine r_callVRi (rest := []) C (c_X5_missesUnder hb l1 l2 M) dX5_letWatchersLook_75 u_670 (in_23 hb) (contW_23 g _ _ _ _ _) rfl u_671 u_32 mi_X5_missesUnder (by decide) rfl rfl (Nat.le_of_ble_eq_true rfl) (xk1 hm (by decide)) (xn1 hm (by decide)) (fun v27 h28 => ?_)
      refine r_if_eq (tgt := 87) C dX5_letWatchersLook_78 (by decide) (fun h29 => ?_) (fun h29 => ?_)
      · refine r_iinc (c := 1) (lv' := fun v30 => [(2, .int v30), (0, .ref (gA g 23 b 0)), (1, .int l1)]) C 2 dX5_letWatchersLook_87 rfl (by decide) (by decide) (fun _ => rfl) (fun v30 => ?_)
        refine r_goto (tgt := 54) C dX5_letWatchersLook_90 (by decide) ?_
        refine r_lv [1, 2, 0] rfl ?_
        exact hk54 v30 M
      · refine r_aload_n C 0 dX5_letWatchersLook_81 rfl rfl ?_
        refine r_iload_n C 2 dX5_letWatchersLook_82 rfl rfl ?_
        refine r_iconst (v := 5) C dX5_letWatchersLook_83 (by decide) ?_
        refine r_callVU (rest := []) C (c_X5_failTask hb l2 5 M) dX5_letWatchersLook_84 u_623 (in_23 hb) (contW_23 g _ _ _ _ _) rfl u_624 u_25 mi_X5_failTask (by decide) rfl rfl (Nat.le_of_ble_eq_true rfl) (xk1 hm (by decide)) (xn1 hm (by decide)) (fun M31 h32 => ?_)
        refine r_iinc (c := 1) (lv' := fun v33 => [(2, .int v33), (0, .ref (gA g 23 b 0)), (1, .int l1)]) C 2 dX5_letWatchersLook_87 rfl (by decide) (by decide) (fun _ => rfl) (fun v33 => ?_)
        refine r_goto (tgt := 54) C dX5_letWatchersLook_90 (by decide) ?_
        refine r_lv [1, 2, 0] rfl ?_
        exact hk54 v33 M31
    · refine r_lv [0, 1] rfl ?_
      exact t_X5_letWatchersLook_93 C hm hb k10 l1 hk10 M
set_option maxRecDepth 100000 in
set_option maxHeartbeats 4000000 in
theorem tl_X5_letWatchersLook_54 {g : Gw} {x : Xw} (C : Cw g x cX5_letWatchersLook RX5 3 none 4) (hm : x.2.2.2.2.2.2.2.2.2.2.2 = (0, 0)) {b : Nat} (hb : b < 3) (k10 : Int32 → Mw → Option (Mw)) (l1 : Int32) (hk10 : ∀ (l1 : Int32) (M : Mw), Sw g x (fun M : Mw => (none, M)) M 0 0 10 [(0, .ref (gA g 23 b 0)), (1, .int l1)] [] (k10 l1 M)) (n : Nat) : ∀ (l2 : Int32) (M : Mw), Sw g x (fun M : Mw => (none, M)) M 0 0 54 [(0, .ref (gA g 23 b 0)), (1, .int l1), (2, .int l2)] [] (it (fun _ _ => none) (B_X5_letWatchersLook_54 b k10 l1) n l2 M) := by
  induction n with
  | zero =>
    intro l2 M
    exact r_none
  | succ n ih =>
    intro l2 M
    exact t_X5_letWatchersLook_54 C hm hb k10 l1 hk10 _ ih l2 M
set_option maxRecDepth 100000 in
set_option maxHeartbeats 4000000 in
theorem t_X5_letWatchersLook_39 {g : Gw} {x : Xw} (C : Cw g x cX5_letWatchersLook RX5 3 none 4) (hm : x.2.2.2.2.2.2.2.2.2.2.2 = (0, 0)) {b : Nat} (hb : b < 3) (k10 : Int32 → Mw → Option (Mw)) (l1 : Int32) (s0 : Int32) (s1 : Int32) (hk10 : ∀ (l1 : Int32) (M : Mw), Sw g x (fun M : Mw => (none, M)) M 0 0 10 [(0, .ref (gA g 23 b 0)), (1, .int l1)] [] (k10 l1 M)) (M : Mw) : Sw g x (fun M : Mw => (none, M)) M 0 0 39 [(0, .ref (gA g 23 b 0)), (1, .int l1)] [.int s0, .int s1, .ref (gA g 35 b 0)] (B_X5_letWatchersLook_39 b k10 l1 s0 s1 M) := by
  unfold B_X5_letWatchersLook_39
  refine r_zast C dX5_letWatchersLook_39 (in_35 hb) (contW_35 g _ _) (fun M7 h8 => ?_)
  refine r_aload_n C 0 dX5_letWatchersLook_40 rfl rfl ?_
  refine gf_23_15 C dX5_letWatchersLook_41 u_350 (in_23 hb) ?_
  refine r_iload_n C 1 dX5_letWatchersLook_44 rfl rfl ?_
  refine r_zald C dX5_letWatchersLook_45 (in_35 hb) (contW_35 g _ _ _ _ _) (fun h9 => ?_)
  refine r_if_ne (tgt := 52) C dX5_letWatchersLook_46 (by decide) (fun h10 => ?_) (fun h10 => ?_)
  · refine r_goto (tgt := 148) C dX5_letWatchersLook_49 (by decide) ?_
    refine r_iinc (c := (-1)) (lv' := fun v34 => [(1, .int v34), (0, .ref (gA g 23 b 0))]) C 1 dX5_letWatchersLook_148 rfl (by decide) (by decide) (fun _ => rfl) (fun v34 => ?_)
    refine r_goto (tgt := 10) C dX5_letWatchersLook_151 (by decide) ?_
    refine r_lv [1, 0] rfl ?_
    exact hk10 v34 M7
  · refine r_iconst (v := 0) C dX5_letWatchersLook_52 (by decide) ?_
    refine r_istore_n0 (lv' := [(2, .int 0), (0, .ref (gA g 23 b 0)), (1, .int l1)]) C dX5_letWatchersLook_53 rfl (by decide) rfl ?_
    refine r_lv [1, 2, 0] rfl ?_
    exact tl_X5_letWatchersLook_54 C hm hb k10 l1 hk10 FU 0 M7
set_option maxRecDepth 100000 in
set_option maxHeartbeats 4000000 in
theorem t_X5_letWatchersLook_10 {g : Gw} {x : Xw} (C : Cw g x cX5_letWatchersLook RX5 3 none 4) (hm : x.2.2.2.2.2.2.2.2.2.2.2 = (0, 0)) {b : Nat} (hb : b < 3) (k10 : Int32 → Mw → Option (Mw)) (hk10 : ∀ (l1 : Int32) (M : Mw), Sw g x (fun M : Mw => (none, M)) M 0 0 10 [(0, .ref (gA g 23 b 0)), (1, .int l1)] [] (k10 l1 M)) (l1 : Int32) (M : Mw) : Sw g x (fun M : Mw => (none, M)) M 0 0 10 [(0, .ref (gA g 23 b 0)), (1, .int l1)] [] (B_X5_letWatchersLook_10 b k10 l1 M) := by
  unfold B_X5_letWatchersLook_10
  refine r_iload_n C 1 dX5_letWatchersLook_10 rfl rfl ?_
  refine r_if_lt (tgt := 154) C dX5_letWatchersLook_11 (by decide) (fun h2 => ?_) (fun h2 => ?_)
  · exact r_vret C dX5_letWatchersLook_154 rfl rfl (xk0 hm) (xn0 hm)
  · refine r_aload_n C 0 dX5_letWatchersLook_14 rfl rfl ?_
    refine gf_23_8 C dX5_letWatchersLook_15 u_343 (in_23 hb) ?_
    refine r_if_ne (tgt := 154) C dX5_letWatchersLook_18 (by decide) (fun h3 => ?_) (fun h3 => ?_)
    · refine r_aload_n C 0 dX5_letWatchersLook_21 rfl rfl ?_
      refine gf_23_15 C dX5_letWatchersLook_22 u_350 (in_23 hb) ?_
      refine r_iload_n C 1 dX5_letWatchersLook_25 rfl rfl ?_
      refine r_aload_n C 0 dX5_letWatchersLook_26 rfl rfl ?_
      refine r_iload_n C 1 dX5_letWatchersLook_27 rfl rfl ?_
      refine r_callVRi (rest := [.int l1, .ref (gA g 35 b 0)]) C (c_X5_isAsleep hb l1 M) dX5_letWatchersLook_28 u_666 (in_23 hb) (contW_23 g _ _ _ _ _) rfl u_667 u_668 mi_X5_isAsleep (by decide) rfl rfl (Nat.le_of_ble_eq_true rfl) (xk1 hm (by decide)) (xn1 hm (by decide)) (fun v4 h5 => ?_)
      refine r_if_ne (tgt := 38) C dX5_letWatchersLook_31 (by decide) (fun h6 => ?_) (fun h6 => ?_)
      · refine r_iconst (v := 1) C dX5_letWatchersLook_34 (by decide) ?_
        refine r_goto (tgt := 39) C dX5_letWatchersLook_35 (by decide) ?_
        exact t_X5_letWatchersLook_39 C hm hb k10 l1 1 l1 hk10 M
      · refine r_iconst (v := 0) C dX5_letWatchersLook_38 (by decide) ?_
        exact t_X5_letWatchersLook_39 C hm hb k10 l1 0 l1 hk10 M
    · exact r_vret C dX5_letWatchersLook_154 rfl rfl (xk0 hm) (xn0 hm)
set_option maxRecDepth 100000 in
set_option maxHeartbeats 4000000 in
theorem tl_X5_letWatchersLook_10 {g : Gw} {x : Xw} (C : Cw g x cX5_letWatchersLook RX5 3 none 4) (hm : x.2.2.2.2.2.2.2.2.2.2.2 = (0, 0)) {b : Nat} (hb : b < 3) (n : Nat) : ∀ (l1 : Int32) (M : Mw), Sw g x (fun M : Mw => (none, M)) M 0 0 10 [(0, .ref (gA g 23 b 0)), (1, .int l1)] [] (it (fun _ _ => none) (B_X5_letWatchersLook_10 b) n l1 M) := by
  induction n with
  | zero =>
    intro l1 M
    exact r_none
  | succ n ih =>
    intro l1 M
    exact t_X5_letWatchersLook_10 C hm hb _ ih l1 M
set_option maxRecDepth 100000 in
set_option maxHeartbeats 4000000 in
theorem c_X5_letWatchersLook {g : Gw} {l : Launch} {b : Nat} (hb : b < 3) (M : Mw) : Kw g l yX5_letWatchersLook cX5_letWatchersLook 3 none 4 0 0 [.ref (gA g 23 b 0)] M (fun M : Mw => (none, M)) (F_X5_letWatchersLook b M) := by
  refine Kw.of (own := RX5) (lv0 := [(0, .ref (gA g 23 b 0))]) (by decide +kernel) rfl (Nat.le_of_ble_eq_true rfl) rfl (fun x C hl hm => ?_)
  subst hl
  unfold F_X5_letWatchersLook
  refine r_aload_n C 0 dX5_letWatchersLook_0 rfl rfl ?_
  refine gf_23_0 C dX5_letWatchersLook_1 u_328 (in_23 hb) ?_
  refine gf_0_4 C dX5_letWatchersLook_4 u_198 (in_0 (lt85 hb)) ?_
  refine r_iconst (v := 1) C dX5_letWatchersLook_7 (by decide) ?_
  refine r_isub C dX5_letWatchersLook_8 ?_
  refine r_istore_n (lv' := fun v1 => [(1, .int v1), (0, .ref (gA g 23 b 0))]) C dX5_letWatchersLook_9 rfl (by decide) (fun _ => rfl) (fun v1 => ?_)
  refine r_lv [1, 0] rfl ?_
  exact tl_X5_letWatchersLook_10 C hm hb FU v1 M
def F_X5_askDog (b : Nat) (M : Mw) : Option (Mw) :=
  (if (M.1 23 b 0 8) = 0 then (if (M.1 0 (b + 5) 0 4) ≤ 0 then some M else (if (M.1 35 b 0 0) = 0 then ((F_X4_add b (M.1 23 b 0 6) 7 0 3 M).bind (fun M4 => ((F_X5_climb b 3 (-1) 0 M4).bind (fun M6 => some M6)))) else some M)) else some M)
set_option maxRecDepth 100000 in
set_option maxHeartbeats 4000000 in
theorem c_X5_askDog {g : Gw} {l : Launch} {b : Nat} (hb : b < 3) (M : Mw) : Kw g l yX5_askDog cX5_askDog 1 none 3 0 0 [.ref (gA g 23 b 0)] M (fun M : Mw => (none, M)) (F_X5_askDog b M) := by
  refine Kw.of (own := RX5) (lv0 := [(0, .ref (gA g 23 b 0))]) (by decide +kernel) rfl (Nat.le_of_ble_eq_true rfl) rfl (fun x C hl hm => ?_)
  subst hl
  unfold F_X5_askDog
  refine r_aload_n C 0 dX5_askDog_0 rfl rfl ?_
  refine gf_23_8 C dX5_askDog_1 u_343 (in_23 hb) ?_
  refine r_if_ne (tgt := 48) C dX5_askDog_4 (by decide) (fun h1 => ?_) (fun h1 => ?_)
  · refine r_aload_n C 0 dX5_askDog_7 rfl rfl ?_
    refine gf_23_0 C dX5_askDog_8 u_328 (in_23 hb) ?_
    refine gf_0_4 C dX5_askDog_11 u_198 (in_0 (lt85 hb)) ?_
    refine r_if_le (tgt := 48) C dX5_askDog_14 (by decide) (fun h2 => ?_) (fun h2 => ?_)
    · exact r_vret C dX5_askDog_48 rfl rfl (xk0 hm) (xn0 hm)
    · refine r_aload_n C 0 dX5_askDog_17 rfl rfl ?_
      refine gf_23_15 C dX5_askDog_18 u_350 (in_23 hb) ?_
      refine r_iconst (v := 0) C dX5_askDog_21 (by decide) ?_
      refine r_zaldc C dX5_askDog_22 (in_35 hb) (contW_35 g _ _ _ _ _) (by decide) (j := 0) (by decide) ?_
      refine r_if_ne (tgt := 48) C dX5_askDog_23 (by decide) (fun h3 => ?_) (fun h3 => ?_)
      · refine r_aload_n C 0 dX5_askDog_26 rfl rfl ?_
        refine gf_23_2 C dX5_askDog_27 u_333 (in_23 hb) ?_
        refine r_aload_n C 0 dX5_askDog_30 rfl rfl ?_
        refine gf_23_6 C dX5_askDog_31 u_341 (in_23 hb) ?_
        refine r_bipush (v := 7) C dX5_askDog_34 (by decide) ?_
        refine r_iconst (v := 0) C dX5_askDog_36 (by decide) ?_
        refine r_iconst (v := 3) C dX5_askDog_37 (by decide) ?_
        refine r_callVU (rest := []) C (c_X4_add hb (M.1 23 b 0 6) 7 0 3 M) dX5_askDog_38 u_632 (in_26 hb) (contW_26 g _ _ _ _ _) rfl u_633 u_634 mi_X4_add (by decide) rfl rfl (Nat.le_of_ble_eq_true rfl) (xk1 hm (by decide)) (xn1 hm (by decide)) (fun M4 h5 => ?_)
        refine r_aload_n C 0 dX5_askDog_41 rfl rfl ?_
        refine r_iconst (v := 3) C dX5_askDog_42 (by decide) ?_
        refine r_iconst (v := (-1)) C dX5_askDog_43 (by decide) ?_
        refine r_iconst (v := 0) C dX5_askDog_44 (by decide) ?_
        refine r_callVU (rest := []) C (c_X5_climb hb 3 (-1) 0 M4) dX5_askDog_45 u_636 (in_23 hb) (contW_23 g _ _ _ _ _) rfl u_637 u_26 mi_X5_climb (by decide) rfl rfl (Nat.le_of_ble_eq_true rfl) (xk1 hm (by decide)) (xn1 hm (by decide)) (fun M6 h7 => ?_)
        exact r_vret C dX5_askDog_48 rfl rfl (xk0 hm) (xn0 hm)
      · exact r_vret C dX5_askDog_48 rfl rfl (xk0 hm) (xn0 hm)
  · exact r_vret C dX5_askDog_48 rfl rfl (xk0 hm) (xn0 hm)
def F_X7_endCycle (b : Nat) (i : Nat) (M : Mw) : Option (Mw) :=
  (if (M.1 25 b i 9) = 0 then (if (M.1 25 b i 7) = 0 then some M else (bd (uIw M 25 b i 8 ((M.1 25 b i 8) + 1)) (fun M3 => (if (M3.1 25 b i 8) = 3 then (bd (uIw M3 25 b i 7 ((M3.1 25 b i 7) - 1)) (fun M5 => (bd (uIw M5 25 b i 8 0) (fun M6 => some M6)))) else some M3)))) else some M)
set_option maxRecDepth 100000 in
set_option maxHeartbeats 4000000 in
theorem c_X7_endCycle {g : Gw} {l : Launch} {b : Nat} (hb : b < 3) {i : Nat} (hi : i < 5) (M : Mw) : Kw g l yX7_endCycle cX7_endCycle 1 none 1 0 0 [.ref (gA g 25 b i)] M (fun M : Mw => (none, M)) (F_X7_endCycle b i M) := by
  refine Kw.of (own := RX7) (lv0 := [(0, .ref (gA g 25 b i))]) (by decide +kernel) rfl (Nat.le_of_ble_eq_true rfl) rfl (fun x C hl hm => ?_)
  subst hl
  unfold F_X7_endCycle
  refine r_aload_n C 0 dX7_endCycle_0 rfl rfl ?_
  refine gf_25_9 C dX7_endCycle_1 u_312 (in_25 hb hi) ?_
  refine r_if_ne (tgt := 14) C dX7_endCycle_4 (by decide) (fun h1 => ?_) (fun h1 => ?_)
  · refine r_aload_n C 0 dX7_endCycle_7 rfl rfl ?_
    refine gf_25_7 C dX7_endCycle_8 u_308 (in_25 hb hi) ?_
    refine r_if_ne (tgt := 15) C dX7_endCycle_11 (by decide) (fun h2 => ?_) (fun h2 => ?_)
    · exact r_vret C dX7_endCycle_14 rfl rfl (xk0 hm) (xn0 hm)
    · refine r_aload_n C 0 dX7_endCycle_15 rfl rfl ?_
      refine r_dup C rfl dX7_endCycle_16 ?_
      refine gf_25_8 C dX7_endCycle_17 u_311 (in_25 hb hi) ?_
      refine r_iconst (v := 1) C dX7_endCycle_20 (by decide) ?_
      refine r_iadd C dX7_endCycle_21 ?_
      refine pf_25_8 C dX7_endCycle_22 u_311 (in_25 hb hi) (fun M3 => ?_)
      refine r_aload_n C 0 dX7_endCycle_25 rfl rfl ?_
      refine gf_25_8 C dX7_endCycle_26 u_311 (in_25 hb hi) ?_
      refine r_iconst (v := 3) C dX7_endCycle_29 (by decide) ?_
      refine r_icmp_ne (tgt := 48) C dX7_endCycle_30 (by decide) (fun h4 => ?_) (fun h4 => ?_)
      · refine r_aload_n C 0 dX7_endCycle_33 rfl rfl ?_
        refine r_dup C rfl dX7_endCycle_34 ?_
        refine gf_25_7 C dX7_endCycle_35 u_308 (in_25 hb hi) ?_
        refine r_iconst (v := 1) C dX7_endCycle_38 (by decide) ?_
        refine r_isub C dX7_endCycle_39 ?_
        refine pf_25_7 C dX7_endCycle_40 u_308 (in_25 hb hi) (fun M5 => ?_)
        refine r_aload_n C 0 dX7_endCycle_43 rfl rfl ?_
        refine r_iconst (v := 0) C dX7_endCycle_44 (by decide) ?_
        refine pf_25_8 C dX7_endCycle_45 u_311 (in_25 hb hi) (fun M6 => ?_)
        exact r_vret C dX7_endCycle_48 rfl rfl (xk0 hm) (xn0 hm)
      · exact r_vret C dX7_endCycle_48 rfl rfl (xk0 hm) (xn0 hm)
  · exact r_vret C dX7_endCycle_14 rfl rfl (xk0 hm) (xn0 hm)
