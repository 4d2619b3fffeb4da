def B_X10_looks_168 (k108 : Int32 → Mw → Option (Mw)) (l1 : Int32) (l2 : Int32) (l4 : Int32) (s0 : Int32) (M : Mw) : Option (Mw) :=
  (if inb l4 3 then (bd (uIw M 85 0 0 l4.toNatClampNeg (vp_nar .boolean 1)) (fun M14 => ((F_X10_records l2 6 l4 s0 M14).bind (fun M16 => ((F_X10_climbs s0 (-1) l4 l2 M16).bind (fun M18 => (bd (l4 + 1) (fun v20 => (k108 v20 M18))))))))) else none)
def B_X10_looks_108 (l1 : Int32) (l2 : Int32) (k108 : Int32 → Mw → Option (Mw)) (l4 : Int32) (M : Mw) : Option (Mw) :=
  (if (M.1 51 0 0 3) ≤ l4 then some M else (if (M.1 50 0 0 58) = 0 then (if inb (8 + l4) 201 then (if (M.1 51 0 0 (8 + l4).toNatClampNeg) = l1 then (if inb l4 3 then (if (M.1 86 0 0 l4.toNatClampNeg) = 0 then (if inb l4 3 then (if (M.1 85 0 0 l4.toNatClampNeg) = 0 then (B_X10_looks_168 k108 l1 l2 l4 2 M) else (B_X10_looks_168 k108 l1 l2 l4 3 M)) else none) else (bd (l4 + 1) (fun v21 => (k108 v21 M)))) else none) else (bd (l4 + 1) (fun v9 => (k108 v9 M)))) else none) else some M))
def B_X10_looks_105 (l1 : Int32) (l2 : Int32) (M : Mw) : Option (Mw) :=
  (it (fun _ _ => none) (B_X10_looks_108 l1 l2) FU 0 M)
def B_X10_looks_21 (l1 : Int32) (l2 : Int32) (l3 : Int32) (k21 : Int32 → Mw → Option (Mw)) (l4 : Int32) (M : Mw) : Option (Mw) :=
  (if (M.1 51 0 0 4) ≤ l4 then (B_X10_looks_105 l1 l2 M) else (if (M.1 50 0 0 58) = 0 then ((F_X10_toldOf l4 0 M).bind (fun v23 => (if v23 = l1 then (if inb l4 5 then (if l3 < (M.1 64 0 0 l4.toNatClampNeg) then (bd (l4 + 1) (fun v29 => (k21 v29 M))) else (if inb l4 5 then ((F_X10_toldOf l4 4 M).bind (fun v31 => ((F_X10_toldOf l4 5 M).bind (fun v33 => ((F_X10_in (((M.1 72 0 0 l4.toNatClampNeg)).toInt64) ((v31).toInt64) ((v33).toInt64) M).bind (fun v35 => (if v35 = 0 then ((F_X10_faultOf l4 5 l2 M).bind (fun M39 => (bd (l4 + 1) (fun v41 => (k21 v41 M39))))) else (bd (l4 + 1) (fun v38 => (k21 v38 M)))))))))) else none)) else none) else (bd (l4 + 1) (fun v26 => (k21 v26 M)))))) else (B_X10_looks_105 l1 l2 M)))
def F_X10_looks (p1 : Int32) (p2 : Int32) (M : Mw) : Option (Mw) :=
  (bd ((p2 + 1) - (M.1 51 0 0 1)) (fun v1 => (if inb p1 3 then (bd (uIw M 86 0 0 p1.toNatClampNeg (vp_nar .boolean 1)) (fun M2 => (it (fun _ _ => none) (B_X10_looks_21 p1 p2 v1) FU 0 M2))) else none)))
set_option maxRecDepth 100000 in
set_option maxHeartbeats 4000000 in
theorem t_X10_looks_168 {g : Gw} {x : Xw} (C : Cw g x cX10_looks RX10 6 none 7) (hm : x.2.2.2.2.2.2.2.2.2.2.2 = (0, 0)) (k108 : Int32 → Mw → Option (Mw)) (l1 : Int32) (l2 : Int32) (l4 : Int32) (s0 : Int32) (hk108 : ∀ (l4 : Int32) (M : Mw), Sw g x (fun M : Mw => (none, M)) M 0 0 108 [(0, .ref (gA g 50 0 0)), (1, .int l1), (2, .int l2), (4, .int l4)] [] (k108 l4 M)) (M : Mw) : Sw g x (fun M : Mw => (none, M)) M 0 0 168 [(0, .ref (gA g 50 0 0)), (1, .int l1), (2, .int l2), (4, .int l4)] [.int s0] (B_X10_looks_168 k108 l1 l2 l4 s0 M) := by
  unfold B_X10_looks_168
  refine r_istore0 (lv' := [(5, .int s0), (0, .ref (gA g 50 0 0)), (1, .int l1), (2, .int l2), (4, .int l4)]) C dX10_looks_168 (by decide) rfl ?_
  refine r_aload_n C 1 dX10_looks_170 rfl rfl ?_
  refine gf_50_49 C dX10_looks_171 u_1154 in_50 ?_
  refine r_iload C 4 dX10_looks_174 rfl ?_
  refine r_iconst (v := 1) C dX10_looks_176 (by decide) ?_
  refine r_zast C dX10_looks_177 in_85 (contW_85 g _ _) (fun M14 h15 => ?_)
  refine r_aload_n C 1 dX10_looks_178 rfl rfl ?_
  refine r_iload_n C 3 dX10_looks_179 rfl rfl ?_
  refine r_bipush (v := 6) C dX10_looks_180 (by decide) ?_
  refine r_iload C 4 dX10_looks_182 rfl ?_
  refine r_iload C 0 dX10_looks_184 rfl ?_
  refine r_callVU (rest := []) C (c_X10_records l2 6 l4 s0 M14) dX10_looks_186 u_1458 in_50 (contW_50 g _ _ _ _ _) rfl u_1459 u_102 mi_X10_records (by decide) rfl rfl (Nat.le_of_ble_eq_true rfl) (xk1 hm (by decide)) (xn1 hm (by decide)) (fun M16 h17 => ?_)
  refine r_aload_n C 1 dX10_looks_189 rfl rfl ?_
  refine r_iload C 0 dX10_looks_190 rfl ?_
  refine r_iconst (v := (-1)) C dX10_looks_192 (by decide) ?_
  refine r_iload C 4 dX10_looks_193 rfl ?_
  refine r_iload_n C 3 dX10_looks_195 rfl rfl ?_
  refine r_callVU (rest := []) C (c_X10_climbs s0 (-1) l4 l2 M16) dX10_looks_196 u_1461 in_50 (contW_50 g _ _ _ _ _) rfl u_1462 u_103 mi_X10_climbs (by decide) rfl rfl (Nat.le_of_ble_eq_true rfl) (xk1 hm (by decide)) (xn1 hm (by decide)) (fun M18 h19 => ?_)
  refine r_iinc (c := 1) (lv' := fun v20 => [(4, .int v20), (5, .int s0), (0, .ref (gA g 50 0 0)), (1, .int l1), (2, .int l2)]) C 4 dX10_looks_199 rfl (by decide) (by decide) (fun _ => rfl) (fun v20 => ?_)
  refine r_goto (tgt := 108) C dX10_looks_202 (by decide) ?_
  refine r_lv [2, 3, 4, 0] rfl ?_
  exact hk108 v20 M18
set_option maxRecDepth 100000 in
set_option maxHeartbeats 4000000 in
theorem t_X10_looks_108 {g : Gw} {x : Xw} (C : Cw g x cX10_looks RX10 6 none 7) (hm : x.2.2.2.2.2.2.2.2.2.2.2 = (0, 0)) (l1 : Int32) (l2 : Int32) (k108 : Int32 → Mw → Option (Mw)) (hk108 : ∀ (l4 : Int32) (M : Mw), Sw g x (fun M : Mw => (none, M)) M 0 0 108 [(0, .ref (gA g 50 0 0)), (1, .int l1), (2, .int l2), (4, .int l4)] [] (k108 l4 M)) (l4 : Int32) (M : Mw) : Sw g x (fun M : Mw => (none, M)) M 0 0 108 [(0, .ref (gA g 50 0 0)), (1, .int l1), (2, .int l2), (4, .int l4)] [] (B_X10_looks_108 l1 l2 k108 l4 M) := by
  unfold B_X10_looks_108
  refine r_iload C 3 dX10_looks_108 rfl ?_
  refine r_aload_n C 0 dX10_looks_110 rfl rfl ?_
  refine gf_50_1 C dX10_looks_111 u_1106 in_50 ?_
  refine r_iconst (v := 3) C dX10_looks_114 (by decide) ?_
  refine r_ialdc C dX10_looks_115 in_51 (contW_51 g _ _ _ _ _) (by decide) (j := 3) (by decide) ?_
  refine r_icmp_ge (tgt := 205) C dX10_looks_116 (by decide) (fun h5 => ?_) (fun h5 => ?_)
  · exact r_vret C dX10_looks_205 rfl rfl (xk0 hm) (xn0 hm)
  · refine r_aload_n C 0 dX10_looks_119 rfl rfl ?_
    refine gf_50_58 C dX10_looks_120 u_1163 in_50 ?_
    refine r_if_ne (tgt := 205) C dX10_looks_123 (by decide) (fun h6 => ?_) (fun h6 => ?_)
    · refine r_aload_n C 0 dX10_looks_126 rfl rfl ?_
      refine gf_50_1 C dX10_looks_127 u_1106 in_50 ?_
      refine r_bipush (v := 8) C dX10_looks_130 (by decide) ?_
      refine r_iload C 3 dX10_looks_132 rfl ?_
      refine r_iadd C dX10_looks_134 ?_
      refine r_iald C dX10_looks_135 in_51 (contW_51 g _ _ _ _ _) (fun h7 => ?_)
      refine r_iload_n C 1 dX10_looks_136 rfl rfl ?_
      refine r_icmp_ne (tgt := 199) C dX10_looks_137 (by decide) (fun h8 => ?_) (fun h8 => ?_)
      · refine r_aload_n C 0 dX10_looks_140 rfl rfl ?_
        refine gf_50_50 C dX10_looks_141 u_1155 in_50 ?_
        refine r_iload C 3 dX10_looks_144 rfl ?_
        refine r_zald C dX10_looks_146 in_86 (contW_86 g _ _ _ _ _) (fun h10 => ?_)
        refine r_if_eq (tgt := 153) C dX10_looks_147 (by decide) (fun h11 => ?_) (fun h11 => ?_)
        · refine r_aload_n C 0 dX10_looks_153 rfl rfl ?_
          refine gf_50_49 C dX10_looks_154 u_1154 in_50 ?_
          refine r_iload C 3 dX10_looks_157 rfl ?_
          refine r_zald C dX10_looks_159 in_85 (contW_85 g _ _ _ _ _) (fun h12 => ?_)
          refine r_if_eq (tgt := 167) C dX10_looks_160 (by decide) (fun h13 => ?_) (fun h13 => ?_)
          · refine r_iconst (v := 2) C dX10_looks_167 (by decide) ?_
            exact t_X10_looks_168 C hm k108 l1 l2 l4 2 hk108 M
          · refine r_iconst (v := 3) C dX10_looks_163 (by decide) ?_
            refine r_goto (tgt := 168) C dX10_looks_164 (by decide) ?_
            exact t_X10_looks_168 C hm k108 l1 l2 l4 3 hk108 M
        · refine r_goto (tgt := 199) C dX10_looks_150 (by decide) ?_
          refine r_iinc (c := 1) (lv' := fun v21 => [(4, .int v21), (0, .ref (gA g 50 0 0)), (1, .int l1), (2, .int l2)]) C 3 dX10_looks_199 rfl (by decide) (by decide) (fun _ => rfl) (fun v21 => ?_)
          refine r_goto (tgt := 108) C dX10_looks_202 (by decide) ?_
          refine r_lv [1, 2, 3, 0] rfl ?_
          exact hk108 v21 M
      · refine r_iinc (c := 1) (lv' := fun v9 => [(4, .int v9), (0, .ref (gA g 50 0 0)), (1, .int l1), (2, .int l2)]) C 3 dX10_looks_199 rfl (by decide) (by decide) (fun _ => rfl) (fun v9 => ?_)
        refine r_goto (tgt := 108) C dX10_looks_202 (by decide) ?_
        refine r_lv [1, 2, 3, 0] rfl ?_
        exact hk108 v9 M
    · exact r_vret C dX10_looks_205 rfl rfl (xk0 hm) (xn0 hm)
set_option maxRecDepth 100000 in
set_option maxHeartbeats 4000000 in
theorem tl_X10_looks_108 {g : Gw} {x : Xw} (C : Cw g x cX10_looks RX10 6 none 7) (hm : x.2.2.2.2.2.2.2.2.2.2.2 = (0, 0)) (l1 : Int32) (l2 : Int32) (n : Nat) : ∀ (l4 : Int32) (M : Mw), Sw g x (fun M : Mw => (none, M)) M 0 0 108 [(0, .ref (gA g 50 0 0)), (1, .int l1), (2, .int l2), (4, .int l4)] [] (it (fun _ _ => none) (B_X10_looks_108 l1 l2) n l4 M) := by
  induction n with
  | zero =>
    intro l4 M
    exact r_none
  | succ n ih =>
    intro l4 M
    exact t_X10_looks_108 C hm l1 l2 _ ih l4 M
set_option maxRecDepth 100000 in
set_option maxHeartbeats 4000000 in
theorem t_X10_looks_105 {g : Gw} {x : Xw} (C : Cw g x cX10_looks RX10 6 none 7) (hm : x.2.2.2.2.2.2.2.2.2.2.2 = (0, 0)) (l1 : Int32) (l2 : Int32) (M : Mw) : Sw g x (fun M : Mw => (none, M)) M 0 0 105 [(0, .ref (gA g 50 0 0)), (1, .int l1), (2, .int l2)] [] (B_X10_looks_105 l1 l2 M) := by
  unfold B_X10_looks_105
  refine r_iconst (v := 0) C dX10_looks_105 (by decide) ?_
  refine r_istore0 (lv' := [(4, .int 0), (0, .ref (gA g 50 0 0)), (1, .int l1), (2, .int l2)]) C dX10_looks_106 (by decide) rfl ?_
  refine r_lv [1, 2, 3, 0] rfl ?_
  exact tl_X10_looks_108 C hm l1 l2 FU 0 M
set_option maxRecDepth 100000 in
set_option maxHeartbeats 4000000 in
theorem t_X10_looks_21 {g : Gw} {x : Xw} (C : Cw g x cX10_looks RX10 6 none 7) (hm : x.2.2.2.2.2.2.2.2.2.2.2 = (0, 0)) (l1 : Int32) (l2 : Int32) (l3 : Int32) (k21 : Int32 → Mw → Option (Mw)) (hk21 : ∀ (l4 : Int32) (M : Mw), Sw g x (fun M : Mw => (none, M)) M 0 0 21 [(0, .ref (gA g 50 0 0)), (1, .int l1), (2, .int l2), (3, .int l3), (4, .int l4)] [] (k21 l4 M)) (l4 : Int32) (M : Mw) : Sw g x (fun M : Mw => (none, M)) M 0 0 21 [(0, .ref (gA g 50 0 0)), (1, .int l1), (2, .int l2), (3, .int l3), (4, .int l4)] [] (B_X10_looks_21 l1 l2 l3 k21 l4 M) := by
  unfold B_X10_looks_21
  refine r_iload C 4 dX10_looks_21 rfl ?_
  refine r_aload_n C 0 dX10_looks_23 rfl rfl ?_
  refine gf_50_1 C dX10_looks_24 u_1106 in_50 ?_
  refine r_iconst (v := 4) C dX10_looks_27 (by decide) ?_
  refine r_ialdc C dX10_looks_28 in_51 (contW_51 g _ _ _ _ _) (by decide) (j := 4) (by decide) ?_
  refine r_icmp_ge (tgt := 105) C dX10_looks_29 (by decide) (fun h4 => ?_) (fun h4 => ?_)
  · refine r_lv [0, 1, 2] rfl ?_
    exact t_X10_looks_105 C hm l1 l2 M
  · refine r_aload_n C 0 dX10_looks_32 rfl rfl ?_
    refine gf_50_58 C dX10_looks_33 u_1163 in_50 ?_
    refine r_if_ne (tgt := 105) C dX10_looks_36 (by decide) (fun h22 => ?_) (fun h22 => ?_)
    · refine r_aload_n C 0 dX10_looks_39 rfl rfl ?_
      refine r_iload C 4 dX10_looks_40 rfl ?_
      refine r_iconst (v := 0) C dX10_looks_42 (by decide) ?_
      refine r_callVRi (rest := []) C (c_X10_toldOf l4 0 M) dX10_looks_43 u_1270 in_50 (contW_50 g _ _ _ _ _) rfl u_1271 u_67 mi_X10_toldOf (by decide) rfl rfl (Nat.le_of_ble_eq_true rfl) (xk1 hm (by decide)) (xn1 hm (by decide)) (fun v23 h24 => ?_)
      refine r_iload_n C 1 dX10_looks_46 rfl rfl ?_
      refine r_icmp_ne (tgt := 99) C dX10_looks_47 (by decide) (fun h25 => ?_) (fun h25 => ?_)
      · refine r_aload_n C 0 dX10_looks_50 rfl rfl ?_
        refine gf_50_28 C dX10_looks_51 u_1133 in_50 ?_
        refine r_iload C 4 dX10_looks_54 rfl ?_
        refine r_iald C dX10_looks_56 in_64 (contW_64 g _ _ _ _ _) (fun h27 => ?_)
        refine r_iload_n C 3 dX10_looks_57 rfl rfl ?_
        refine r_icmp_gt (tgt := 99) C dX10_looks_58 (by decide) (fun h28 => ?_) (fun h28 => ?_)
        · refine r_iinc (c := 1) (lv' := fun v29 => [(4, .int v29), (0, .ref (gA g 50 0 0)), (1, .int l1), (2, .int l2), (3, .int l3)]) C 4 dX10_looks_99 rfl (by decide) (by decide) (fun _ => rfl) (fun v29 => ?_)
          refine r_goto (tgt := 21) C dX10_looks_102 (by decide) ?_
          refine r_lv [1, 2, 3, 4, 0] rfl ?_
          exact hk21 v29 M
        · refine r_aload_n C 0 dX10_looks_61 rfl rfl ?_
          refine gf_50_36 C dX10_looks_62 u_1141 in_50 ?_
          refine r_iload C 4 dX10_looks_65 rfl ?_
          refine r_iald C dX10_looks_67 in_72 (contW_72 g _ _ _ _ _) (fun h30 => ?_)
          refine r_i2l C dX10_looks_68 ?_
          refine r_aload_n C 0 dX10_looks_69 rfl rfl ?_
          refine r_iload C 4 dX10_looks_70 rfl ?_
          refine r_iconst (v := 4) C dX10_looks_72 (by decide) ?_
          refine r_callVRi (rest := [.long (((M.1 72 0 0 l4.toNatClampNeg)).toInt64)]) C (c_X10_toldOf l4 4 M) dX10_looks_73 u_1270 in_50 (contW_50 g _ _ _ _ _) rfl u_1271 u_67 mi_X10_toldOf (by decide) rfl rfl (Nat.le_of_ble_eq_true rfl) (xk1 hm (by decide)) (xn1 hm (by decide)) (fun v31 h32 => ?_)
          refine r_i2l C dX10_looks_76 ?_
          refine r_aload_n C 0 dX10_looks_77 rfl rfl ?_
          refine r_iload C 4 dX10_looks_78 rfl ?_
          refine r_iconst (v := 5) C dX10_looks_80 (by decide) ?_
          refine r_callVRi (rest := [.long ((v31).toInt64), .long (((M.1 72 0 0 l4.toNatClampNeg)).toInt64)]) C (c_X10_toldOf l4 5 M) dX10_looks_81 u_1270 in_50 (contW_50 g _ _ _ _ _) rfl u_1271 u_67 mi_X10_toldOf (by decide) rfl rfl (Nat.le_of_ble_eq_true rfl) (xk1 hm (by decide)) (xn1 hm (by decide)) (fun v33 h34 => ?_)
          refine r_i2l C dX10_looks_84 ?_
          refine r_callSRi (rest := []) C (c_X10_in (((M.1 72 0 0 l4.toNatClampNeg)).toInt64) ((v31).toInt64) ((v33).toInt64) M) dX10_looks_85 u_1174 u_1175 mi_X10_in (by decide) rfl rfl (Nat.le_of_ble_eq_true rfl) (xk1 hm (by decide)) (xn1 hm (by decide)) (fun v35 h36 => ?_)
          refine r_if_ne (tgt := 99) C dX10_looks_88 (by decide) (fun h37 => ?_) (fun h37 => ?_)
          · refine r_aload_n C 0 dX10_looks_91 rfl rfl ?_
            refine r_iload C 4 dX10_looks_92 rfl ?_
            refine r_iconst (v := 5) C dX10_looks_94 (by decide) ?_
            refine r_iload_n C 2 dX10_looks_95 rfl rfl ?_
            refine r_callVU (rest := []) C (c_X10_faultOf l4 5 l2 M) dX10_looks_96 u_1454 in_50 (contW_50 g _ _ _ _ _) rfl u_1455 u_101 mi_X10_faultOf (by decide) rfl rfl (Nat.le_of_ble_eq_true rfl) (xk1 hm (by decide)) (xn1 hm (by decide)) (fun M39 h40 => ?_)
            refine r_iinc (c := 1) (lv' := fun v41 => [(4, .int v41), (0, .ref (gA g 50 0 0)), (1, .int l1), (2, .int l2), (3, .int l3)]) C 4 dX10_looks_99 rfl (by decide) (by decide) (fun _ => rfl) (fun v41 => ?_)
            refine r_goto (tgt := 21) C dX10_looks_102 (by decide) ?_
            refine r_lv [1, 2, 3, 4, 0] rfl ?_
            exact hk21 v41 M39
          · refine r_iinc (c := 1) (lv' := fun v38 => [(4, .int v38), (0, .ref (gA g 50 0 0)), (1, .int l1), (2, .int l2), (3, .int l3)]) C 4 dX10_looks_99 rfl (by decide) (by decide) (fun _ => rfl) (fun v38 => ?_)
            refine r_goto (tgt := 21) C dX10_looks_102 (by decide) ?_
            refine r_lv [1, 2, 3, 4, 0] rfl ?_
            exact hk21 v38 M
      · refine r_iinc (c := 1) (lv' := fun v26 => [(4, .int v26), (0, .ref (gA g 50 0 0)), (1, .int l1), (2, .int l2), (3, .int l3)]) C 4 dX10_looks_99 rfl (by decide) (by decide) (fun _ => rfl) (fun v26 => ?_)
        refine r_goto (tgt := 21) C dX10_looks_102 (by decide) ?_
        refine r_lv [1, 2, 3, 4, 0] rfl ?_
        exact hk21 v26 M
    · refine r_lv [0, 1, 2] rfl ?_
      exact t_X10_looks_105 C hm l1 l2 M
set_option maxRecDepth 100000 in
set_option maxHeartbeats 4000000 in
theorem tl_X10_looks_21 {g : Gw} {x : Xw} (C : Cw g x cX10_looks RX10 6 none 7) (hm : x.2.2.2.2.2.2.2.2.2.2.2 = (0, 0)) (l1 : Int32) (l2 : Int32) (l3 : Int32) (n : Nat) : ∀ (l4 : Int32) (M : Mw), Sw g x (fun M : Mw => (none, M)) M 0 0 21 [(0, .ref (gA g 50 0 0)), (1, .int l1), (2, .int l2), (3, .int l3), (4, .int l4)] [] (it (fun _ _ => none) (B_X10_looks_21 l1 l2 l3) n l4 M) := by
  induction n with
  | zero =>
    intro l4 M
    exact r_none
  | succ n ih =>
    intro l4 M
    exact t_X10_looks_21 C hm l1 l2 l3 _ ih l4 M
set_option maxRecDepth 100000 in
set_option maxHeartbeats 4000000 in
theorem c_X10_looks {g : Gw} {l : Launch} (p1 : Int32) (p2 : Int32) (M : Mw) : Kw g l yX10_looks cX10_looks 6 none 7 0 0 [.ref (gA g 50 0 0), .int p1, .int p2] M (fun M : Mw => (none, M)) (F_X10_looks p1 p2 M) := by
  refine Kw.of (own := RX10) (lv0 := [(0, .ref (gA g 50 0 0)), (1, .int p1), (2, .int p2)]) (by decide +kernel) rfl (Nat.le_of_ble_eq_true rfl) rfl (fun x C hl hm => ?_)
  subst hl
  unfold F_X10_looks
  refine r_iload_n C 2 dX10_looks_0 rfl rfl ?_
  refine r_iconst (v := 1) C dX10_looks_1 (by decide) ?_
  refine r_iadd C dX10_looks_2 ?_
  refine r_aload_n C 0 dX10_looks_3 rfl rfl ?_
  refine gf_50_1 C dX10_looks_4 u_1106 in_50 ?_
  refine r_iconst (v := 1) C dX10_looks_7 (by decide) ?_
  refine r_ialdc C dX10_looks_8 in_51 (contW_51 g _ _ _ _ _) (by decide) (j := 1) (by decide) ?_
  refine r_isub C dX10_looks_9 ?_
  refine r_istore_n (lv' := fun v1 => [(3, .int v1), (0, .ref (gA g 50 0 0)), (1, .int p1), (2, .int p2)]) C dX10_looks_10 rfl (by decide) (fun _ => rfl) (fun v1 => ?_)
  refine r_aload_n C 1 dX10_looks_11 rfl rfl ?_
  refine gf_50_50 C dX10_looks_12 u_1155 in_50 ?_
  refine r_iload_n C 2 dX10_looks_15 rfl rfl ?_
  refine r_iconst (v := 1) C dX10_looks_16 (by decide) ?_
  refine r_zast C dX10_looks_17 in_86 (contW_86 g _ _) (fun M2 h3 => ?_)
  refine r_iconst (v := 0) C dX10_looks_18 (by decide) ?_
  refine r_istore0 (lv' := [(4, .int 0), (3, .int v1), (0, .ref (gA g 50 0 0)), (1, .int p1), (2, .int p2)]) C dX10_looks_19 (by decide) rfl ?_
  refine r_lv [2, 3, 4, 1, 0] rfl ?_
  exact tl_X10_looks_21 C hm p1 p2 v1 FU 0 M2
def B_X10_endsCycle_85 (k85 : Int32 → Mw → Option (Mw)) (l2 : Int32) (M : Mw) : Option (Mw) :=
  (if (M.1 51 0 0 4) ≤ l2 then some M else (if (M.1 50 0 0 58) = 0 then (if inb l2 5 then (if (M.1 76 0 0 l2.toNatClampNeg) = 0 then (if inb l2 5 then (if (M.1 73 0 0 l2.toNatClampNeg) = 0 then (bd (l2 + 1) (fun v23 => (k85 v23 M))) else (if inb l2 5 then (if inb l2 5 then (bd (uIw M 75 0 0 l2.toNatClampNeg ((M.1 75 0 0 l2.toNatClampNeg) + 1)) (fun M12 => (if inb l2 5 then (if 3 ≤ (M12.1 75 0 0 l2.toNatClampNeg) then (if inb l2 5 then (bd (uIw M12 75 0 0 l2.toNatClampNeg 0) (fun M16 => (if inb l2 5 then (if inb l2 5 then (bd (uIw M16 73 0 0 l2.toNatClampNeg ((M16.1 73 0 0 l2.toNatClampNeg) - 1)) (fun M19 => (bd (l2 + 1) (fun v21 => (k85 v21 M19))))) else none) else none))) else none) else (bd (l2 + 1) (fun v22 => (k85 v22 M12)))) else none))) else none) else none)) else none) else (bd (l2 + 1) (fun v8 => (k85 v8 M)))) else none) else some M))
def B_X10_endsCycle_83 (M : Mw) : Option (Mw) :=
  (it (fun _ _ => none) (B_X10_endsCycle_85) FU 0 M)
def B_X10_endsCycle_41 (l1 : Int32) (M : Mw) : Option (Mw) :=
  (if (M.1 50 0 0 58) = 0 then (if (M.1 51 0 0 3) ≤ 0 then (B_X10_endsCycle_83 M) else (if (M.1 86 0 0 0) = 0 then ((F_X10_records l1 7 0 3 M).bind (fun M26 => ((F_X10_climbs 3 (-1) (-1) l1 M26).bind (fun M28 => (B_X10_endsCycle_83 M28))))) else (B_X10_endsCycle_83 M))) else (B_X10_endsCycle_83 M))
def B_X10_endsCycle_9 (l1 : Int32) (k9 : Int32 → Mw → Option (Mw)) (l2 : Int32) (M : Mw) : Option (Mw) :=
  (if l2 < 0 then (B_X10_endsCycle_41 l1 M) else (if (M.1 50 0 0 58) = 0 then ((F_X10_isAsleep l2 l1 M).bind (fun v31 => (if v31 = 0 then ((F_X10_looks l2 l1 M).bind (fun M35 => (bd (l2 + (-1)) (fun v37 => (k9 v37 M35))))) else (bd (l2 + (-1)) (fun v34 => (k9 v34 M)))))) else (B_X10_endsCycle_41 l1 M)))
def F_X10_endsCycle (p1 : Int32) (M : Mw) : Option (Mw) :=
  (bd ((M.1 51 0 0 3) - 1) (fun v1 => (it (fun _ _ => none) (B_X10_endsCycle_9 p1) FU v1 M)))
set_option maxRecDepth 100000 in
set_option maxHeartbeats 4000000 in
theorem t_X10_endsCycle_85 {g : Gw} {x : Xw} (C : Cw g x cX10_endsCycle RX10 3 none 8) (hm : x.2.2.2.2.2.2.2.2.2.2.2 = (0, 0)) (k85 : Int32 → Mw → Option (Mw)) (hk85 : ∀ (l2 : Int32) (M : Mw), Sw g x (fun M : Mw => (none, M)) M 0 0 85 [(0, .ref (gA g 50 0 0)), (2, .int l2)] [] (k85 l2 M)) (l2 : Int32) (M : Mw) : Sw g x (fun M : Mw => (none, M)) M 0 0 85 [(0, .ref (gA g 50 0 0)), (2, .int l2)] [] (B_X10_endsCycle_85 k85 l2 M) := by
  unfold B_X10_endsCycle_85
  refine r_iload_n C 1 dX10_endsCycle_85 rfl rfl ?_
  refine r_aload_n C 0 dX10_endsCycle_86 rfl rfl ?_
  refine gf_50_1 C dX10_endsCycle_87 u_1106 in_50 ?_
  refine r_iconst (v := 4) C dX10_endsCycle_90 (by decide) ?_
  refine r_ialdc C dX10_endsCycle_91 in_51 (contW_51 g _ _ _ _ _) (by decide) (j := 4) (by decide) ?_
  refine r_icmp_ge (tgt := 169) C dX10_endsCycle_92 (by decide) (fun h4 => ?_) (fun h4 => ?_)
  · exact r_vret C dX10_endsCycle_169 rfl rfl (xk0 hm) (xn0 hm)
  · refine r_aload_n C 0 dX10_endsCycle_95 rfl rfl ?_
    refine gf_50_58 C dX10_endsCycle_96 u_1163 in_50 ?_
    refine r_if_ne (tgt := 169) C dX10_endsCycle_99 (by decide) (fun h5 => ?_) (fun h5 => ?_)
    · refine r_aload_n C 0 dX10_endsCycle_102 rfl rfl ?_
      refine gf_50_40 C dX10_endsCycle_103 u_1145 in_50 ?_
      refine r_iload_n C 1 dX10_endsCycle_106 rfl rfl ?_
      refine r_zald C dX10_endsCycle_107 in_76 (contW_76 g _ _ _ _ _) (fun h6 => ?_)
      refine r_if_ne (tgt := 163) C dX10_endsCycle_108 (by decide) (fun h7 => ?_) (fun h7 => ?_)
      · refine r_aload_n C 0 dX10_endsCycle_111 rfl rfl ?_
        refine gf_50_37 C dX10_endsCycle_112 u_1142 in_50 ?_
        refine r_iload_n C 1 dX10_endsCycle_115 rfl rfl ?_
        refine r_iald C dX10_endsCycle_116 in_73 (contW_73 g _ _ _ _ _) (fun h9 => ?_)
        refine r_if_ne (tgt := 123) C dX10_endsCycle_117 (by decide) (fun h10 => ?_) (fun h10 => ?_)
        · refine r_goto (tgt := 163) C dX10_endsCycle_120 (by decide) ?_
          refine r_iinc (c := 1) (lv' := fun v23 => [(2, .int v23), (0, .ref (gA g 50 0 0))]) C 1 dX10_endsCycle_163 rfl (by decide) (by decide) (fun _ => rfl) (fun v23 => ?_)
          refine r_goto (tgt := 85) C dX10_endsCycle_166 (by decide) ?_
          refine r_lv [1, 0] rfl ?_
          exact hk85 v23 M
        · refine r_aload_n C 0 dX10_endsCycle_123 rfl rfl ?_
          refine gf_50_39 C dX10_endsCycle_124 u_1144 in_50 ?_
          refine r_iload_n C 1 dX10_endsCycle_127 rfl rfl ?_
          refine r_dup2 C rfl rfl dX10_endsCycle_128 ?_
          refine r_iald C dX10_endsCycle_129 in_75 (contW_75 g _ _ _ _ _) (fun h11 => ?_)
          refine r_iconst (v := 1) C dX10_endsCycle_130 (by decide) ?_
          refine r_iadd C dX10_endsCycle_131 ?_
          refine r_iast C dX10_endsCycle_132 in_75 (contW_75 g _ _) (fun M12 h13 => ?_)
          refine r_aload_n C 0 dX10_endsCycle_133 rfl rfl ?_
          refine gf_50_39 C dX10_endsCycle_134 u_1144 in_50 ?_
          refine r_iload_n C 1 dX10_endsCycle_137 rfl rfl ?_
          refine r_iald C dX10_endsCycle_138 in_75 (contW_75 g _ _ _ _ _) (fun h14 => ?_)
          refine r_iconst (v := 3) C dX10_endsCycle_139 (by decide) ?_
          refine r_icmp_ge (tgt := 146) C dX10_endsCycle_140 (by decide) (fun h15 => ?_) (fun h15 => ?_)
          · refine r_aload_n C 0 dX10_endsCycle_146 rfl rfl ?_
            refine gf_50_39 C dX10_endsCycle_147 u_1144 in_50 ?_
            refine r_iload_n C 1 dX10_endsCycle_150 rfl rfl ?_
            refine r_iconst (v := 0) C dX10_endsCycle_151 (by decide) ?_
            refine r_iast C dX10_endsCycle_152 in_75 (contW_75 g _ _) (fun M16 h17 => ?_)
            refine r_aload_n C 0 dX10_endsCycle_153 rfl rfl ?_
            refine gf_50_37 C dX10_endsCycle_154 u_1142 in_50 ?_
            refine r_iload_n C 1 dX10_endsCycle_157 rfl rfl ?_
            refine r_dup2 C rfl rfl dX10_endsCycle_158 ?_
            refine r_iald C dX10_endsCycle_159 in_73 (contW_73 g _ _ _ _ _) (fun h18 => ?_)
            refine r_iconst (v := 1) C dX10_endsCycle_160 (by decide) ?_
            refine r_isub C dX10_endsCycle_161 ?_
            refine r_iast C dX10_endsCycle_162 in_73 (contW_73 g _ _) (fun M19 h20 => ?_)
            refine r_iinc (c := 1) (lv' := fun v21 => [(2, .int v21), (0, .ref (gA g 50 0 0))]) C 1 dX10_endsCycle_163 rfl (by decide) (by decide) (fun _ => rfl) (fun v21 => ?_)
            refine r_goto (tgt := 85) C dX10_endsCycle_166 (by decide) ?_
            refine r_lv [1, 0] rfl ?_
            exact hk85 v21 M19
          · refine r_goto (tgt := 163) C dX10_endsCycle_143 (by decide) ?_
            refine r_iinc (c := 1) (lv' := fun v22 => [(2, .int v22), (0, .ref (gA g 50 0 0))]) C 1 dX10_endsCycle_163 rfl (by decide) (by decide) (fun _ => rfl) (fun v22 => ?_)
            refine r_goto (tgt := 85) C dX10_endsCycle_166 (by decide) ?_
            refine r_lv [1, 0] rfl ?_
            exact hk85 v22 M12
      · refine r_iinc (c := 1) (lv' := fun v8 => [(2, .int v8), (0, .ref (gA g 50 0 0))]) C 1 dX10_endsCycle_163 rfl (by decide) (by decide) (fun _ => rfl) (fun v8 => ?_)
        refine r_goto (tgt := 85) C dX10_endsCycle_166 (by decide) ?_
        refine r_lv [1, 0] rfl ?_
        exact hk85 v8 M
    · exact r_vret C dX10_endsCycle_169 rfl rfl (xk0 hm) (xn0 hm)
set_option maxRecDepth 100000 in
set_option maxHeartbeats 4000000 in
theorem tl_X10_endsCycle_85 {g : Gw} {x : Xw} (C : Cw g x cX10_endsCycle RX10 3 none 8) (hm : x.2.2.2.2.2.2.2.2.2.2.2 = (0, 0)) (n : Nat) : ∀ (l2 : Int32) (M : Mw), Sw g x (fun M : Mw => (none, M)) M 0 0 85 [(0, .ref (gA g 50 0 0)), (2, .int l2)] [] (it (fun _ _ => none) (B_X10_endsCycle_85) n l2 M) := by
  induction n with
  | zero =>
    intro l2 M
    exact r_none
  | succ n ih =>
    intro l2 M
    exact t_X10_endsCycle_85 C hm _ ih l2 M
set_option maxRecDepth 100000 in
set_option maxHeartbeats 4000000 in
theorem t_X10_endsCycle_83 {g : Gw} {x : Xw} (C : Cw g x cX10_endsCycle RX10 3 none 8) (hm : x.2.2.2.2.2.2.2.2.2.2.2 = (0, 0)) (M : Mw) : Sw g x (fun M : Mw => (none, M)) M 0 0 83 [(0, .ref (gA g 50 0 0))] [] (B_X10_endsCycle_83 M) := by
  unfold B_X10_endsCycle_83
  refine r_iconst (v := 0) C dX10_endsCycle_83 (by decide) ?_
  refine r_istore_n0 (lv' := [(2, .int 0), (0, .ref (gA g 50 0 0))]) C dX10_endsCycle_84 rfl (by decide) rfl ?_
  refine r_lv [1, 0] rfl ?_
  exact tl_X10_endsCycle_85 C hm FU 0 M
set_option maxRecDepth 100000 in
set_option maxHeartbeats 4000000 in
theorem t_X10_endsCycle_41 {g : Gw} {x : Xw} (C : Cw g x cX10_endsCycle RX10 3 none 8) (hm : x.2.2.2.2.2.2.2.2.2.2.2 = (0, 0)) (l1 : Int32) (M : Mw) : Sw g x (fun M : Mw => (none, M)) M 0 0 41 [(0, .ref (gA g 50 0 0)), (1, .int l1)] [] (B_X10_endsCycle_41 l1 M) := by
  unfold B_X10_endsCycle_41
  refine r_aload_n C 0 dX10_endsCycle_41 rfl rfl ?_
  refine gf_50_58 C dX10_endsCycle_42 u_1163 in_50 ?_
  refine r_if_ne (tgt := 83) C dX10_endsCycle_45 (by decide) (fun h3 => ?_) (fun h3 => ?_)
  · refine r_aload_n C 0 dX10_endsCycle_48 rfl rfl ?_
    refine gf_50_1 C dX10_endsCycle_49 u_1106 in_50 ?_
    refine r_iconst (v := 3) C dX10_endsCycle_52 (by decide) ?_
    refine r_ialdc C dX10_endsCycle_53 in_51 (contW_51 g _ _ _ _ _) (by decide) (j := 3) (by decide) ?_
    refine r_if_le (tgt := 83) C dX10_endsCycle_54 (by decide) (fun h24 => ?_) (fun h24 => ?_)
    · refine r_lv [0] rfl ?_
      exact t_X10_endsCycle_83 C hm M
    · refine r_aload_n C 0 dX10_endsCycle_57 rfl rfl ?_
      refine gf_50_50 C dX10_endsCycle_58 u_1155 in_50 ?_
      refine r_iconst (v := 0) C dX10_endsCycle_61 (by decide) ?_
      refine r_zaldc C dX10_endsCycle_62 in_86 (contW_86 g _ _ _ _ _) (by decide) (j := 0) (by decide) ?_
      refine r_if_ne (tgt := 83) C dX10_endsCycle_63 (by decide) (fun h25 => ?_) (fun h25 => ?_)
      · refine r_aload_n C 0 dX10_endsCycle_66 rfl rfl ?_
        refine r_iload_n C 1 dX10_endsCycle_67 rfl rfl ?_
        refine r_bipush (v := 7) C dX10_endsCycle_68 (by decide) ?_
        refine r_iconst (v := 0) C dX10_endsCycle_70 (by decide) ?_
        refine r_iconst (v := 3) C dX10_endsCycle_71 (by decide) ?_
        refine r_callVU (rest := []) C (c_X10_records l1 7 0 3 M) dX10_endsCycle_72 u_1458 in_50 (contW_50 g _ _ _ _ _) rfl u_1459 u_102 mi_X10_records (by decide) rfl rfl (Nat.le_of_ble_eq_true rfl) (xk1 hm (by decide)) (xn1 hm (by decide)) (fun M26 h27 => ?_)
        refine r_aload_n C 0 dX10_endsCycle_75 rfl rfl ?_
        refine r_iconst (v := 3) C dX10_endsCycle_76 (by decide) ?_
        refine r_iconst (v := (-1)) C dX10_endsCycle_77 (by decide) ?_
        refine r_iconst (v := (-1)) C dX10_endsCycle_78 (by decide) ?_
        refine r_iload_n C 1 dX10_endsCycle_79 rfl rfl ?_
        refine r_callVU (rest := []) C (c_X10_climbs 3 (-1) (-1) l1 M26) dX10_endsCycle_80 u_1461 in_50 (contW_50 g _ _ _ _ _) rfl u_1462 u_103 mi_X10_climbs (by decide) rfl rfl (Nat.le_of_ble_eq_true rfl) (xk1 hm (by decide)) (xn1 hm (by decide)) (fun M28 h29 => ?_)
        refine r_lv [0] rfl ?_
        exact t_X10_endsCycle_83 C hm M28
      · refine r_lv [0] rfl ?_
        exact t_X10_endsCycle_83 C hm M
  · refine r_lv [0] rfl ?_
    exact t_X10_endsCycle_83 C hm M
set_option maxRecDepth 100000 in
set_option maxHeartbeats 4000000 in
theorem t_X10_endsCycle_9 {g : Gw} {x : Xw} (C : Cw g x cX10_endsCycle RX10 3 none 8) (hm : x.2.2.2.2.2.2.2.2.2.2.2 = (0, 0)) (l1 : Int32) (k9 : Int32 → Mw → Option (Mw)) (hk9 : ∀ (l2 : Int32) (M : Mw), Sw g x (fun M : Mw => (none, M)) M 0 0 9 [(0, .ref (gA g 50 0 0)), (1, .int l1), (2, .int l2)] [] (k9 l2 M)) (l2 : Int32) (M : Mw) : Sw g x (fun M : Mw => (none, M)) M 0 0 9 [(0, .ref (gA g 50 0 0)), (1, .int l1), (2, .int l2)] [] (B_X10_endsCycle_9 l1 k9 l2 M) := by
  unfold B_X10_endsCycle_9
  refine r_iload_n C 2 dX10_endsCycle_9 rfl rfl ?_
  refine r_if_lt (tgt := 41) C dX10_endsCycle_10 (by decide) (fun h2 => ?_) (fun h2 => ?_)
  · refine r_lv [0, 1] rfl ?_
    exact t_X10_endsCycle_41 C hm l1 M
  · refine r_aload_n C 0 dX10_endsCycle_13 rfl rfl ?_
    refine gf_50_58 C dX10_endsCycle_14 u_1163 in_50 ?_
    refine r_if_ne (tgt := 41) C dX10_endsCycle_17 (by decide) (fun h30 => ?_) (fun h30 => ?_)
    · refine r_aload_n C 0 dX10_endsCycle_20 rfl rfl ?_
      refine r_iload_n C 2 dX10_endsCycle_21 rfl rfl ?_
      refine r_iload_n C 1 dX10_endsCycle_22 rfl rfl ?_
      refine r_callVRi (rest := []) C (c_X10_isAsleep l2 l1 M) dX10_endsCycle_23 u_1486 in_50 (contW_50 g _ _ _ _ _) rfl u_1487 u_111 mi_X10_isAsleep (by decide) rfl rfl (Nat.le_of_ble_eq_true rfl) (xk1 hm (by decide)) (xn1 hm (by decide)) (fun v31 h32 => ?_)
      refine r_if_ne (tgt := 35) C dX10_endsCycle_26 (by decide) (fun h33 => ?_) (fun h33 => ?_)
      · refine r_aload_n C 0 dX10_endsCycle_29 rfl rfl ?_
        refine r_iload_n C 2 dX10_endsCycle_30 rfl rfl ?_
        refine r_iload_n C 1 dX10_endsCycle_31 rfl rfl ?_
        refine r_callVU (rest := []) C (c_X10_looks l2 l1 M) dX10_endsCycle_32 u_1489 in_50 (contW_50 g _ _ _ _ _) rfl u_1490 u_112 mi_X10_looks (by decide) rfl rfl (Nat.le_of_ble_eq_true rfl) (xk1 hm (by decide)) (xn1 hm (by decide)) (fun M35 h36 => ?_)
        refine r_iinc (c := (-1)) (lv' := fun v37 => [(2, .int v37), (0, .ref (gA g 50 0 0)), (1, .int l1)]) C 2 dX10_endsCycle_35 rfl (by decide) (by decide) (fun _ => rfl) (fun v37 => ?_)
        refine r_goto (tgt := 9) C dX10_endsCycle_38 (by decide) ?_
        refine r_lv [1, 2, 0] rfl ?_
        exact hk9 v37 M35
      · refine r_iinc (c := (-1)) (lv' := fun v34 => [(2, .int v34), (0, .ref (gA g 50 0 0)), (1, .int l1)]) C 2 dX10_endsCycle_35 rfl (by decide) (by decide) (fun _ => rfl) (fun v34 => ?_)
        refine r_goto (tgt := 9) C dX10_endsCycle_38 (by decide) ?_
        refine r_lv [1, 2, 0] rfl ?_
        exact hk9 v34 M
    · refine r_lv [0, 1] rfl ?_
      exact t_X10_endsCycle_41 C hm l1 M
set_option maxRecDepth 100000 in
set_option maxHeartbeats 4000000 in
theorem tl_X10_endsCycle_9 {g : Gw} {x : Xw} (C : Cw g x cX10_endsCycle RX10 3 none 8) (hm : x.2.2.2.2.2.2.2.2.2.2.2 = (0, 0)) (l1 : Int32) (n : Nat) : ∀ (l2 : Int32) (M : Mw), Sw g x (fun M : Mw => (none, M)) M 0 0 9 [(0, .ref (gA g 50 0 0)), (1, .int l1), (2, .int l2)] [] (it (fun _ _ => none) (B_X10_endsCycle_9 l1) n l2 M) := by
  induction n with
  | zero =>
    intro l2 M
    exact r_none
  | succ n ih =>
    intro l2 M
    exact t_X10_endsCycle_9 C hm l1 _ ih l2 M
set_option maxRecDepth 100000 in
set_option maxHeartbeats 4000000 in
theorem c_X10_endsCycle {g : Gw} {l : Launch} (p1 : Int32) (M : Mw) : Kw g l yX10_endsCycle cX10_endsCycle 3 none 8 0 0 [.ref (gA g 50 0 0), .int p1] M (fun M : Mw => (none, M)) (F_X10_endsCycle p1 M) := by
  refine Kw.of (own := RX10) (lv0 := [(0, .ref (gA g 50 0 0)), (1, .int p1)]) (by decide +kernel) rfl (Nat.le_of_ble_eq_true rfl) rfl (fun x C hl hm => ?_)
  subst hl
  unfold F_X10_endsCycle
  refine r_aload_n C 0 dX10_endsCycle_0 rfl rfl ?_
  refine gf_50_1 C dX10_endsCycle_1 u_1106 in_50 ?_
  refine r_iconst (v := 3) C dX10_endsCycle_4 (by decide) ?_
  refine r_ialdc C dX10_endsCycle_5 in_51 (contW_51 g _ _ _ _ _) (by decide) (j := 3) (by decide) ?_
  refine r_iconst (v := 1) C dX10_endsCycle_6 (by decide) ?_
  refine r_isub C dX10_endsCycle_7 ?_
  refine r_istore_n (lv' := fun v1 => [(2, .int v1), (0, .ref (gA g 50 0 0)), (1, .int p1)]) C dX10_endsCycle_8 rfl (by decide) (fun _ => rfl) (fun v1 => ?_)
  refine r_lv [1, 2, 0] rfl ?_
  exact tl_X10_endsCycle_9 C hm p1 FU v1 M
def B_X10_newCycle_29 (k29 : Int32 → Mw → Option (Mw)) (l1 : Int32) (M : Mw) : Option (Mw) :=
  (if 3 ≤ l1 then some M else (if inb l1 3 then (bd (uIw M 86 0 0 l1.toNatClampNeg (vp_nar .boolean 0)) (fun M3 => (bd (l1 + 1) (fun v5 => (k29 v5 M3))))) else none))
def B_X10_newCycle_2 (k2 : Int32 → Mw → Option (Mw)) (l1 : Int32) (M : Mw) : Option (Mw) :=
  (if 5 ≤ l1 then (it (fun _ _ => none) (B_X10_newCycle_29) FU 0 M) else (if inb l1 5 then (bd (uIw M 72 0 0 l1.toNatClampNeg 0) (fun M6 => (if inb l1 5 then (bd (uIw M6 76 0 0 l1.toNatClampNeg (vp_nar .boolean 0)) (fun M8 => (bd (l1 + 1) (fun v10 => (k2 v10 M8))))) else none))) else none))
def F_X10_newCycle (M : Mw) : Option (Mw) :=
  (it (fun _ _ => none) (B_X10_newCycle_2) FU 0 M)
set_option maxRecDepth 100000 in
set_option maxHeartbeats 4000000 in
theorem t_X10_newCycle_29 {g : Gw} {x : Xw} (C : Cw g x cX10_newCycle RX10 2 none 1) (hm : x.2.2.2.2.2.2.2.2.2.2.2 = (0, 0)) (k29 : Int32 → Mw → Option (Mw)) (hk29 : ∀ (l1 : Int32) (M : Mw), Sw g x (fun M : Mw => (none, M)) M 0 0 29 [(0, .ref (gA g 50 0 0)), (1, .int l1)] [] (k29 l1 M)) (l1 : Int32) (M : Mw) : Sw g x (fun M : Mw => (none, M)) M 0 0 29 [(0, .ref (gA g 50 0 0)), (1, .int l1)] [] (B_X10_newCycle_29 k29 l1 M) := by
  unfold B_X10_newCycle_29
  refine r_iload_n C 1 dX10_newCycle_29 rfl rfl ?_
  refine r_iconst (v := 3) C dX10_newCycle_30 (by decide) ?_
  refine r_icmp_ge (tgt := 47) C dX10_newCycle_31 (by decide) (fun h2 => ?_) (fun h2 => ?_)
  · exact r_vret C dX10_newCycle_47 rfl rfl (xk0 hm) (xn0 hm)
  · refine r_aload_n C 0 dX10_newCycle_34 rfl rfl ?_
    refine gf_50_50 C dX10_newCycle_35 u_1155 in_50 ?_
    refine r_iload_n C 1 dX10_newCycle_38 rfl rfl ?_
    refine r_iconst (v := 0) C dX10_newCycle_39 (by decide) ?_
    refine r_zast C dX10_newCycle_40 in_86 (contW_86 g _ _) (fun M3 h4 => ?_)
    refine r_iinc (c := 1) (lv' := fun v5 => [(1, .int v5), (0, .ref (gA g 50 0 0))]) C 1 dX10_newCycle_41 rfl (by decide) (by decide) (fun _ => rfl) (fun v5 => ?_)
    refine r_goto (tgt := 29) C dX10_newCycle_44 (by decide) ?_
    refine r_lv [1, 0] rfl ?_
    exact hk29 v5 M3
set_option maxRecDepth 100000 in
set_option maxHeartbeats 4000000 in
theorem tl_X10_newCycle_29 {g : Gw} {x : Xw} (C : Cw g x cX10_newCycle RX10 2 none 1) (hm : x.2.2.2.2.2.2.2.2.2.2.2 = (0, 0)) (n : Nat) : ∀ (l1 : Int32) (M : Mw), Sw g x (fun M : Mw => (none, M)) M 0 0 29 [(0, .ref (gA g 50 0 0)), (1, .int l1)] [] (it (fun _ _ => none) (B_X10_newCycle_29) n l1 M) := by
  induction n with
  | zero =>
    intro l1 M
    exact r_none
  | succ n ih =>
    intro l1 M
    exact t_X10_newCycle_29 C hm _ ih l1 M
set_option maxRecDepth 100000 in
set_option maxHeartbeats 4000000 in
theorem t_X10_newCycle_2 {g : Gw} {x : Xw} (C : Cw g x cX10_newCycle RX10 2 none 1) (hm : x.2.2.2.2.2.2.2.2.2.2.2 = (0, 0)) (k2 : Int32 → Mw → Option (Mw)) (hk2 : ∀ (l1 : Int32) (M : Mw), Sw g x (fun M : Mw => (none, M)) M 0 0 2 [(0, .ref (gA g 50 0 0)), (1, .int l1)] [] (k2 l1 M)) (l1 : Int32) (M : Mw) : Sw g x (fun M : Mw => (none, M)) M 0 0 2 [(0, .ref (gA g 50 0 0)), (1, .int l1)] [] (B_X10_newCycle_2 k2 l1 M) := by
  unfold B_X10_newCycle_2
  refine r_iload_n C 1 dX10_newCycle_2 rfl rfl ?_
  refine r_iconst (v := 5) C dX10_newCycle_3 (by decide) ?_
  refine r_icmp_ge (tgt := 27) C dX10_newCycle_4 (by decide) (fun h1 => ?_) (fun h1 => ?_)
  · refine r_iconst (v := 0) C dX10_newCycle_27 (by decide) ?_
    refine r_istore_n0 (lv' := [(1, .int 0), (0, .ref (gA g 50 0 0))]) C dX10_newCycle_28 rfl (by decide) rfl ?_
    refine r_lv [1, 0] rfl ?_
    exact tl_X10_newCycle_29 C hm FU 0 M
  · refine r_aload_n C 0 dX10_newCycle_7 rfl rfl ?_
    refine gf_50_36 C dX10_newCycle_8 u_1141 in_50 ?_
    refine r_iload_n C 1 dX10_newCycle_11 rfl rfl ?_
    refine r_iconst (v := 0) C dX10_newCycle_12 (by decide) ?_
    refine r_iast C dX10_newCycle_13 in_72 (contW_72 g _ _) (fun M6 h7 => ?_)
    refine r_aload_n C 0 dX10_newCycle_14 rfl rfl ?_
    refine gf_50_40 C dX10_newCycle_15 u_1145 in_50 ?_
    refine r_iload_n C 1 dX10_newCycle_18 rfl rfl ?_
    refine r_iconst (v := 0) C dX10_newCycle_19 (by decide) ?_
    refine r_zast C dX10_newCycle_20 in_76 (contW_76 g _ _) (fun M8 h9 => ?_)
    refine r_iinc (c := 1) (lv' := fun v10 => [(1, .int v10), (0, .ref (gA g 50 0 0))]) C 1 dX10_newCycle_21 rfl (by decide) (by decide) (fun _ => rfl) (fun v10 => ?_)
    refine r_goto (tgt := 2) C dX10_newCycle_24 (by decide) ?_
    refine r_lv [1, 0] rfl ?_
    exact hk2 v10 M8
set_option maxRecDepth 100000 in
set_option maxHeartbeats 4000000 in
theorem tl_X10_newCycle_2 {g : Gw} {x : Xw} (C : Cw g x cX10_newCycle RX10 2 none 1) (hm : x.2.2.2.2.2.2.2.2.2.2.2 = (0, 0)) (n : Nat) : ∀ (l1 : Int32) (M : Mw), Sw g x (fun M : Mw => (none, M)) M 0 0 2 [(0, .ref (gA g 50 0 0)), (1, .int l1)] [] (it (fun _ _ => none) (B_X10_newCycle_2) n l1 M) := by
  induction n with
  | zero =>
    intro l1 M
    exact r_none
  | succ n ih =>
    intro l1 M
    exact t_X10_newCycle_2 C hm _ ih l1 M
set_option maxRecDepth 100000 in
set_option maxHeartbeats 4000000 in
theorem c_X10_newCycle {g : Gw} {l : Launch} (M : Mw) : Kw g l yX10_newCycle cX10_newCycle 2 none 1 0 0 [.ref (gA g 50 0 0)] M (fun M : Mw => (none, M)) (F_X10_newCycle M) := by
  refine Kw.of (own := RX10) (lv0 := [(0, .ref (gA g 50 0 0))]) (by decide +kernel) rfl (Nat.le_of_ble_eq_true rfl) rfl (fun x C hl hm => ?_)
  subst hl
  unfold F_X10_newCycle
  refine r_iconst (v := 0) C dX10_newCycle_0 (by decide) ?_
  refine r_istore_n0 (lv' := [(1, .int 0), (0, .ref (gA g 50 0 0))]) C dX10_newCycle_1 rfl (by decide) rfl ?_
  refine r_lv [1, 0] rfl ?_
  exact tl_X10_newCycle_2 C hm FU 0 M
def B_X10_tick_64 (M : Mw) : Option (Mw) :=
  (if (M.1 50 0 0 59) = (-1) then ((F_X10_newCycle M).bind (fun M15 => some M15)) else some M)
def B_X10_tick_33 (l1 : Int32) (M : Mw) : Option (Mw) :=
  ((F_X10_asksLate l1 M).bind (fun M9 => (if (M9.1 51 0 0 1) = 0 then none else (if ((l1 + 1) - (l1 + 1) / (M9.1 51 0 0 1) * (M9.1 51 0 0 1)) = 0 then (if (M9.1 50 0 0 58) = 0 then ((F_X10_endsCycle l1 M9).bind (fun M17 => (B_X10_tick_64 M17))) else (B_X10_tick_64 M9)) else some M9))))
def F_X10_tick (p1 : Int32) (M : Mw) : Option (Mw) :=
  (bd (uIw M 50 0 0 58 0) (fun M1 => ((F_X10_begins p1 M1).bind (fun M2 => ((F_X10_whoHas M2).bind (fun v4 => (if inb p1 200 then (bd (uIw M2 87 0 0 p1.toNatClampNeg v4) (fun M6 => (if v4 = (-1) then (B_X10_tick_33 p1 M6) else ((F_X10_works v4 p1 M6).bind (fun M19 => (B_X10_tick_33 p1 M19)))))) else none)))))))
set_option maxRecDepth 100000 in
set_option maxHeartbeats 4000000 in
theorem t_X10_tick_64 {g : Gw} {x : Xw} (C : Cw g x cX10_tick RX10 3 none 9) (hm : x.2.2.2.2.2.2.2.2.2.2.2 = (0, 0)) (M : Mw) : Sw g x (fun M : Mw => (none, M)) M 0 0 64 [(0, .ref (gA g 50 0 0))] [] (B_X10_tick_64 M) := by
  unfold B_X10_tick_64
  refine r_aload_n C 0 dX10_tick_64 rfl rfl ?_
  refine gf_50_59 C dX10_tick_65 u_1164 in_50 ?_
  refine r_iconst (v := (-1)) C dX10_tick_68 (by decide) ?_
  refine r_icmp_ne (tgt := 76) C dX10_tick_69 (by decide) (fun h14 => ?_) (fun h14 => ?_)
  · refine r_aload_n C 0 dX10_tick_72 rfl rfl ?_
    refine r_callVU (rest := []) C (c_X10_newCycle M) dX10_tick_73 u_1492 in_50 (contW_50 g _ _ _ _ _) rfl u_1493 u_113 mi_X10_newCycle (by decide) rfl rfl (Nat.le_of_ble_eq_true rfl) (xk1 hm (by decide)) (xn1 hm (by decide)) (fun M15 h16 => ?_)
    exact r_vret C dX10_tick_76 rfl rfl (xk0 hm) (xn0 hm)
  · exact r_vret C dX10_tick_76 rfl rfl (xk0 hm) (xn0 hm)
set_option maxRecDepth 100000 in
set_option maxHeartbeats 4000000 in
theorem t_X10_tick_33 {g : Gw} {x : Xw} (C : Cw g x cX10_tick RX10 3 none 9) (hm : x.2.2.2.2.2.2.2.2.2.2.2 = (0, 0)) (l1 : Int32) (M : Mw) : Sw g x (fun M : Mw => (none, M)) M 0 0 33 [(0, .ref (gA g 50 0 0)), (1, .int l1)] [] (B_X10_tick_33 l1 M) := by
  unfold B_X10_tick_33
  refine r_aload_n C 0 dX10_tick_33 rfl rfl ?_
  refine r_iload_n C 1 dX10_tick_34 rfl rfl ?_
  refine r_callVU (rest := []) C (c_X10_asksLate l1 M) dX10_tick_35 u_1480 in_50 (contW_50 g _ _ _ _ _) rfl u_1481 u_109 mi_X10_asksLate (by decide) rfl rfl (Nat.le_of_ble_eq_true rfl) (xk1 hm (by decide)) (xn1 hm (by decide)) (fun M9 h10 => ?_)
  refine r_iload_n C 1 dX10_tick_38 rfl rfl ?_
  refine r_iconst (v := 1) C dX10_tick_39 (by decide) ?_
  refine r_iadd C dX10_tick_40 ?_
  refine r_aload_n C 0 dX10_tick_41 rfl rfl ?_
  refine gf_50_1 C dX10_tick_42 u_1106 in_50 ?_
  refine r_iconst (v := 1) C dX10_tick_45 (by decide) ?_
  refine r_ialdc C dX10_tick_46 in_51 (contW_51 g _ _ _ _ _) (by decide) (j := 1) (by decide) ?_
  refine r_irem C dX10_tick_47 (fun h11 => ?_)
  refine r_if_eq (tgt := 52) C dX10_tick_48 (by decide) (fun h12 => ?_) (fun h12 => ?_)
  · refine r_aload_n C 0 dX10_tick_52 rfl rfl ?_
    refine gf_50_58 C dX10_tick_53 u_1163 in_50 ?_
    refine r_if_ne (tgt := 64) C dX10_tick_56 (by decide) (fun h13 => ?_) (fun h13 => ?_)
    · refine r_aload_n C 0 dX10_tick_59 rfl rfl ?_
      refine r_iload_n C 1 dX10_tick_60 rfl rfl ?_
      refine r_callVU (rest := []) C (c_X10_endsCycle l1 M9) dX10_tick_61 u_1483 in_50 (contW_50 g _ _ _ _ _) rfl u_1484 u_110 mi_X10_endsCycle (by decide) rfl rfl (Nat.le_of_ble_eq_true rfl) (xk1 hm (by decide)) (xn1 hm (by decide)) (fun M17 h18 => ?_)
      refine r_lv [0] rfl ?_
      exact t_X10_tick_64 C hm M17
    · refine r_lv [0] rfl ?_
      exact t_X10_tick_64 C hm M9
  · exact r_vret C dX10_tick_51 rfl rfl (xk0 hm) (xn0 hm)
set_option maxRecDepth 100000 in
set_option maxHeartbeats 4000000 in
theorem c_X10_tick {g : Gw} {l : Launch} (p1 : Int32) (M : Mw) : Kw g l yX10_tick cX10_tick 3 none 9 0 0 [.ref (gA g 50 0 0), .int p1] M (fun M : Mw => (none, M)) (F_X10_tick p1 M) := by
  refine Kw.of (own := RX10) (lv0 := [(0, .ref (gA g 50 0 0)), (1, .int p1)]) (by decide +kernel) rfl (Nat.le_of_ble_eq_true rfl) rfl (fun x C hl hm => ?_)
  subst hl
  unfold F_X10_tick
  refine r_aload_n C 0 dX10_tick_0 rfl rfl ?_
  refine r_iconst (v := 0) C dX10_tick_1 (by decide) ?_
  refine pc_50_58 C dX10_tick_2 u_1163 in_50 (by decide) (fun M1 => ?_)
  refine r_aload_n C 0 dX10_tick_5 rfl rfl ?_
  refine r_iload_n C 1 dX10_tick_6 rfl rfl ?_
  refine r_callVU (rest := []) C (c_X10_begins p1 M1) dX10_tick_7 u_1430 in_50 (contW_50 g _ _ _ _ _) rfl u_1431 u_93 mi_X10_begins (by decide) rfl rfl (Nat.le_of_ble_eq_true rfl) (xk1 hm (by decide)) (xn1 hm (by decide)) (fun M2 h3 => ?_)
  refine r_aload_n C 0 dX10_tick_10 rfl rfl ?_
  refine r_callVRi (rest := []) C (c_X10_whoHas M2) dX10_tick_11 u_1433 in_50 (contW_50 g _ _ _ _ _) rfl u_1434 u_94 mi_X10_whoHas (by decide) rfl rfl (Nat.le_of_ble_eq_true rfl) (xk1 hm (by decide)) (xn1 hm (by decide)) (fun v4 h5 => ?_)
  refine r_istore_n0 (lv' := [(2, .int v4), (0, .ref (gA g 50 0 0)), (1, .int p1)]) C dX10_tick_14 rfl (by decide) rfl ?_
  refine r_aload_n C 1 dX10_tick_15 rfl rfl ?_
  refine gf_50_51 C dX10_tick_16 u_1156 in_50 ?_
  refine r_iload_n C 2 dX10_tick_19 rfl rfl ?_
  refine r_iload_n C 0 dX10_tick_20 rfl rfl ?_
  refine r_iast C dX10_tick_21 in_87 (contW_87 g _ _) (fun M6 h7 => ?_)
  refine r_iload_n C 0 dX10_tick_22 rfl rfl ?_
  refine r_iconst (v := (-1)) C dX10_tick_23 (by decide) ?_
  refine r_icmp_eq (tgt := 33) C dX10_tick_24 (by decide) (fun h8 => ?_) (fun h8 => ?_)
  · refine r_lv [1, 2] rfl ?_
    exact t_X10_tick_33 C hm p1 M6
  · refine r_aload_n C 1 dX10_tick_27 rfl rfl ?_
    refine r_iload_n C 0 dX10_tick_28 rfl rfl ?_
    refine r_iload_n C 2 dX10_tick_29 rfl rfl ?_
    refine r_callVU (rest := []) C (c_X10_works v4 p1 M6) dX10_tick_30 u_1442 in_50 (contW_50 g _ _ _ _ _) rfl u_1443 u_97 mi_X10_works (by decide) rfl rfl (Nat.le_of_ble_eq_true rfl) (xk1 hm (by decide)) (xn1 hm (by decide)) (fun M19 h20 => ?_)
    refine r_lv [1, 2] rfl ?_
    exact t_X10_tick_33 C hm p1 M19
def B_X10_runs_6 (l1 : Int32) (k6 : Int32 → Mw → Option (Mw)) (l2 : Int32) (M : Mw) : Option (Mw) :=
  (if l1 ≤ l2 then some M else (if (M.1 50 0 0 59) = (-1) then ((F_X10_tick l2 M).bind (fun M5 => (bd (l2 + 1) (fun v7 => (k6 v7 M5))))) else some M))
def F_X10_runs (p1 : Int32) (M : Mw) : Option (Mw) :=
  ((F_X10_beginRun M).bind (fun M1 => (it (fun _ _ => none) (B_X10_runs_6 p1) FU 0 M1)))
set_option maxRecDepth 100000 in
set_option maxHeartbeats 4000000 in
theorem t_X10_runs_6 {g : Gw} {x : Xw} (C : Cw g x cX10_runs RX10 3 none 10) (hm : x.2.2.2.2.2.2.2.2.2.2.2 = (0, 0)) (l1 : Int32) (k6 : Int32 → Mw → Option (Mw)) (hk6 : ∀ (l2 : Int32) (M : Mw), Sw g x (fun M : Mw => (none, M)) M 0 0 6 [(0, .ref (gA g 50 0 0)), (1, .int l1), (2, .int l2)] [] (k6 l2 M)) (l2 : Int32) (M : Mw) : Sw g x (fun M : Mw => (none, M)) M 0 0 6 [(0, .ref (gA g 50 0 0)), (1, .int l1), (2, .int l2)] [] (B_X10_runs_6 l1 k6 l2 M) := by
  unfold B_X10_runs_6
  refine r_iload_n C 2 dX10_runs_6 rfl rfl ?_
  refine r_iload_n C 1 dX10_runs_7 rfl rfl ?_
  refine r_icmp_ge (tgt := 30) C dX10_runs_8 (by decide) (fun h3 => ?_) (fun h3 => ?_)
  · exact r_vret C dX10_runs_30 rfl rfl (xk0 hm) (xn0 hm)
  · refine r_aload_n C 0 dX10_runs_11 rfl rfl ?_
    refine gf_50_59 C dX10_runs_12 u_1164 in_50 ?_
    refine r_iconst (v := (-1)) C dX10_runs_15 (by decide) ?_
    refine r_icmp_ne (tgt := 30) C dX10_runs_16 (by decide) (fun h4 => ?_) (fun h4 => ?_)
    · refine r_aload_n C 0 dX10_runs_19 rfl rfl ?_
      refine r_iload_n C 2 dX10_runs_20 rfl rfl ?_
      refine r_callVU (rest := []) C (c_X10_tick l2 M) dX10_runs_21 u_1427 in_50 (contW_50 g _ _ _ _ _) rfl u_1428 u_92 mi_X10_tick (by decide) rfl rfl (Nat.le_of_ble_eq_true rfl) (xk1 hm (by decide)) (xn1 hm (by decide)) (fun M5 h6 => ?_)
      refine r_iinc (c := 1) (lv' := fun v7 => [(2, .int v7), (0, .ref (gA g 50 0 0)), (1, .int l1)]) C 2 dX10_runs_24 rfl (by decide) (by decide) (fun _ => rfl) (fun v7 => ?_)
      refine r_goto (tgt := 6) C dX10_runs_27 (by decide) ?_
      refine r_lv [1, 2, 0] rfl ?_
      exact hk6 v7 M5
    · exact r_vret C dX10_runs_30 rfl rfl (xk0 hm) (xn0 hm)
set_option maxRecDepth 100000 in
set_option maxHeartbeats 4000000 in
theorem tl_X10_runs_6 {g : Gw} {x : Xw} (C : Cw g x cX10_runs RX10 3 none 10) (hm : x.2.2.2.2.2.2.2.2.2.2.2 = (0, 0)) (l1 : Int32) (n : Nat) : ∀ (l2 : Int32) (M : Mw), Sw g x (fun M : Mw => (none, M)) M 0 0 6 [(0, .ref (gA g 50 0 0)), (1, .int l1), (2, .int l2)] [] (it (fun _ _ => none) (B_X10_runs_6 l1) n l2 M) := by
  induction n with
  | zero =>
    intro l2 M
    exact r_none
  | succ n ih =>
    intro l2 M
    exact t_X10_runs_6 C hm l1 _ ih l2 M
set_option maxRecDepth 100000 in
set_option maxHeartbeats 4000000 in
theorem c_X10_runs {g : Gw} {l : Launch} (p1 : Int32) (M : Mw) : Kw g l yX10_runs cX10_runs 3 none 10 0 0 [.ref (gA g 50 0 0), .int p1] M (fun M : Mw => (none, M)) (F_X10_runs p1 M) := by
  refine Kw.of (own := RX10) (lv0 := [(0, .ref (gA g 50 0 0)), (1, .int p1)]) (by decide +kernel) rfl (Nat.le_of_ble_eq_true rfl) rfl (fun x C hl hm => ?_)
  subst hl
  unfold F_X10_runs
  refine r_aload_n C 0 dX10_runs_0 rfl rfl ?_
  refine r_callVU (rest := []) C (c_X10_beginRun M) dX10_runs_1 u_1424 in_50 (contW_50 g _ _ _ _ _) rfl u_1425 u_91 mi_X10_beginRun (by decide) rfl rfl (Nat.le_of_ble_eq_true rfl) (xk1 hm (by decide)) (xn1 hm (by decide)) (fun M1 h2 => ?_)
  refine r_iconst (v := 0) C dX10_runs_4 (by decide) ?_
  refine r_istore_n0 (lv' := [(2, .int 0), (0, .ref (gA g 50 0 0)), (1, .int p1)]) C dX10_runs_5 rfl (by decide) rfl ?_
  refine r_lv [1, 2, 0] rfl ?_
  exact tl_X10_runs_6 C hm p1 FU 0 M1
def F_X10_asks (M : Mw) : Option (Int32 × Mw) :=
  ((F_X10_asTold M).bind (fun M1 => ((F_X10_isBoard M1).bind (fun v3 => (if v3 = 0 then ((F_X10_isBoard M1).bind (fun v6 => (if bz v6 then some (v6, M1) else none))) else ((F_X10_runs (M1.1 51 0 0 0) M1).bind (fun M8 => ((F_X10_isBoard M8).bind (fun v10 => (if bz v10 then some (v10, M8) else none))))))))))
set_option maxRecDepth 100000 in
set_option maxHeartbeats 4000000 in
theorem c_X10_asks {g : Gw} {l : Launch} (M : Mw) : Kw g l yX10_asks cX10_asks 1 (some .boolean) 11 0 0 [.ref (gA g 50 0 0)] M (fun q : Int32 × Mw => (some (.int q.1), q.2)) (F_X10_asks M) := by
  refine Kw.of (own := RX10) (lv0 := [(0, .ref (gA g 50 0 0))]) (by decide +kernel) rfl (Nat.le_of_ble_eq_true rfl) rfl (fun x C hl hm => ?_)
  subst hl
  unfold F_X10_asks
  refine r_aload_n C 0 dX10_asks_0 rfl rfl ?_
  refine r_callVU (rest := []) C (c_X10_asTold M) dX10_asks_1 u_1418 in_50 (contW_50 g _ _ _ _ _) rfl u_1419 u_89 mi_X10_asTold (by decide) rfl rfl (Nat.le_of_ble_eq_true rfl) (xk1 hm (by decide)) (xn1 hm (by decide)) (fun M1 h2 => ?_)
  refine r_aload_n C 0 dX10_asks_4 rfl rfl ?_
  refine r_callVRi (rest := []) C (c_X10_isBoard M1) dX10_asks_5 u_1347 in_50 (contW_50 g _ _ _ _ _) rfl u_1348 u_81 mi_X10_isBoard (by decide) rfl rfl (Nat.le_of_ble_eq_true rfl) (xk1 hm (by decide)) (xn1 hm (by decide)) (fun v3 h4 => ?_)
  refine r_if_eq (tgt := 21) C dX10_asks_8 (by decide) (fun h5 => ?_) (fun h5 => ?_)
  · refine r_aload_n C 0 dX10_asks_21 rfl rfl ?_
    refine r_callVRi (rest := []) C (c_X10_isBoard M1) dX10_asks_22 u_1347 in_50 (contW_50 g _ _ _ _ _) rfl u_1348 u_81 mi_X10_isBoard (by decide) rfl rfl (Nat.le_of_ble_eq_true rfl) (xk1 hm (by decide)) (xn1 hm (by decide)) (fun v6 h7 => ?_)
    exact r_zret C dX10_asks_25 rfl rfl (xk0 hm) (xn0 hm)
  · refine r_aload_n C 0 dX10_asks_11 rfl rfl ?_
    refine r_aload_n C 0 dX10_asks_12 rfl rfl ?_
    refine gf_50_1 C dX10_asks_13 u_1106 in_50 ?_
    refine r_iconst (v := 0) C dX10_asks_16 (by decide) ?_
    refine r_ialdc C dX10_asks_17 in_51 (contW_51 g _ _ _ _ _) (by decide) (j := 0) (by decide) ?_
    refine r_callVU (rest := []) C (c_X10_runs (M1.1 51 0 0 0) M1) dX10_asks_18 u_1421 in_50 (contW_50 g _ _ _ _ _) rfl u_1422 u_90 mi_X10_runs (by decide) rfl rfl (Nat.le_of_ble_eq_true rfl) (xk1 hm (by decide)) (xn1 hm (by decide)) (fun M8 h9 => ?_)
    refine r_aload_n C 0 dX10_asks_21 rfl rfl ?_
    refine r_callVRi (rest := []) C (c_X10_isBoard M8) dX10_asks_22 u_1347 in_50 (contW_50 g _ _ _ _ _) rfl u_1348 u_81 mi_X10_isBoard (by decide) rfl rfl (Nat.le_of_ble_eq_true rfl) (xk1 hm (by decide)) (xn1 hm (by decide)) (fun v10 h11 => ?_)
    exact r_zret C dX10_asks_25 rfl rfl (xk0 hm) (xn0 hm)
def F_X10_had (p1 : Int32) (M : Mw) : Option (Int32 × Mw) :=
  ((F_X10_asks M).bind (fun q1 => (if q1.1 = 0 then some ((-2), q1.2) else ((F_X10_in ((p1).toInt64) 0 ((((q1.2.1 51 0 0 0) - 1)).toInt64) q1.2).bind (fun v4 => (if v4 = 0 then some ((-2), q1.2) else (if inb p1 200 then some ((q1.2.1 87 0 0 p1.toNatClampNeg), q1.2) else none)))))))
set_option maxRecDepth 100000 in
set_option maxHeartbeats 4000000 in
theorem c_X10_had {g : Gw} {l : Launch} (p1 : Int32) (M : Mw) : Kw g l yX10_had cX10_had 2 (some .int) 12 0 0 [.ref (gA g 50 0 0), .int p1] M (fun q : Int32 × Mw => (some (.int q.1), q.2)) (F_X10_had p1 M) := by
  refine Kw.of (own := RX10) (lv0 := [(0, .ref (gA g 50 0 0)), (1, .int p1)]) (by decide +kernel) rfl (Nat.le_of_ble_eq_true rfl) rfl (fun x C hl hm => ?_)
  subst hl
  unfold F_X10_had
  refine r_aload_n C 0 dX10_had_0 rfl rfl ?_
  refine r_callVWi (rest := []) C (c_X10_asks M) dX10_had_1 u_1415 in_50 (contW_50 g _ _ _ _ _) rfl u_1416 u_88 mi_X10_asks (by decide) rfl rfl (Nat.le_of_ble_eq_true rfl) (xk1 hm (by decide)) (xn1 hm (by decide)) (fun q1 h2 => ?_)
  refine r_if_eq (tgt := 34) C dX10_had_4 (by decide) (fun h3 => ?_) (fun h3 => ?_)
  · refine r_bipush (v := (-2)) C dX10_had_34 (by decide) ?_
    exact r_iret C dX10_had_36 rfl rfl (xk0 hm) (xn0 hm)
  · refine r_iload_n C 1 dX10_had_7 rfl rfl ?_
    refine r_i2l C dX10_had_8 ?_
    refine r_lconst (v := 0) C dX10_had_9 (by decide) ?_
    refine r_aload_n C 0 dX10_had_10 rfl rfl ?_
    refine gf_50_1 C dX10_had_11 u_1106 in_50 ?_
    refine r_iconst (v := 0) C dX10_had_14 (by decide) ?_
    refine r_ialdc C dX10_had_15 in_51 (contW_51 g _ _ _ _ _) (by decide) (j := 0) (by decide) ?_
    refine r_iconst (v := 1) C dX10_had_16 (by decide) ?_
    refine r_isub C dX10_had_17 ?_
    refine r_i2l C dX10_had_18 ?_
    refine r_callSRi (rest := []) C (c_X10_in ((p1).toInt64) 0 ((((q1.2.1 51 0 0 0) - 1)).toInt64) q1.2) dX10_had_19 u_1174 u_1175 mi_X10_in (by decide) rfl rfl (Nat.le_of_ble_eq_true rfl) (xk1 hm (by decide)) (xn1 hm (by decide)) (fun v4 h5 => ?_)
    refine r_if_eq (tgt := 34) C dX10_had_22 (by decide) (fun h6 => ?_) (fun h6 => ?_)
    · refine r_bipush (v := (-2)) C dX10_had_34 (by decide) ?_
      exact r_iret C dX10_had_36 rfl rfl (xk0 hm) (xn0 hm)
    · refine r_aload_n C 0 dX10_had_25 rfl rfl ?_
      refine gf_50_51 C dX10_had_26 u_1156 in_50 ?_
      refine r_iload_n C 1 dX10_had_29 rfl rfl ?_
      refine r_iald C dX10_had_30 in_87 (contW_87 g _ _ _ _ _) (fun h7 => ?_)
      refine r_goto (tgt := 36) C dX10_had_31 (by decide) ?_
      exact r_iret C dX10_had_36 rfl rfl (xk0 hm) (xn0 hm)
def F_X10_isTick (p1 : Int32) (M : Mw) : Option (Int32) :=
  ((F_X10_isBoard M).bind (fun v1 => (if v1 = 0 then some 0 else ((F_X10_in ((p1).toInt64) 0 (((M.1 51 0 0 0)).toInt64) M).bind (fun v4 => (if v4 = 0 then some 0 else some 1))))))
set_option maxRecDepth 100000 in
set_option maxHeartbeats 4000000 in
theorem c_X10_isTick {g : Gw} {l : Launch} (p1 : Int32) (M : Mw) : Kw g l yX10_isTick cX10_isTick 2 (some .boolean) 2 0 0 [.ref (gA g 50 0 0), .int p1] M (fun v : Int32 => (some (.int v), M)) (F_X10_isTick p1 M) := by
  refine Kw.of (own := RX10) (lv0 := [(0, .ref (gA g 50 0 0)), (1, .int p1)]) (by decide +kernel) rfl (Nat.le_of_ble_eq_true rfl) rfl (fun x C hl hm => ?_)
  subst hl
  unfold F_X10_isTick
  refine r_aload_n C 0 dX10_isTick_0 rfl rfl ?_
  refine r_callVRi (rest := []) C (c_X10_isBoard M) dX10_isTick_1 u_1347 in_50 (contW_50 g _ _ _ _ _) rfl u_1348 u_81 mi_X10_isBoard (by decide) rfl rfl (Nat.le_of_ble_eq_true rfl) (xk1 hm (by decide)) (xn1 hm (by decide)) (fun v1 h2 => ?_)
  refine r_if_eq (tgt := 27) C dX10_isTick_4 (by decide) (fun h3 => ?_) (fun h3 => ?_)
  · refine r_iconst (v := 0) C dX10_isTick_27 (by decide) ?_
    exact r_zretc C dX10_isTick_28 rfl bz0 rfl (xk0 hm) (xn0 hm)
  · refine r_iload_n C 1 dX10_isTick_7 rfl rfl ?_
    refine r_i2l C dX10_isTick_8 ?_
    refine r_lconst (v := 0) C dX10_isTick_9 (by decide) ?_
    refine r_aload_n C 0 dX10_isTick_10 rfl rfl ?_
    refine gf_50_1 C dX10_isTick_11 u_1106 in_50 ?_
    refine r_iconst (v := 0) C dX10_isTick_14 (by decide) ?_
    refine r_ialdc C dX10_isTick_15 in_51 (contW_51 g _ _ _ _ _) (by decide) (j := 0) (by decide) ?_
    refine r_i2l C dX10_isTick_16 ?_
    refine r_callSRi (rest := []) C (c_X10_in ((p1).toInt64) 0 (((M.1 51 0 0 0)).toInt64) M) dX10_isTick_17 u_1174 u_1175 mi_X10_in (by decide) rfl rfl (Nat.le_of_ble_eq_true rfl) (xk1 hm (by decide)) (xn1 hm (by decide)) (fun v4 h5 => ?_)
    refine r_if_eq (tgt := 27) C dX10_isTick_20 (by decide) (fun h6 => ?_) (fun h6 => ?_)
    · refine r_iconst (v := 0) C dX10_isTick_27 (by decide) ?_
      exact r_zretc C dX10_isTick_28 rfl bz0 rfl (xk0 hm) (xn0 hm)
    · refine r_iconst (v := 1) C dX10_isTick_23 (by decide) ?_
      refine r_goto (tgt := 28) C dX10_isTick_24 (by decide) ?_
      exact r_zretc C dX10_isTick_28 rfl bz1 rfl (xk0 hm) (xn0 hm)
def F_X10_asksAt (p1 : Int32) (M : Mw) : Option (Int32 × Mw) :=
  ((F_X10_isTick p1 M).bind (fun v1 => (if v1 = 0 then some (0, M) else ((F_X10_asTold M).bind (fun M4 => ((F_X10_runs p1 M4).bind (fun M6 => some (1, M6))))))))
set_option maxRecDepth 100000 in
set_option maxHeartbeats 4000000 in
theorem c_X10_asksAt {g : Gw} {l : Launch} (p1 : Int32) (M : Mw) : Kw g l yX10_asksAt cX10_asksAt 2 (some .boolean) 11 0 0 [.ref (gA g 50 0 0), .int p1] M (fun q : Int32 × Mw => (some (.int q.1), q.2)) (F_X10_asksAt p1 M) := by
  refine Kw.of (own := RX10) (lv0 := [(0, .ref (gA g 50 0 0)), (1, .int p1)]) (by decide +kernel) rfl (Nat.le_of_ble_eq_true rfl) rfl (fun x C hl hm => ?_)
  subst hl
  unfold F_X10_asksAt
  refine r_aload_n C 0 dX10_asksAt_0 rfl rfl ?_
  refine r_iload_n C 1 dX10_asksAt_1 rfl rfl ?_
  refine r_callVRi (rest := []) C (c_X10_isTick p1 M) dX10_asksAt_2 u_1502 in_50 (contW_50 g _ _ _ _ _) rfl u_1503 u_115 mi_X10_isTick (by decide) rfl rfl (Nat.le_of_ble_eq_true rfl) (xk1 hm (by decide)) (xn1 hm (by decide)) (fun v1 h2 => ?_)
  refine r_if_ne (tgt := 10) C dX10_asksAt_5 (by decide) (fun h3 => ?_) (fun h3 => ?_)
  · refine r_iconst (v := 0) C dX10_asksAt_8 (by decide) ?_
    exact r_zretc C dX10_asksAt_9 rfl bz0 rfl (xk0 hm) (xn0 hm)
  · refine r_aload_n C 0 dX10_asksAt_10 rfl rfl ?_
    refine r_callVU (rest := []) C (c_X10_asTold M) dX10_asksAt_11 u_1418 in_50 (contW_50 g _ _ _ _ _) rfl u_1419 u_89 mi_X10_asTold (by decide) rfl rfl (Nat.le_of_ble_eq_true rfl) (xk1 hm (by decide)) (xn1 hm (by decide)) (fun M4 h5 => ?_)
    refine r_aload_n C 0 dX10_asksAt_14 rfl rfl ?_
    refine r_iload_n C 1 dX10_asksAt_15 rfl rfl ?_
    refine r_callVU (rest := []) C (c_X10_runs p1 M4) dX10_asksAt_16 u_1421 in_50 (contW_50 g _ _ _ _ _) rfl u_1422 u_90 mi_X10_runs (by decide) rfl rfl (Nat.le_of_ble_eq_true rfl) (xk1 hm (by decide)) (xn1 hm (by decide)) (fun M6 h7 => ?_)
    refine r_iconst (v := 1) C dX10_asksAt_19 (by decide) ?_
    exact r_zretc C dX10_asksAt_20 rfl bz1 rfl (xk0 hm) (xn0 hm)
def B_X10_idle_15 (l1 : Int32) (M : Mw) (k15 : Int32 → Int32 → Option (Int32 × Mw)) (l2 : Int32) (l3 : Int32) : Option (Int32 × Mw) :=
  (if l1 ≤ l3 then some (l2, M) else (if inb l3 200 then (if (M.1 87 0 0 l3.toNatClampNeg) = (-1) then (bd (l2 + 1) (fun v9 => (bd (l3 + 1) (fun v10 => (k15 v9 v10))))) else (bd (l2 + 0) (fun v7 => (bd (l3 + 1) (fun v8 => (k15 v7 v8)))))) else none))
def F_X10_idle (p1 : Int32) (M : Mw) : Option (Int32 × Mw) :=
  ((F_X10_asksAt p1 M).bind (fun q1 => (if q1.1 = 0 then some ((-2), q1.2) else (it (fun _ _ => none) (B_X10_idle_15 p1 q1.2) FU 0 0))))
set_option maxRecDepth 100000 in
set_option maxHeartbeats 4000000 in
theorem t_X10_idle_15 {g : Gw} {x : Xw} (C : Cw g x cX10_idle RX10 4 (some .int) 12) (hm : x.2.2.2.2.2.2.2.2.2.2.2 = (0, 0)) (M : Mw) (l1 : Int32) (k15 : Int32 → Int32 → Option (Int32 × Mw)) (hk15 : ∀ (l2 : Int32) (l3 : Int32), Sw g x (fun q : Int32 × Mw => (some (.int q.1), q.2)) M 0 0 15 [(0, .ref (gA g 50 0 0)), (1, .int l1), (2, .int l2), (3, .int l3)] [] (k15 l2 l3)) (l2 : Int32) (l3 : Int32) : Sw g x (fun q : Int32 × Mw => (some (.int q.1), q.2)) M 0 0 15 [(0, .ref (gA g 50 0 0)), (1, .int l1), (2, .int l2), (3, .int l3)] [] (B_X10_idle_15 l1 M k15 l2 l3) := by
  unfold B_X10_idle_15
  refine r_iload_n C 3 dX10_idle_15 rfl rfl ?_
  refine r_iload_n C 1 dX10_idle_16 rfl rfl ?_
  refine r_icmp_ge (tgt := 44) C dX10_idle_17 (by decide) (fun h4 => ?_) (fun h4 => ?_)
  · refine r_iload_n C 2 dX10_idle_44 rfl rfl ?_
    exact r_iret C dX10_idle_45 rfl rfl (xk0 hm) (xn0 hm)
  · refine r_iload_n C 2 dX10_idle_20 rfl rfl ?_
    refine r_aload_n C 0 dX10_idle_21 rfl rfl ?_
    refine gf_50_51 C dX10_idle_22 u_1156 in_50 ?_
    refine r_iload_n C 3 dX10_idle_25 rfl rfl ?_
    refine r_iald C dX10_idle_26 in_87 (contW_87 g _ _ _ _ _) (fun h5 => ?_)
    refine r_iconst (v := (-1)) C dX10_idle_27 (by decide) ?_
    refine r_icmp_ne (tgt := 35) C dX10_idle_28 (by decide) (fun h6 => ?_) (fun h6 => ?_)
    · refine r_iconst (v := 1) C dX10_idle_31 (by decide) ?_
      refine r_goto (tgt := 36) C dX10_idle_32 (by decide) ?_
      refine r_iadd C dX10_idle_36 ?_
      refine r_istore_n (lv' := fun v9 => [(2, .int v9), (0, .ref (gA g 50 0 0)), (1, .int l1), (3, .int l3)]) C dX10_idle_37 rfl (by decide) (fun _ => rfl) (fun v9 => ?_)
      refine r_iinc (c := 1) (lv' := fun v10 => [(3, .int v10), (2, .int v9), (0, .ref (gA g 50 0 0)), (1, .int l1)]) C 3 dX10_idle_38 rfl (by decide) (by decide) (fun _ => rfl) (fun v10 => ?_)
      refine r_goto (tgt := 15) C dX10_idle_41 (by decide) ?_
      refine r_lv [2, 3, 1, 0] rfl ?_
      exact hk15 v9 v10
    · refine r_iconst (v := 0) C dX10_idle_35 (by decide) ?_
      refine r_iadd C dX10_idle_36 ?_
      refine r_istore_n (lv' := fun v7 => [(2, .int v7), (0, .ref (gA g 50 0 0)), (1, .int l1), (3, .int l3)]) C dX10_idle_37 rfl (by decide) (fun _ => rfl) (fun v7 => ?_)
      refine r_iinc (c := 1) (lv' := fun v8 => [(3, .int v8), (2, .int v7), (0, .ref (gA g 50 0 0)), (1, .int l1)]) C 3 dX10_idle_38 rfl (by decide) (by decide) (fun _ => rfl) (fun v8 => ?_)
      refine r_goto (tgt := 15) C dX10_idle_41 (by decide) ?_
      refine r_lv [2, 3, 1, 0] rfl ?_
      exact hk15 v7 v8
set_option maxRecDepth 100000 in
set_option maxHeartbeats 4000000 in
theorem tl_X10_idle_15 {g : Gw} {x : Xw} (C : Cw g x cX10_idle RX10 4 (some .int) 12) (hm : x.2.2.2.2.2.2.2.2.2.2.2 = (0, 0)) (M : Mw) (l1 : Int32) (n : Nat) : ∀ (l2 : Int32) (l3 : Int32), Sw g x (fun q : Int32 × Mw => (some (.int q.1), q.2)) M 0 0 15 [(0, .ref (gA g 50 0 0)), (1, .int l1), (2, .int l2), (3, .int l3)] [] (it (fun _ _ => none) (B_X10_idle_15 l1 M) n l2 l3) := by
  induction n with
  | zero =>
    intro l2 l3
    exact r_none
  | succ n ih =>
    intro l2 l3
    exact t_X10_idle_15 C hm M l1 _ ih l2 l3
set_option maxRecDepth 100000 in
set_option maxHeartbeats 4000000 in
theorem c_X10_idle {g : Gw} {l : Launch} (p1 : Int32) (M : Mw) : Kw g l yX10_idle cX10_idle 4 (some .int) 12 0 0 [.ref (gA g 50 0 0), .int p1] M (fun q : Int32 × Mw => (some (.int q.1), q.2)) (F_X10_idle p1 M) := by
  refine Kw.of (own := RX10) (lv0 := [(0, .ref (gA g 50 0 0)), (1, .int p1)]) (by decide +kernel) rfl (Nat.le_of_ble_eq_true rfl) rfl (fun x C hl hm => ?_)
  subst hl
  unfold F_X10_idle
  refine r_aload_n C 0 dX10_idle_0 rfl rfl ?_
  refine r_iload_n C 1 dX10_idle_1 rfl rfl ?_
  refine r_callVWi (rest := []) C (c_X10_asksAt p1 M) dX10_idle_2 u_1499 in_50 (contW_50 g _ _ _ _ _) rfl u_1500 u_114 mi_X10_asksAt (by decide) rfl rfl (Nat.le_of_ble_eq_true rfl) (xk1 hm (by decide)) (xn1 hm (by decide)) (fun q1 h2 => ?_)
  refine r_if_ne (tgt := 11) C dX10_idle_5 (by decide) (fun h3 => ?_) (fun h3 => ?_)
  · refine r_bipush (v := (-2)) C dX10_idle_8 (by decide) ?_
    exact r_iret C dX10_idle_10 rfl rfl (xk0 hm) (xn0 hm)
  · refine r_iconst (v := 0) C dX10_idle_11 (by decide) ?_
    refine r_istore_n0 (lv' := [(2, .int 0), (0, .ref (gA g 50 0 0)), (1, .int p1)]) C dX10_idle_12 rfl (by decide) rfl ?_
    refine r_iconst (v := 0) C dX10_idle_13 (by decide) ?_
    refine r_istore_n0 (lv' := [(3, .int 0), (2, .int 0), (0, .ref (gA g 50 0 0)), (1, .int p1)]) C dX10_idle_14 rfl (by decide) rfl ?_
    refine r_lv [2, 3, 1, 0] rfl ?_
    exact tl_X10_idle_15 C hm q1.2 p1 FU 0 0
def F_X10_asksOf (p1 : Int32) (p2 : Int32) (M : Mw) : Option (Int32 × Mw) :=
  ((F_X10_isTask p1 M).bind (fun v1 => (if v1 = 0 then some (0, M) else ((F_X10_asksAt p2 M).bind (fun q4 => (if q4.1 = 0 then some (0, q4.2) else some (1, q4.2)))))))
set_option maxRecDepth 100000 in
set_option maxHeartbeats 4000000 in
theorem c_X10_asksOf {g : Gw} {l : Launch} (p1 : Int32) (p2 : Int32) (M : Mw) : Kw g l yX10_asksOf cX10_asksOf 3 (some .boolean) 12 0 0 [.ref (gA g 50 0 0), .int p1, .int p2] M (fun q : Int32 × Mw => (some (.int q.1), q.2)) (F_X10_asksOf p1 p2 M) := by
  refine Kw.of (own := RX10) (lv0 := [(0, .ref (gA g 50 0 0)), (1, .int p1), (2, .int p2)]) (by decide +kernel) rfl (Nat.le_of_ble_eq_true rfl) rfl (fun x C hl hm => ?_)
  subst hl
  unfold F_X10_asksOf
  refine r_aload_n C 0 dX10_asksOf_0 rfl rfl ?_
  refine r_iload_n C 1 dX10_asksOf_1 rfl rfl ?_
  refine r_callVRi (rest := []) C (c_X10_isTask p1 M) dX10_asksOf_2 u_1266 in_50 (contW_50 g _ _ _ _ _) rfl u_1267 u_66 mi_X10_isTask (by decide) rfl rfl (Nat.le_of_ble_eq_true rfl) (xk1 hm (by decide)) (xn1 hm (by decide)) (fun v1 h2 => ?_)
  refine r_if_eq (tgt := 20) C dX10_asksOf_5 (by decide) (fun h3 => ?_) (fun h3 => ?_)
  · refine r_iconst (v := 0) C dX10_asksOf_20 (by decide) ?_
    exact r_zretc C dX10_asksOf_21 rfl bz0 rfl (xk0 hm) (xn0 hm)
  · refine r_aload_n C 0 dX10_asksOf_8 rfl rfl ?_
    refine r_iload_n C 2 dX10_asksOf_9 rfl rfl ?_
    refine r_callVWi (rest := []) C (c_X10_asksAt p2 M) dX10_asksOf_10 u_1499 in_50 (contW_50 g _ _ _ _ _) rfl u_1500 u_114 mi_X10_asksAt (by decide) rfl rfl (Nat.le_of_ble_eq_true rfl) (xk1 hm (by decide)) (xn1 hm (by decide)) (fun q4 h5 => ?_)
    refine r_if_eq (tgt := 20) C dX10_asksOf_13 (by decide) (fun h6 => ?_) (fun h6 => ?_)
    · refine r_iconst (v := 0) C dX10_asksOf_20 (by decide) ?_
      exact r_zretc C dX10_asksOf_21 rfl bz0 rfl (xk0 hm) (xn0 hm)
    · refine r_iconst (v := 1) C dX10_asksOf_16 (by decide) ?_
      refine r_goto (tgt := 21) C dX10_asksOf_17 (by decide) ?_
      exact r_zretc C dX10_asksOf_21 rfl bz1 rfl (xk0 hm) (xn0 hm)
def F_X10_kicks (p1 : Int32) (p2 : Int32) (M : Mw) : Option (Int32 × Mw) :=
  ((F_X10_asksOf p1 p2 M).bind (fun q1 => (if q1.1 = 0 then some ((-2), q1.2) else (if inb p1 5 then some ((q1.2.1 77 0 0 p1.toNatClampNeg), q1.2) else none))))
set_option maxRecDepth 100000 in
set_option maxHeartbeats 4000000 in
theorem c_X10_kicks {g : Gw} {l : Launch} (p1 : Int32) (p2 : Int32) (M : Mw) : Kw g l yX10_kicks cX10_kicks 3 (some .int) 13 0 0 [.ref (gA g 50 0 0), .int p1, .int p2] M (fun q : Int32 × Mw => (some (.int q.1), q.2)) (F_X10_kicks p1 p2 M) := by
  refine Kw.of (own := RX10) (lv0 := [(0, .ref (gA g 50 0 0)), (1, .int p1), (2, .int p2)]) (by decide +kernel) rfl (Nat.le_of_ble_eq_true rfl) rfl (fun x C hl hm => ?_)
  subst hl
  unfold F_X10_kicks
  refine r_aload_n C 0 dX10_kicks_0 rfl rfl ?_
  refine r_iload_n C 1 dX10_kicks_1 rfl rfl ?_
  refine r_iload_n C 2 dX10_kicks_2 rfl rfl ?_
  refine r_callVWi (rest := []) C (c_X10_asksOf p1 p2 M) dX10_kicks_3 u_1509 in_50 (contW_50 g _ _ _ _ _) rfl u_1510 u_116 mi_X10_asksOf (by decide) rfl rfl (Nat.le_of_ble_eq_true rfl) (xk1 hm (by decide)) (xn1 hm (by decide)) (fun q1 h2 => ?_)
  refine r_if_eq (tgt := 18) C dX10_kicks_6 (by decide) (fun h3 => ?_) (fun h3 => ?_)
  · refine r_bipush (v := (-2)) C dX10_kicks_18 (by decide) ?_
    exact r_iret C dX10_kicks_20 rfl rfl (xk0 hm) (xn0 hm)
  · refine r_aload_n C 0 dX10_kicks_9 rfl rfl ?_
    refine gf_50_41 C dX10_kicks_10 u_1146 in_50 ?_
    refine r_iload_n C 1 dX10_kicks_13 rfl rfl ?_
    refine r_iald C dX10_kicks_14 in_77 (contW_77 g _ _ _ _ _) (fun h4 => ?_)
    refine r_goto (tgt := 20) C dX10_kicks_15 (by decide) ?_
    exact r_iret C dX10_kicks_20 rfl rfl (xk0 hm) (xn0 hm)
def F_X10_kicked (p1 : Int32) (p2 : Int32) (M : Mw) : Option (Int32 × Mw) :=
  ((F_X10_asksOf p1 p2 M).bind (fun q1 => (if q1.1 = 0 then some ((-2), q1.2) else (if inb p1 5 then some ((q1.2.1 78 0 0 p1.toNatClampNeg), q1.2) else none))))
set_option maxRecDepth 100000 in
set_option maxHeartbeats 4000000 in
theorem c_X10_kicked {g : Gw} {l : Launch} (p1 : Int32) (p2 : Int32) (M : Mw) : Kw g l yX10_kicked cX10_kicked 3 (some .int) 13 0 0 [.ref (gA g 50 0 0), .int p1, .int p2] M (fun q : Int32 × Mw => (some (.int q.1), q.2)) (F_X10_kicked p1 p2 M) := by
  refine Kw.of (own := RX10) (lv0 := [(0, .ref (gA g 50 0 0)), (1, .int p1), (2, .int p2)]) (by decide +kernel) rfl (Nat.le_of_ble_eq_true rfl) rfl (fun x C hl hm => ?_)
  subst hl
  unfold F_X10_kicked
  refine r_aload_n C 0 dX10_kicked_0 rfl rfl ?_
  refine r_iload_n C 1 dX10_kicked_1 rfl rfl ?_
  refine r_iload_n C 2 dX10_kicked_2 rfl rfl ?_
  refine r_callVWi (rest := []) C (c_X10_asksOf p1 p2 M) dX10_kicked_3 u_1509 in_50 (contW_50 g _ _ _ _ _) rfl u_1510 u_116 mi_X10_asksOf (by decide) rfl rfl (Nat.le_of_ble_eq_true rfl) (xk1 hm (by decide)) (xn1 hm (by decide)) (fun q1 h2 => ?_)
  refine r_if_eq (tgt := 18) C dX10_kicked_6 (by decide) (fun h3 => ?_) (fun h3 => ?_)
  · refine r_bipush (v := (-2)) C dX10_kicked_18 (by decide) ?_
    exact r_iret C dX10_kicked_20 rfl rfl (xk0 hm) (xn0 hm)
  · refine r_aload_n C 0 dX10_kicked_9 rfl rfl ?_
    refine gf_50_42 C dX10_kicked_10 u_1147 in_50 ?_
    refine r_iload_n C 1 dX10_kicked_13 rfl rfl ?_
    refine r_iald C dX10_kicked_14 in_78 (contW_78 g _ _ _ _ _) (fun h4 => ?_)
    refine r_goto (tgt := 20) C dX10_kicked_15 (by decide) ?_
    exact r_iret C dX10_kicked_20 rfl rfl (xk0 hm) (xn0 hm)
