def B_X10_readInjection_189 (M : Mw) : Option (Mw) :=
  (bd (uIw M 56 0 0 5 ((M.1 56 0 0 5) + 1)) (fun M25 => some M25))
def B_X10_readInjection_171 (l2 : Int32) (M : Mw) : Option (Mw) :=
  ((F_X10_toldBy 20 1 9 M).bind (fun q21 => (if inb (l2 + 4) 201 then (bd (uIw q21.2 56 0 0 (l2 + 4).toNatClampNeg q21.1) (fun M23 => (B_X10_readInjection_189 M23))) else none)))
def F_X10_readInjection (p1 : Int32) (M : Mw) : Option (Mw) :=
  ((F_X10_canTake 5 8 M).bind (fun q1 => (if q1.1 = 0 then some q1.2 else (bd (106 + (5 * (q1.2.1 56 0 0 5))) (fun v4 => (if inb v4 201 then (bd (uIw q1.2 56 0 0 v4.toNatClampNeg p1) (fun M5 => (if inb (v4 + 3) 201 then (bd (uIw M5 56 0 0 (v4 + 3).toNatClampNeg (-1)) (fun M7 => (if inb (v4 + 4) 201 then (bd (uIw M7 56 0 0 (v4 + 4).toNatClampNeg (-1)) (fun M9 => (if p1 = 5 then ((F_X10_takes 0 ((M9.1 56 0 0 3) - 1) M9).bind (fun q32 => (if inb (v4 + 1) 201 then (bd (uIw q32.2 56 0 0 (v4 + 1).toNatClampNeg q32.1) (fun M34 => ((F_X10_toldBy 18 0 199 M34).bind (fun q36 => (if inb (v4 + 2) 201 then (bd (uIw q36.2 56 0 0 (v4 + 2).toNatClampNeg q36.1) (fun M38 => (B_X10_readInjection_189 M38))) else none))))) else none))) else ((F_X10_taskRead M9).bind (fun q12 => (if inb (v4 + 1) 201 then (bd (uIw q12.2 56 0 0 (v4 + 1).toNatClampNeg q12.1) (fun M14 => ((F_X10_toldBy 5 0 50 M14).bind (fun q16 => (if inb (v4 + 2) 201 then (bd (uIw q16.2 56 0 0 (v4 + 2).toNatClampNeg q16.1) (fun M18 => (if p1 = 4 then (B_X10_readInjection_171 v4 M18) else (if inb (v4 + 1) 201 then (if inb ((11 + (7 * (M18.1 56 0 0 (v4 + 1).toNatClampNeg))) + 6) 201 then ((F_X10_toldBy 9 0 ((M18.1 56 0 0 ((11 + (7 * (M18.1 56 0 0 (v4 + 1).toNatClampNeg))) + 6).toNatClampNeg) - 1) M18).bind (fun q28 => (if inb (v4 + 3) 201 then (bd (uIw q28.2 56 0 0 (v4 + 3).toNatClampNeg q28.1) (fun M30 => (B_X10_readInjection_171 v4 M30))) else none))) else none) else none)))) else none))))) else none)))))) else none))) else none))) else none))))))
set_option maxRecDepth 100000 in
set_option maxHeartbeats 4000000 in
theorem t_X10_readInjection_189 {g : Gw} {x : Xw} (C : Cw g x cX10_readInjection RX10 3 none 10) (hm : x.2.2.2.2.2.2.2.2.2.2.2 = (0, 0)) (M : Mw) : Sw g x (fun M : Mw => (none, M)) M 0 0 189 [(0, .ref (gA g 50 0 0))] [] (B_X10_readInjection_189 M) := by
  unfold B_X10_readInjection_189
  refine r_aload_n C 0 dX10_readInjection_189 rfl rfl ?_
  refine gf_50_14 C dX10_readInjection_190 u_1119 in_50 ?_
  refine r_iconst (v := 5) C dX10_readInjection_193 (by decide) ?_
  refine r_dup2 C rfl rfl dX10_readInjection_194 ?_
  refine r_ialdc C dX10_readInjection_195 in_56 (contW_56 g _ _ _ _ _) (by decide) (j := 5) (by decide) ?_
  refine r_iconst (v := 1) C dX10_readInjection_196 (by decide) ?_
  refine r_iadd C dX10_readInjection_197 ?_
  refine r_iastc C dX10_readInjection_198 in_56 (contW_56 g _ _) (by decide) (j := 5) (by decide) (fun M25 => ?_)
  exact r_vret C dX10_readInjection_199 rfl rfl (xk0 hm) (xn0 hm)
set_option maxRecDepth 100000 in
set_option maxHeartbeats 4000000 in
theorem t_X10_readInjection_171 {g : Gw} {x : Xw} (C : Cw g x cX10_readInjection RX10 3 none 10) (hm : x.2.2.2.2.2.2.2.2.2.2.2 = (0, 0)) (l2 : Int32) (M : Mw) : Sw g x (fun M : Mw => (none, M)) M 0 0 171 [(0, .ref (gA g 50 0 0)), (2, .int l2)] [] (B_X10_readInjection_171 l2 M) := by
  unfold B_X10_readInjection_171
  refine r_aload_n C 0 dX10_readInjection_171 rfl rfl ?_
  refine gf_50_14 C dX10_readInjection_172 u_1119 in_50 ?_
  refine r_iload_n C 1 dX10_readInjection_175 rfl rfl ?_
  refine r_iconst (v := 4) C dX10_readInjection_176 (by decide) ?_
  refine r_iadd C dX10_readInjection_177 ?_
  refine r_aload_n C 0 dX10_readInjection_178 rfl rfl ?_
  refine r_ldcSw (i := 20) (tx := "times") C (by decide) dX10_readInjection_179 ?_
  refine r_iconst (v := 1) C dX10_readInjection_182 (by decide) ?_
  refine r_bipush (v := 9) C dX10_readInjection_183 (by decide) ?_
  refine r_callVWi (rest := [.int (l2 + 4), .ref (gA g 56 0 0)]) C (c_X10_toldBy (by decide) 1 9 M) dX10_readInjection_185 u_1235 in_50 (contW_50 g _ _ _ _ _) rfl u_1236 u_57 mi_X10_toldBy (by decide) rfl rfl (Nat.le_of_ble_eq_true rfl) (xk1 hm (by decide)) (xn1 hm (by decide)) (fun q21 h22 => ?_)
  refine r_iast C dX10_readInjection_188 in_56 (contW_56 g _ _) (fun M23 h24 => ?_)
  refine r_lv [0] rfl ?_
  exact t_X10_readInjection_189 C hm M23
set_option maxRecDepth 100000 in
set_option maxHeartbeats 4000000 in
theorem c_X10_readInjection {g : Gw} {l : Launch} (p1 : Int32) (M : Mw) : Kw g l yX10_readInjection cX10_readInjection 3 none 10 0 0 [.ref (gA g 50 0 0), .int p1] M (fun M : Mw => (none, M)) (F_X10_readInjection p1 M) := by
  refine Kw.of (own := RX10) (lv0 := [(0, .ref (gA g 50 0 0)), (1, .int p1)]) (by decide +kernel) rfl (Nat.le_of_ble_eq_true rfl) rfl (fun x C hl hm => ?_)
  subst hl
  unfold F_X10_readInjection
  refine r_aload_n C 0 dX10_readInjection_0 rfl rfl ?_
  refine r_iconst (v := 5) C dX10_readInjection_1 (by decide) ?_
  refine r_bipush (v := 8) C dX10_readInjection_2 (by decide) ?_
  refine r_callVWi (rest := []) C (c_X10_canTake 5 8 M) dX10_readInjection_4 u_1244 in_50 (contW_50 g _ _ _ _ _) rfl u_1245 u_60 mi_X10_canTake (by decide) rfl rfl (Nat.le_of_ble_eq_true rfl) (xk1 hm (by decide)) (xn1 hm (by decide)) (fun q1 h2 => ?_)
  refine r_if_ne (tgt := 11) C dX10_readInjection_7 (by decide) (fun h3 => ?_) (fun h3 => ?_)
  · exact r_vret C dX10_readInjection_10 rfl rfl (xk0 hm) (xn0 hm)
  · refine r_bipush (v := 106) C dX10_readInjection_11 (by decide) ?_
    refine r_iconst (v := 5) C dX10_readInjection_13 (by decide) ?_
    refine r_aload_n C 0 dX10_readInjection_14 rfl rfl ?_
    refine gf_50_14 C dX10_readInjection_15 u_1119 in_50 ?_
    refine r_iconst (v := 5) C dX10_readInjection_18 (by decide) ?_
    refine r_ialdc C dX10_readInjection_19 in_56 (contW_56 g _ _ _ _ _) (by decide) (j := 5) (by decide) ?_
    refine r_imul C dX10_readInjection_20 ?_
    refine r_iadd C dX10_readInjection_21 ?_
    refine r_istore_n (lv' := fun v4 => [(2, .int v4), (0, .ref (gA g 50 0 0)), (1, .int p1)]) C dX10_readInjection_22 rfl (by decide) (fun _ => rfl) (fun v4 => ?_)
    refine r_aload_n C 1 dX10_readInjection_23 rfl rfl ?_
    refine gf_50_14 C dX10_readInjection_24 u_1119 in_50 ?_
    refine r_iload_n C 0 dX10_readInjection_27 rfl rfl ?_
    refine r_iload_n C 2 dX10_readInjection_28 rfl rfl ?_
    refine r_iast C dX10_readInjection_29 in_56 (contW_56 g _ _) (fun M5 h6 => ?_)
    refine r_aload_n C 1 dX10_readInjection_30 rfl rfl ?_
    refine gf_50_14 C dX10_readInjection_31 u_1119 in_50 ?_
    refine r_iload_n C 0 dX10_readInjection_34 rfl rfl ?_
    refine r_iconst (v := 3) C dX10_readInjection_35 (by decide) ?_
    refine r_iadd C dX10_readInjection_36 ?_
    refine r_iconst (v := (-1)) C dX10_readInjection_37 (by decide) ?_
    refine r_iast C dX10_readInjection_38 in_56 (contW_56 g _ _) (fun M7 h8 => ?_)
    refine r_aload_n C 1 dX10_readInjection_39 rfl rfl ?_
    refine gf_50_14 C dX10_readInjection_40 u_1119 in_50 ?_
    refine r_iload_n C 0 dX10_readInjection_43 rfl rfl ?_
    refine r_iconst (v := 4) C dX10_readInjection_44 (by decide) ?_
    refine r_iadd C dX10_readInjection_45 ?_
    refine r_iconst (v := (-1)) C dX10_readInjection_46 (by decide) ?_
    refine r_iast C dX10_readInjection_47 in_56 (contW_56 g _ _) (fun M9 h10 => ?_)
    refine r_iload_n C 2 dX10_readInjection_48 rfl rfl ?_
    refine r_iconst (v := 5) C dX10_readInjection_49 (by decide) ?_
    refine r_icmp_ne (tgt := 96) C dX10_readInjection_50 (by decide) (fun h11 => ?_) (fun h11 => ?_)
    · refine r_aload_n C 1 dX10_readInjection_53 rfl rfl ?_
      refine gf_50_14 C dX10_readInjection_54 u_1119 in_50 ?_
      refine r_iload_n C 0 dX10_readInjection_57 rfl rfl ?_
      refine r_iconst (v := 1) C dX10_readInjection_58 (by decide) ?_
      refine r_iadd C dX10_readInjection_59 ?_
      refine r_aload_n C 1 dX10_readInjection_60 rfl rfl ?_
      refine r_iconst (v := 0) C dX10_readInjection_61 (by decide) ?_
      refine r_aload_n C 1 dX10_readInjection_62 rfl rfl ?_
      refine gf_50_14 C dX10_readInjection_63 u_1119 in_50 ?_
      refine r_iconst (v := 3) C dX10_readInjection_66 (by decide) ?_
      refine r_ialdc C dX10_readInjection_67 in_56 (contW_56 g _ _ _ _ _) (by decide) (j := 3) (by decide) ?_
      refine r_iconst (v := 1) C dX10_readInjection_68 (by decide) ?_
      refine r_isub C dX10_readInjection_69 ?_
      refine r_callVWi (rest := [.int (v4 + 1), .ref (gA g 56 0 0)]) C (c_X10_takes 0 ((M9.1 56 0 0 3) - 1) M9) dX10_readInjection_70 u_1238 in_50 (contW_50 g _ _ _ _ _) rfl u_1239 u_58 mi_X10_takes (by decide) rfl rfl (Nat.le_of_ble_eq_true rfl) (xk1 hm (by decide)) (xn1 hm (by decide)) (fun q32 h33 => ?_)
      refine r_iast C dX10_readInjection_73 in_56 (contW_56 g _ _) (fun M34 h35 => ?_)
      refine r_aload_n C 1 dX10_readInjection_74 rfl rfl ?_
      refine gf_50_14 C dX10_readInjection_75 u_1119 in_50 ?_
      refine r_iload_n C 0 dX10_readInjection_78 rfl rfl ?_
      refine r_iconst (v := 2) C dX10_readInjection_79 (by decide) ?_
      refine r_iadd C dX10_readInjection_80 ?_
      refine r_aload_n C 1 dX10_readInjection_81 rfl rfl ?_
      refine r_ldcSw (i := 18) (tx := "tick") C (by decide) dX10_readInjection_82 ?_
      refine r_iconst (v := 0) C dX10_readInjection_85 (by decide) ?_
      refine r_sipush (v := 199) C dX10_readInjection_86 (by decide) ?_
      refine r_callVWi (rest := [.int (v4 + 2), .ref (gA g 56 0 0)]) C (c_X10_toldBy (by decide) 0 199 M34) dX10_readInjection_89 u_1235 in_50 (contW_50 g _ _ _ _ _) rfl u_1236 u_57 mi_X10_toldBy (by decide) rfl rfl (Nat.le_of_ble_eq_true rfl) (xk1 hm (by decide)) (xn1 hm (by decide)) (fun q36 h37 => ?_)
      refine r_iast C dX10_readInjection_92 in_56 (contW_56 g _ _) (fun M38 h39 => ?_)
      refine r_goto (tgt := 189) C dX10_readInjection_93 (by decide) ?_
      refine r_lv [1] rfl ?_
      exact t_X10_readInjection_189 C hm M38
    · refine r_aload_n C 1 dX10_readInjection_96 rfl rfl ?_
      refine gf_50_14 C dX10_readInjection_97 u_1119 in_50 ?_
      refine r_iload_n C 0 dX10_readInjection_100 rfl rfl ?_
      refine r_iconst (v := 1) C dX10_readInjection_101 (by decide) ?_
      refine r_iadd C dX10_readInjection_102 ?_
      refine r_aload_n C 1 dX10_readInjection_103 rfl rfl ?_
      refine r_callVWi (rest := [.int (v4 + 1), .ref (gA g 56 0 0)]) C (c_X10_taskRead M9) dX10_readInjection_104 u_1259 in_50 (contW_50 g _ _ _ _ _) rfl u_1260 u_65 mi_X10_taskRead (by decide) rfl rfl (Nat.le_of_ble_eq_true rfl) (xk1 hm (by decide)) (xn1 hm (by decide)) (fun q12 h13 => ?_)
      refine r_iast C dX10_readInjection_107 in_56 (contW_56 g _ _) (fun M14 h15 => ?_)
      refine r_aload_n C 1 dX10_readInjection_108 rfl rfl ?_
      refine gf_50_14 C dX10_readInjection_109 u_1119 in_50 ?_
      refine r_iload_n C 0 dX10_readInjection_112 rfl rfl ?_
      refine r_iconst (v := 2) C dX10_readInjection_113 (by decide) ?_
      refine r_iadd C dX10_readInjection_114 ?_
      refine r_aload_n C 1 dX10_readInjection_115 rfl rfl ?_
      refine r_ldcSw (i := 5) (tx := "job") C (by decide) dX10_readInjection_116 ?_
      refine r_iconst (v := 0) C dX10_readInjection_119 (by decide) ?_
      refine r_bipush (v := 50) C dX10_readInjection_120 (by decide) ?_
      refine r_callVWi (rest := [.int (v4 + 2), .ref (gA g 56 0 0)]) C (c_X10_toldBy (by decide) 0 50 M14) dX10_readInjection_122 u_1235 in_50 (contW_50 g _ _ _ _ _) rfl u_1236 u_57 mi_X10_toldBy (by decide) rfl rfl (Nat.le_of_ble_eq_true rfl) (xk1 hm (by decide)) (xn1 hm (by decide)) (fun q16 h17 => ?_)
      refine r_iast C dX10_readInjection_125 in_56 (contW_56 g _ _) (fun M18 h19 => ?_)
      refine r_iload_n C 2 dX10_readInjection_126 rfl rfl ?_
      refine r_iconst (v := 4) C dX10_readInjection_127 (by decide) ?_
      refine r_icmp_eq (tgt := 171) C dX10_readInjection_128 (by decide) (fun h20 => ?_) (fun h20 => ?_)
      · refine r_lv [1, 0] rfl ?_
        exact t_X10_readInjection_171 C hm v4 M18
      · refine r_aload_n C 1 dX10_readInjection_131 rfl rfl ?_
        refine gf_50_14 C dX10_readInjection_132 u_1119 in_50 ?_
        refine r_iload_n C 0 dX10_readInjection_135 rfl rfl ?_
        refine r_iconst (v := 3) C dX10_readInjection_136 (by decide) ?_
        refine r_iadd C dX10_readInjection_137 ?_
        refine r_aload_n C 1 dX10_readInjection_138 rfl rfl ?_
        refine r_ldcSw (i := 9) (tx := "node") C (by decide) dX10_readInjection_139 ?_
        refine r_iconst (v := 0) C dX10_readInjection_142 (by decide) ?_
        refine r_aload_n C 1 dX10_readInjection_143 rfl rfl ?_
        refine gf_50_14 C dX10_readInjection_144 u_1119 in_50 ?_
        refine r_bipush (v := 11) C dX10_readInjection_147 (by decide) ?_
        refine r_bipush (v := 7) C dX10_readInjection_149 (by decide) ?_
        refine r_aload_n C 1 dX10_readInjection_151 rfl rfl ?_
        refine gf_50_14 C dX10_readInjection_152 u_1119 in_50 ?_
        refine r_iload_n C 0 dX10_readInjection_155 rfl rfl ?_
        refine r_iconst (v := 1) C dX10_readInjection_156 (by decide) ?_
        refine r_iadd C dX10_readInjection_157 ?_
        refine r_iald C dX10_readInjection_158 in_56 (contW_56 g _ _ _ _ _) (fun h26 => ?_)
        refine r_imul C dX10_readInjection_159 ?_
        refine r_iadd C dX10_readInjection_160 ?_
        refine r_bipush (v := 6) C dX10_readInjection_161 (by decide) ?_
        refine r_iadd C dX10_readInjection_163 ?_
        refine r_iald C dX10_readInjection_164 in_56 (contW_56 g _ _ _ _ _) (fun h27 => ?_)
        refine r_iconst (v := 1) C dX10_readInjection_165 (by decide) ?_
        refine r_isub C dX10_readInjection_166 ?_
        refine r_callVWi (rest := [.int (v4 + 3), .ref (gA g 56 0 0)]) C (c_X10_toldBy (by decide) 0 ((M18.1 56 0 0 ((11 + (7 * (M18.1 56 0 0 (v4 + 1).toNatClampNeg))) + 6).toNatClampNeg) - 1) M18) dX10_readInjection_167 u_1235 in_50 (contW_50 g _ _ _ _ _) rfl u_1236 u_57 mi_X10_toldBy (by decide) rfl rfl (Nat.le_of_ble_eq_true rfl) (xk1 hm (by decide)) (xn1 hm (by decide)) (fun q28 h29 => ?_)
        refine r_iast C dX10_readInjection_170 in_56 (contW_56 g _ _) (fun M30 h31 => ?_)
        refine r_lv [1, 0] rfl ?_
        exact t_X10_readInjection_171 C hm v4 M30
def B_X10_readText_122 (M : Mw) : Option (Mw) :=
  (bd (uIw M 56 0 0 7 ((M.1 56 0 0 7) + 1)) (fun M22 => some M22))
def B_X10_readText_111 (M : Mw) : Option (Mw) :=
  ((F_X10_good M).bind (fun v19 => (if v19 = 0 then (B_X10_readText_122 M) else ((F_X10_advance M).bind (fun M23 => (B_X10_readText_122 M23))))))
def B_X10_readText_91 (M : Mw) : Option (Mw) :=
  ((F_X10_good M).bind (fun v16 => (if v16 = 0 then (B_X10_readText_111 M) else (if (M.1 50 0 0 10) = 3 then (B_X10_readText_111 M) else ((F_X10_errs 1 M).bind (fun M26 => (B_X10_readText_111 M26)))))))
def F_X10_readText (M : Mw) : Option (Mw) :=
  ((F_X10_kindRead M).bind (fun v1 => (if (M.1 56 0 0 7) = 0 then ((F_X10_readBoard M).bind (fun M36 => (B_X10_readText_91 M36))) else ((F_X10_is 22 M).bind (fun v4 => (if v4 = 0 then ((F_X10_is 17 M).bind (fun v7 => (if v7 = 0 then ((F_X10_is 9 M).bind (fun v10 => (if v10 = 0 then (if v1 = (-1) then ((F_X10_errs 1 M).bind (fun M14 => (B_X10_readText_91 M14))) else ((F_X10_readInjection v1 M).bind (fun M28 => (B_X10_readText_91 M28)))) else ((F_X10_readNode M).bind (fun M30 => (B_X10_readText_91 M30)))))) else ((F_X10_readTask M).bind (fun M32 => (B_X10_readText_91 M32)))))) else ((F_X10_readWatcher M).bind (fun M34 => (B_X10_readText_91 M34)))))))))
set_option maxRecDepth 100000 in
set_option maxHeartbeats 4000000 in
theorem t_X10_readText_122 {g : Gw} {x : Xw} (C : Cw g x cX10_readText RX10 2 none 11) (hm : x.2.2.2.2.2.2.2.2.2.2.2 = (0, 0)) (M : Mw) : Sw g x (fun M : Mw => (none, M)) M 0 0 122 [(0, .ref (gA g 50 0 0))] [] (B_X10_readText_122 M) := by
  unfold B_X10_readText_122
  refine r_aload_n C 0 dX10_readText_122 rfl rfl ?_
  refine gf_50_14 C dX10_readText_123 u_1119 in_50 ?_
  refine r_bipush (v := 7) C dX10_readText_126 (by decide) ?_
  refine r_dup2 C rfl rfl dX10_readText_128 ?_
  refine r_ialdc C dX10_readText_129 in_56 (contW_56 g _ _ _ _ _) (by decide) (j := 7) (by decide) ?_
  refine r_iconst (v := 1) C dX10_readText_130 (by decide) ?_
  refine r_iadd C dX10_readText_131 ?_
  refine r_iastc C dX10_readText_132 in_56 (contW_56 g _ _) (by decide) (j := 7) (by decide) (fun M22 => ?_)
  exact r_vret C dX10_readText_133 rfl rfl (xk0 hm) (xn0 hm)
set_option maxRecDepth 100000 in
set_option maxHeartbeats 4000000 in
theorem t_X10_readText_111 {g : Gw} {x : Xw} (C : Cw g x cX10_readText RX10 2 none 11) (hm : x.2.2.2.2.2.2.2.2.2.2.2 = (0, 0)) (M : Mw) : Sw g x (fun M : Mw => (none, M)) M 0 0 111 [(0, .ref (gA g 50 0 0))] [] (B_X10_readText_111 M) := by
  unfold B_X10_readText_111
  refine r_aload_n C 0 dX10_readText_111 rfl rfl ?_
  refine r_callVRi (rest := []) C (c_X10_good M) dX10_readText_112 u_1209 in_50 (contW_50 g _ _ _ _ _) rfl u_1210 u_50 mi_X10_good (by decide) rfl rfl (Nat.le_of_ble_eq_true rfl) (xk1 hm (by decide)) (xn1 hm (by decide)) (fun v19 h20 => ?_)
  refine r_if_eq (tgt := 122) C dX10_readText_115 (by decide) (fun h21 => ?_) (fun h21 => ?_)
  · exact t_X10_readText_122 C hm M
  · refine r_aload_n C 0 dX10_readText_118 rfl rfl ?_
    refine r_callVU (rest := []) C (c_X10_advance M) dX10_readText_119 u_1197 in_50 (contW_50 g _ _ _ _ _) rfl u_1198 u_48 mi_X10_advance (by decide) rfl rfl (Nat.le_of_ble_eq_true rfl) (xk1 hm (by decide)) (xn1 hm (by decide)) (fun M23 h24 => ?_)
    exact t_X10_readText_122 C hm M23
set_option maxRecDepth 100000 in
set_option maxHeartbeats 4000000 in
theorem t_X10_readText_91 {g : Gw} {x : Xw} (C : Cw g x cX10_readText RX10 2 none 11) (hm : x.2.2.2.2.2.2.2.2.2.2.2 = (0, 0)) (M : Mw) : Sw g x (fun M : Mw => (none, M)) M 0 0 91 [(0, .ref (gA g 50 0 0))] [] (B_X10_readText_91 M) := by
  unfold B_X10_readText_91
  refine r_aload_n C 0 dX10_readText_91 rfl rfl ?_
  refine r_callVRi (rest := []) C (c_X10_good M) dX10_readText_92 u_1209 in_50 (contW_50 g _ _ _ _ _) rfl u_1210 u_50 mi_X10_good (by decide) rfl rfl (Nat.le_of_ble_eq_true rfl) (xk1 hm (by decide)) (xn1 hm (by decide)) (fun v16 h17 => ?_)
  refine r_if_eq (tgt := 111) C dX10_readText_95 (by decide) (fun h18 => ?_) (fun h18 => ?_)
  · exact t_X10_readText_111 C hm M
  · refine r_aload_n C 0 dX10_readText_98 rfl rfl ?_
    refine gf_50_10 C dX10_readText_99 u_1115 in_50 ?_
    refine r_iconst (v := 3) C dX10_readText_102 (by decide) ?_
    refine r_icmp_eq (tgt := 111) C dX10_readText_103 (by decide) (fun h25 => ?_) (fun h25 => ?_)
    · exact t_X10_readText_111 C hm M
    · refine r_aload_n C 0 dX10_readText_106 rfl rfl ?_
      refine r_iconst (v := 1) C dX10_readText_107 (by decide) ?_
      refine r_callVU (rest := []) C (c_X10_errs 1 M) dX10_readText_108 u_1232 in_50 (contW_50 g _ _ _ _ _) rfl u_1233 u_56 mi_X10_errs (by decide) rfl rfl (Nat.le_of_ble_eq_true rfl) (xk1 hm (by decide)) (xn1 hm (by decide)) (fun M26 h27 => ?_)
      exact t_X10_readText_111 C hm M26
set_option maxRecDepth 100000 in
set_option maxHeartbeats 4000000 in
theorem c_X10_readText {g : Gw} {l : Launch} (M : Mw) : Kw g l yX10_readText cX10_readText 2 none 11 0 0 [.ref (gA g 50 0 0)] M (fun M : Mw => (none, M)) (F_X10_readText M) := by
  refine Kw.of (own := RX10) (lv0 := [(0, .ref (gA g 50 0 0))]) (by decide +kernel) rfl (Nat.le_of_ble_eq_true rfl) rfl (fun x C hl hm => ?_)
  subst hl
  unfold F_X10_readText
  refine r_aload_n C 0 dX10_readText_0 rfl rfl ?_
  refine r_callVRi (rest := []) C (c_X10_kindRead M) dX10_readText_1 u_1215 in_50 (contW_50 g _ _ _ _ _) rfl u_1216 u_52 mi_X10_kindRead (by decide) rfl rfl (Nat.le_of_ble_eq_true rfl) (xk1 hm (by decide)) (xn1 hm (by decide)) (fun v1 h2 => ?_)
  refine r_istore_n0 (lv' := [(1, .int v1), (0, .ref (gA g 50 0 0))]) C dX10_readText_4 rfl (by decide) rfl ?_
  refine r_aload_n C 1 dX10_readText_5 rfl rfl ?_
  refine gf_50_14 C dX10_readText_6 u_1119 in_50 ?_
  refine r_bipush (v := 7) C dX10_readText_9 (by decide) ?_
  refine r_ialdc C dX10_readText_11 in_56 (contW_56 g _ _ _ _ _) (by decide) (j := 7) (by decide) ?_
  refine r_if_ne (tgt := 22) C dX10_readText_12 (by decide) (fun h3 => ?_) (fun h3 => ?_)
  · refine r_aload_n C 1 dX10_readText_15 rfl rfl ?_
    refine r_callVU (rest := []) C (c_X10_readBoard M) dX10_readText_16 u_1226 in_50 (contW_50 g _ _ _ _ _) rfl u_1227 u_54 mi_X10_readBoard (by decide) rfl rfl (Nat.le_of_ble_eq_true rfl) (xk1 hm (by decide)) (xn1 hm (by decide)) (fun M36 h37 => ?_)
    refine r_goto (tgt := 91) C dX10_readText_19 (by decide) ?_
    refine r_lv [1] rfl ?_
    exact t_X10_readText_91 C hm M36
  · refine r_aload_n C 1 dX10_readText_22 rfl rfl ?_
    refine r_ldcSw (i := 22) (tx := "watcher") C (by decide) dX10_readText_23 ?_
    refine r_callVRi (rest := []) C (c_X10_is (by decide) M) dX10_readText_26 u_1221 in_50 (contW_50 g _ _ _ _ _) rfl u_1222 u_53 mi_X10_is (by decide) rfl rfl (Nat.le_of_ble_eq_true rfl) (xk1 hm (by decide)) (xn1 hm (by decide)) (fun v4 h5 => ?_)
    refine r_if_eq (tgt := 39) C dX10_readText_29 (by decide) (fun h6 => ?_) (fun h6 => ?_)
    · refine r_aload_n C 1 dX10_readText_39 rfl rfl ?_
      refine r_ldcSw (i := 17) (tx := "task") C (by decide) dX10_readText_40 ?_
      refine r_callVRi (rest := []) C (c_X10_is (by decide) M) dX10_readText_43 u_1221 in_50 (contW_50 g _ _ _ _ _) rfl u_1222 u_53 mi_X10_is (by decide) rfl rfl (Nat.le_of_ble_eq_true rfl) (xk1 hm (by decide)) (xn1 hm (by decide)) (fun v7 h8 => ?_)
      refine r_if_eq (tgt := 56) C dX10_readText_46 (by decide) (fun h9 => ?_) (fun h9 => ?_)
      · refine r_aload_n C 1 dX10_readText_56 rfl rfl ?_
        refine r_ldcSw (i := 9) (tx := "node") C (by decide) dX10_readText_57 ?_
        refine r_callVRi (rest := []) C (c_X10_is (by decide) M) dX10_readText_60 u_1221 in_50 (contW_50 g _ _ _ _ _) rfl u_1222 u_53 mi_X10_is (by decide) rfl rfl (Nat.le_of_ble_eq_true rfl) (xk1 hm (by decide)) (xn1 hm (by decide)) (fun v10 h11 => ?_)
        refine r_if_eq (tgt := 73) C dX10_readText_63 (by decide) (fun h12 => ?_) (fun h12 => ?_)
        · refine r_iload_n C 0 dX10_readText_73 rfl rfl ?_
          refine r_iconst (v := (-1)) C dX10_readText_74 (by decide) ?_
          refine r_icmp_eq (tgt := 86) C dX10_readText_75 (by decide) (fun h13 => ?_) (fun h13 => ?_)
          · refine r_aload_n C 1 dX10_readText_86 rfl rfl ?_
            refine r_iconst (v := 1) C dX10_readText_87 (by decide) ?_
            refine r_callVU (rest := []) C (c_X10_errs 1 M) dX10_readText_88 u_1232 in_50 (contW_50 g _ _ _ _ _) rfl u_1233 u_56 mi_X10_errs (by decide) rfl rfl (Nat.le_of_ble_eq_true rfl) (xk1 hm (by decide)) (xn1 hm (by decide)) (fun M14 h15 => ?_)
            refine r_lv [1] rfl ?_
            exact t_X10_readText_91 C hm M14
          · refine r_aload_n C 1 dX10_readText_78 rfl rfl ?_
            refine r_iload_n C 0 dX10_readText_79 rfl rfl ?_
            refine r_callVU (rest := []) C (c_X10_readInjection v1 M) dX10_readText_80 u_1256 in_50 (contW_50 g _ _ _ _ _) rfl u_1257 u_64 mi_X10_readInjection (by decide) rfl rfl (Nat.le_of_ble_eq_true rfl) (xk1 hm (by decide)) (xn1 hm (by decide)) (fun M28 h29 => ?_)
            refine r_goto (tgt := 91) C dX10_readText_83 (by decide) ?_
            refine r_lv [1] rfl ?_
            exact t_X10_readText_91 C hm M28
        · refine r_aload_n C 1 dX10_readText_66 rfl rfl ?_
          refine r_callVU (rest := []) C (c_X10_readNode M) dX10_readText_67 u_1250 in_50 (contW_50 g _ _ _ _ _) rfl u_1251 u_62 mi_X10_readNode (by decide) rfl rfl (Nat.le_of_ble_eq_true rfl) (xk1 hm (by decide)) (xn1 hm (by decide)) (fun M30 h31 => ?_)
          refine r_goto (tgt := 91) C dX10_readText_70 (by decide) ?_
          refine r_lv [1] rfl ?_
          exact t_X10_readText_91 C hm M30
      · refine r_aload_n C 1 dX10_readText_49 rfl rfl ?_
        refine r_callVU (rest := []) C (c_X10_readTask M) dX10_readText_50 u_1247 in_50 (contW_50 g _ _ _ _ _) rfl u_1248 u_61 mi_X10_readTask (by decide) rfl rfl (Nat.le_of_ble_eq_true rfl) (xk1 hm (by decide)) (xn1 hm (by decide)) (fun M32 h33 => ?_)
        refine r_goto (tgt := 91) C dX10_readText_53 (by decide) ?_
        refine r_lv [1] rfl ?_
        exact t_X10_readText_91 C hm M32
    · refine r_aload_n C 1 dX10_readText_32 rfl rfl ?_
      refine r_callVU (rest := []) C (c_X10_readWatcher M) dX10_readText_33 u_1241 in_50 (contW_50 g _ _ _ _ _) rfl u_1242 u_59 mi_X10_readWatcher (by decide) rfl rfl (Nat.le_of_ble_eq_true rfl) (xk1 hm (by decide)) (xn1 hm (by decide)) (fun M34 h35 => ?_)
      refine r_goto (tgt := 91) C dX10_readText_36 (by decide) ?_
      refine r_lv [1] rfl ?_
      exact t_X10_readText_91 C hm M34
def B_X10_board_143 (k143 : Int32 → Mw → Option (Int32 × Mw)) (l1 : Int32) (M : Mw) : Option (Int32 × Mw) :=
  (if 201 ≤ l1 then some ((M.1 51 0 0 7), M) else (if inb l1 201 then (if inb l1 201 then (bd (uIw M 51 0 0 l1.toNatClampNeg (M.1 56 0 0 l1.toNatClampNeg)) (fun M18 => (bd (l1 + 1) (fun v20 => (k143 v20 M18))))) else none) else none))
def B_X10_board_131 (M : Mw) : Option (Int32 × Mw) :=
  ((F_X10_good M).bind (fun v13 => (if v13 = 0 then some ((-4), M) else (it (fun _ _ => none) (B_X10_board_143) FU 0 M))))
def B_X10_board_77 (k77 : Int32 → Mw → Option (Int32 × Mw)) (l1 : Int32) (M : Mw) : Option (Int32 × Mw) :=
  (if (M.1 56 0 0 4) ≤ l1 then (B_X10_board_131 M) else ((F_X10_good M).bind (fun v21 => (if v21 = 0 then (B_X10_board_131 M) else (if inb ((11 + (7 * l1)) + 6) 201 then (if (M.1 56 0 0 ((11 + (7 * l1)) + 6).toNatClampNeg) ≤ 0 then (bd (uIw M 50 0 0 12 4) (fun M26 => (bd (uIw M26 50 0 0 13 l1) (fun M27 => (bd (l1 + 1) (fun v28 => (k77 v28 M27))))))) else (bd (l1 + 1) (fun v29 => (k77 v29 M)))) else none)))))
def B_X10_board_75 (M : Mw) : Option (Int32 × Mw) :=
  (it (fun _ _ => none) (B_X10_board_77) FU 0 M)
def B_X10_board_54 (k54 : Mw → Option (Int32 × Mw)) (M : Mw) : Option (Int32 × Mw) :=
  ((F_X10_good M).bind (fun v9 => (if v9 = 0 then (B_X10_board_75 M) else (if (M.1 50 0 0 10) = 0 then (B_X10_board_75 M) else ((F_X10_readText M).bind (fun M31 => (k54 M31)))))))
def B_X10_board_30 (k30 : Int32 → Mw → Option (Int32 × Mw)) (l1 : Int32) (M : Mw) : Option (Int32 × Mw) :=
  (if 201 ≤ l1 then ((F_X10_advance M).bind (fun M7 => (it (fun _ => none) (B_X10_board_54) FU M7))) else (if inb l1 201 then (bd (uIw M 56 0 0 l1.toNatClampNeg 0) (fun M33 => (bd (l1 + 1) (fun v35 => (k30 v35 M33))))) else none))
def F_X10_board (M : Mw) : Option (Int32 × Mw) :=
  (bd (uIw M 50 0 0 7 (M.1 50 0 0 5)) (fun M1 => (bd (uIw M1 50 0 0 5 0) (fun M2 => (bd (uIw M2 50 0 0 8 0) (fun M3 => (bd (uIw M3 50 0 0 12 0) (fun M4 => (bd (uIw M4 50 0 0 13 (-1)) (fun M5 => (it (fun _ _ => none) (B_X10_board_30) FU 0 M5)))))))))))
set_option maxRecDepth 100000 in
set_option maxHeartbeats 4000000 in
theorem t_X10_board_143 {g : Gw} {x : Xw} (C : Cw g x cX10_board RX10 2 (some .int) 12) (hm : x.2.2.2.2.2.2.2.2.2.2.2 = (0, 0)) (k143 : Int32 → Mw → Option (Int32 × Mw)) (hk143 : ∀ (l1 : Int32) (M : Mw), Sw g x (fun q : Int32 × Mw => (some (.int q.1), q.2)) M 0 0 143 [(0, .ref (gA g 50 0 0)), (1, .int l1)] [] (k143 l1 M)) (l1 : Int32) (M : Mw) : Sw g x (fun q : Int32 × Mw => (some (.int q.1), q.2)) M 0 0 143 [(0, .ref (gA g 50 0 0)), (1, .int l1)] [] (B_X10_board_143 k143 l1 M) := by
  unfold B_X10_board_143
  refine r_iload_n C 1 dX10_board_143 rfl rfl ?_
  refine r_sipush (v := 201) C dX10_board_144 (by decide) ?_
  refine r_icmp_ge (tgt := 168) C dX10_board_147 (by decide) (fun h16 => ?_) (fun h16 => ?_)
  · refine r_aload_n C 0 dX10_board_168 rfl rfl ?_
    refine gf_50_1 C dX10_board_169 u_1106 in_50 ?_
    refine r_bipush (v := 7) C dX10_board_172 (by decide) ?_
    refine r_ialdc C dX10_board_174 in_51 (contW_51 g _ _ _ _ _) (by decide) (j := 7) (by decide) ?_
    exact r_iret C dX10_board_175 rfl rfl (xk0 hm) (xn0 hm)
  · refine r_aload_n C 0 dX10_board_150 rfl rfl ?_
    refine gf_50_1 C dX10_board_151 u_1106 in_50 ?_
    refine r_iload_n C 1 dX10_board_154 rfl rfl ?_
    refine r_aload_n C 0 dX10_board_155 rfl rfl ?_
    refine gf_50_14 C dX10_board_156 u_1119 in_50 ?_
    refine r_iload_n C 1 dX10_board_159 rfl rfl ?_
    refine r_iald C dX10_board_160 in_56 (contW_56 g _ _ _ _ _) (fun h17 => ?_)
    refine r_iast C dX10_board_161 in_51 (contW_51 g _ _) (fun M18 h19 => ?_)
    refine r_iinc (c := 1) (lv' := fun v20 => [(1, .int v20), (0, .ref (gA g 50 0 0))]) C 1 dX10_board_162 rfl (by decide) (by decide) (fun _ => rfl) (fun v20 => ?_)
    refine r_goto (tgt := 143) C dX10_board_165 (by decide) ?_
    refine r_lv [1, 0] rfl ?_
    exact hk143 v20 M18
set_option maxRecDepth 100000 in
set_option maxHeartbeats 4000000 in
theorem tl_X10_board_143 {g : Gw} {x : Xw} (C : Cw g x cX10_board RX10 2 (some .int) 12) (hm : x.2.2.2.2.2.2.2.2.2.2.2 = (0, 0)) (n : Nat) : ∀ (l1 : Int32) (M : Mw), Sw g x (fun q : Int32 × Mw => (some (.int q.1), q.2)) M 0 0 143 [(0, .ref (gA g 50 0 0)), (1, .int l1)] [] (it (fun _ _ => none) (B_X10_board_143) n l1 M) := by
  induction n with
  | zero =>
    intro l1 M
    exact r_none
  | succ n ih =>
    intro l1 M
    exact t_X10_board_143 C hm _ ih l1 M
set_option maxRecDepth 100000 in
set_option maxHeartbeats 4000000 in
theorem t_X10_board_131 {g : Gw} {x : Xw} (C : Cw g x cX10_board RX10 2 (some .int) 12) (hm : x.2.2.2.2.2.2.2.2.2.2.2 = (0, 0)) (M : Mw) : Sw g x (fun q : Int32 × Mw => (some (.int q.1), q.2)) M 0 0 131 [(0, .ref (gA g 50 0 0))] [] (B_X10_board_131 M) := by
  unfold B_X10_board_131
  refine r_aload_n C 0 dX10_board_131 rfl rfl ?_
  refine r_callVRi (rest := []) C (c_X10_good M) dX10_board_132 u_1209 in_50 (contW_50 g _ _ _ _ _) rfl u_1210 u_50 mi_X10_good (by decide) rfl rfl (Nat.le_of_ble_eq_true rfl) (xk1 hm (by decide)) (xn1 hm (by decide)) (fun v13 h14 => ?_)
  refine r_if_ne (tgt := 141) C dX10_board_135 (by decide) (fun h15 => ?_) (fun h15 => ?_)
  · refine r_bipush (v := (-4)) C dX10_board_138 (by decide) ?_
    exact r_iret C dX10_board_140 rfl rfl (xk0 hm) (xn0 hm)
  · refine r_iconst (v := 0) C dX10_board_141 (by decide) ?_
    refine r_istore_n0 (lv' := [(1, .int 0), (0, .ref (gA g 50 0 0))]) C dX10_board_142 rfl (by decide) rfl ?_
    refine r_lv [1, 0] rfl ?_
    exact tl_X10_board_143 C hm FU 0 M
set_option maxRecDepth 100000 in
set_option maxHeartbeats 4000000 in
theorem t_X10_board_77 {g : Gw} {x : Xw} (C : Cw g x cX10_board RX10 2 (some .int) 12) (hm : x.2.2.2.2.2.2.2.2.2.2.2 = (0, 0)) (k77 : Int32 → Mw → Option (Int32 × Mw)) (hk77 : ∀ (l1 : Int32) (M : Mw), Sw g x (fun q : Int32 × Mw => (some (.int q.1), q.2)) M 0 0 77 [(0, .ref (gA g 50 0 0)), (1, .int l1)] [] (k77 l1 M)) (l1 : Int32) (M : Mw) : Sw g x (fun q : Int32 × Mw => (some (.int q.1), q.2)) M 0 0 77 [(0, .ref (gA g 50 0 0)), (1, .int l1)] [] (B_X10_board_77 k77 l1 M) := by
  unfold B_X10_board_77
  refine r_iload_n C 1 dX10_board_77 rfl rfl ?_
  refine r_aload_n C 0 dX10_board_78 rfl rfl ?_
  refine gf_50_14 C dX10_board_79 u_1119 in_50 ?_
  refine r_iconst (v := 4) C dX10_board_82 (by decide) ?_
  refine r_ialdc C dX10_board_83 in_56 (contW_56 g _ _ _ _ _) (by decide) (j := 4) (by decide) ?_
  refine r_icmp_ge (tgt := 131) C dX10_board_84 (by decide) (fun h12 => ?_) (fun h12 => ?_)
  · refine r_lv [0] rfl ?_
    exact t_X10_board_131 C hm M
  · refine r_aload_n C 0 dX10_board_87 rfl rfl ?_
    refine r_callVRi (rest := []) C (c_X10_good M) dX10_board_88 u_1209 in_50 (contW_50 g _ _ _ _ _) rfl u_1210 u_50 mi_X10_good (by decide) rfl rfl (Nat.le_of_ble_eq_true rfl) (xk1 hm (by decide)) (xn1 hm (by decide)) (fun v21 h22 => ?_)
    refine r_if_eq (tgt := 131) C dX10_board_91 (by decide) (fun h23 => ?_) (fun h23 => ?_)
    · refine r_lv [0] rfl ?_
      exact t_X10_board_131 C hm M
    · refine r_aload_n C 0 dX10_board_94 rfl rfl ?_
      refine gf_50_14 C dX10_board_95 u_1119 in_50 ?_
      refine r_bipush (v := 11) C dX10_board_98 (by decide) ?_
      refine r_bipush (v := 7) C dX10_board_100 (by decide) ?_
      refine r_iload_n C 1 dX10_board_102 rfl rfl ?_
      refine r_imul C dX10_board_103 ?_
      refine r_iadd C dX10_board_104 ?_
      refine r_bipush (v := 6) C dX10_board_105 (by decide) ?_
      refine r_iadd C dX10_board_107 ?_
      refine r_iald C dX10_board_108 in_56 (contW_56 g _ _ _ _ _) (fun h24 => ?_)
      refine r_if_le (tgt := 115) C dX10_board_109 (by decide) (fun h25 => ?_) (fun h25 => ?_)
      · refine r_aload_n C 0 dX10_board_115 rfl rfl ?_
        refine r_iconst (v := 4) C dX10_board_116 (by decide) ?_
        refine pf_50_12 C dX10_board_117 u_1117 in_50 (fun M26 => ?_)
        refine r_aload_n C 0 dX10_board_120 rfl rfl ?_
        refine r_iload_n C 1 dX10_board_121 rfl rfl ?_
        refine pf_50_13 C dX10_board_122 u_1118 in_50 (fun M27 => ?_)
        refine r_iinc (c := 1) (lv' := fun v28 => [(1, .int v28), (0, .ref (gA g 50 0 0))]) C 1 dX10_board_125 rfl (by decide) (by decide) (fun _ => rfl) (fun v28 => ?_)
        refine r_goto (tgt := 77) C dX10_board_128 (by decide) ?_
        refine r_lv [1, 0] rfl ?_
        exact hk77 v28 M27
      · refine r_goto (tgt := 125) C dX10_board_112 (by decide) ?_
        refine r_iinc (c := 1) (lv' := fun v29 => [(1, .int v29), (0, .ref (gA g 50 0 0))]) C 1 dX10_board_125 rfl (by decide) (by decide) (fun _ => rfl) (fun v29 => ?_)
        refine r_goto (tgt := 77) C dX10_board_128 (by decide) ?_
        refine r_lv [1, 0] rfl ?_
        exact hk77 v29 M
set_option maxRecDepth 100000 in
set_option maxHeartbeats 4000000 in
theorem tl_X10_board_77 {g : Gw} {x : Xw} (C : Cw g x cX10_board RX10 2 (some .int) 12) (hm : x.2.2.2.2.2.2.2.2.2.2.2 = (0, 0)) (n : Nat) : ∀ (l1 : Int32) (M : Mw), Sw g x (fun q : Int32 × Mw => (some (.int q.1), q.2)) M 0 0 77 [(0, .ref (gA g 50 0 0)), (1, .int l1)] [] (it (fun _ _ => none) (B_X10_board_77) n l1 M) := by
  induction n with
  | zero =>
    intro l1 M
    exact r_none
  | succ n ih =>
    intro l1 M
    exact t_X10_board_77 C hm _ ih l1 M
set_option maxRecDepth 100000 in
set_option maxHeartbeats 4000000 in
theorem t_X10_board_75 {g : Gw} {x : Xw} (C : Cw g x cX10_board RX10 2 (some .int) 12) (hm : x.2.2.2.2.2.2.2.2.2.2.2 = (0, 0)) (M : Mw) : Sw g x (fun q : Int32 × Mw => (some (.int q.1), q.2)) M 0 0 75 [(0, .ref (gA g 50 0 0))] [] (B_X10_board_75 M) := by
  unfold B_X10_board_75
  refine r_iconst (v := 0) C dX10_board_75 (by decide) ?_
  refine r_istore_n0 (lv' := [(1, .int 0), (0, .ref (gA g 50 0 0))]) C dX10_board_76 rfl (by decide) rfl ?_
  refine r_lv [1, 0] rfl ?_
  exact tl_X10_board_77 C hm FU 0 M
set_option maxRecDepth 100000 in
set_option maxHeartbeats 4000000 in
theorem t_X10_board_54 {g : Gw} {x : Xw} (C : Cw g x cX10_board RX10 2 (some .int) 12) (hm : x.2.2.2.2.2.2.2.2.2.2.2 = (0, 0)) (k54 : Mw → Option (Int32 × Mw)) (hk54 : ∀ (M : Mw), Sw g x (fun q : Int32 × Mw => (some (.int q.1), q.2)) M 0 0 54 [(0, .ref (gA g 50 0 0))] [] (k54 M)) (M : Mw) : Sw g x (fun q : Int32 × Mw => (some (.int q.1), q.2)) M 0 0 54 [(0, .ref (gA g 50 0 0))] [] (B_X10_board_54 k54 M) := by
  unfold B_X10_board_54
  refine r_aload_n C 0 dX10_board_54 rfl rfl ?_
  refine r_callVRi (rest := []) C (c_X10_good M) dX10_board_55 u_1209 in_50 (contW_50 g _ _ _ _ _) rfl u_1210 u_50 mi_X10_good (by decide) rfl rfl (Nat.le_of_ble_eq_true rfl) (xk1 hm (by decide)) (xn1 hm (by decide)) (fun v9 h10 => ?_)
  refine r_if_eq (tgt := 75) C dX10_board_58 (by decide) (fun h11 => ?_) (fun h11 => ?_)
  · exact t_X10_board_75 C hm M
  · refine r_aload_n C 0 dX10_board_61 rfl rfl ?_
    refine gf_50_10 C dX10_board_62 u_1115 in_50 ?_
    refine r_if_eq (tgt := 75) C dX10_board_65 (by decide) (fun h30 => ?_) (fun h30 => ?_)
    · exact t_X10_board_75 C hm M
    · refine r_aload_n C 0 dX10_board_68 rfl rfl ?_
      refine r_callVU (rest := []) C (c_X10_readText M) dX10_board_69 u_1212 in_50 (contW_50 g _ _ _ _ _) rfl u_1213 u_51 mi_X10_readText (by decide) rfl rfl (Nat.le_of_ble_eq_true rfl) (xk1 hm (by decide)) (xn1 hm (by decide)) (fun M31 h32 => ?_)
      refine r_goto (tgt := 54) C dX10_board_72 (by decide) ?_
      exact hk54 M31
set_option maxRecDepth 100000 in
set_option maxHeartbeats 4000000 in
theorem tl_X10_board_54 {g : Gw} {x : Xw} (C : Cw g x cX10_board RX10 2 (some .int) 12) (hm : x.2.2.2.2.2.2.2.2.2.2.2 = (0, 0)) (n : Nat) : ∀ (M : Mw), Sw g x (fun q : Int32 × Mw => (some (.int q.1), q.2)) M 0 0 54 [(0, .ref (gA g 50 0 0))] [] (it (fun _ => none) (B_X10_board_54) n M) := by
  induction n with
  | zero =>
    intro M
    exact r_none
  | succ n ih =>
    intro M
    exact t_X10_board_54 C hm _ ih M
set_option maxRecDepth 100000 in
set_option maxHeartbeats 4000000 in
theorem t_X10_board_30 {g : Gw} {x : Xw} (C : Cw g x cX10_board RX10 2 (some .int) 12) (hm : x.2.2.2.2.2.2.2.2.2.2.2 = (0, 0)) (k30 : Int32 → Mw → Option (Int32 × Mw)) (hk30 : ∀ (l1 : Int32) (M : Mw), Sw g x (fun q : Int32 × Mw => (some (.int q.1), q.2)) M 0 0 30 [(0, .ref (gA g 50 0 0)), (1, .int l1)] [] (k30 l1 M)) (l1 : Int32) (M : Mw) : Sw g x (fun q : Int32 × Mw => (some (.int q.1), q.2)) M 0 0 30 [(0, .ref (gA g 50 0 0)), (1, .int l1)] [] (B_X10_board_30 k30 l1 M) := by
  unfold B_X10_board_30
  refine r_iload_n C 1 dX10_board_30 rfl rfl ?_
  refine r_sipush (v := 201) C dX10_board_31 (by decide) ?_
  refine r_icmp_ge (tgt := 50) C dX10_board_34 (by decide) (fun h6 => ?_) (fun h6 => ?_)
  · refine r_aload_n C 0 dX10_board_50 rfl rfl ?_
    refine r_callVU (rest := []) C (c_X10_advance M) dX10_board_51 u_1197 in_50 (contW_50 g _ _ _ _ _) rfl u_1198 u_48 mi_X10_advance (by decide) rfl rfl (Nat.le_of_ble_eq_true rfl) (xk1 hm (by decide)) (xn1 hm (by decide)) (fun M7 h8 => ?_)
    refine r_lv [0] rfl ?_
    exact tl_X10_board_54 C hm FU M7
  · refine r_aload_n C 0 dX10_board_37 rfl rfl ?_
    refine gf_50_14 C dX10_board_38 u_1119 in_50 ?_
    refine r_iload_n C 1 dX10_board_41 rfl rfl ?_
    refine r_iconst (v := 0) C dX10_board_42 (by decide) ?_
    refine r_iast C dX10_board_43 in_56 (contW_56 g _ _) (fun M33 h34 => ?_)
    refine r_iinc (c := 1) (lv' := fun v35 => [(1, .int v35), (0, .ref (gA g 50 0 0))]) C 1 dX10_board_44 rfl (by decide) (by decide) (fun _ => rfl) (fun v35 => ?_)
    refine r_goto (tgt := 30) C dX10_board_47 (by decide) ?_
    refine r_lv [1, 0] rfl ?_
    exact hk30 v35 M33
set_option maxRecDepth 100000 in
set_option maxHeartbeats 4000000 in
theorem tl_X10_board_30 {g : Gw} {x : Xw} (C : Cw g x cX10_board RX10 2 (some .int) 12) (hm : x.2.2.2.2.2.2.2.2.2.2.2 = (0, 0)) (n : Nat) : ∀ (l1 : Int32) (M : Mw), Sw g x (fun q : Int32 × Mw => (some (.int q.1), q.2)) M 0 0 30 [(0, .ref (gA g 50 0 0)), (1, .int l1)] [] (it (fun _ _ => none) (B_X10_board_30) n l1 M) := by
  induction n with
  | zero =>
    intro l1 M
    exact r_none
  | succ n ih =>
    intro l1 M
    exact t_X10_board_30 C hm _ ih l1 M
set_option maxRecDepth 100000 in
set_option maxHeartbeats 4000000 in
theorem c_X10_board {g : Gw} {l : Launch} (M : Mw) : Kw g l yX10_board cX10_board 2 (some .int) 12 0 0 [.ref (gA g 50 0 0)] M (fun q : Int32 × Mw => (some (.int q.1), q.2)) (F_X10_board M) := by
  refine Kw.of (own := RX10) (lv0 := [(0, .ref (gA g 50 0 0))]) (by decide +kernel) rfl (Nat.le_of_ble_eq_true rfl) rfl (fun x C hl hm => ?_)
  subst hl
  unfold F_X10_board
  refine r_aload_n C 0 dX10_board_0 rfl rfl ?_
  refine r_aload_n C 0 dX10_board_1 rfl rfl ?_
  refine gf_50_5 C dX10_board_2 u_1110 in_50 ?_
  refine pf_50_7 C dX10_board_5 u_1112 in_50 (fun M1 => ?_)
  refine r_aload_n C 0 dX10_board_8 rfl rfl ?_
  refine r_iconst (v := 0) C dX10_board_9 (by decide) ?_
  refine pf_50_5 C dX10_board_10 u_1110 in_50 (fun M2 => ?_)
  refine r_aload_n C 0 dX10_board_13 rfl rfl ?_
  refine r_iconst (v := 0) C dX10_board_14 (by decide) ?_
  refine pf_50_8 C dX10_board_15 u_1113 in_50 (fun M3 => ?_)
  refine r_aload_n C 0 dX10_board_18 rfl rfl ?_
  refine r_iconst (v := 0) C dX10_board_19 (by decide) ?_
  refine pf_50_12 C dX10_board_20 u_1117 in_50 (fun M4 => ?_)
  refine r_aload_n C 0 dX10_board_23 rfl rfl ?_
  refine r_iconst (v := (-1)) C dX10_board_24 (by decide) ?_
  refine pf_50_13 C dX10_board_25 u_1118 in_50 (fun M5 => ?_)
  refine r_iconst (v := 0) C dX10_board_28 (by decide) ?_
  refine r_istore_n0 (lv' := [(1, .int 0), (0, .ref (gA g 50 0 0))]) C dX10_board_29 rfl (by decide) rfl ?_
  refine r_lv [1, 0] rfl ?_
  exact tl_X10_board_30 C hm FU 0 M5
def F_X10_isTask (p1 : Int32) (M : Mw) : Option (Int32) :=
  ((F_X10_in ((p1).toInt64) 0 ((((M.1 51 0 0 4) - 1)).toInt64) M).bind (fun v1 => (if bz v1 then some v1 else none)))
set_option maxRecDepth 100000 in
set_option maxHeartbeats 4000000 in
theorem c_X10_isTask {g : Gw} {l : Launch} (p1 : Int32) (M : Mw) : Kw g l yX10_isTask cX10_isTask 2 (some .boolean) 2 0 0 [.ref (gA g 50 0 0), .int p1] M (fun v : Int32 => (some (.int v), M)) (F_X10_isTask p1 M) := by
  refine Kw.of (own := RX10) (lv0 := [(0, .ref (gA g 50 0 0)), (1, .int p1)]) (by decide +kernel) rfl (Nat.le_of_ble_eq_true rfl) rfl (fun x C hl hm => ?_)
  subst hl
  unfold F_X10_isTask
  refine r_iload_n C 1 dX10_isTask_0 rfl rfl ?_
  refine r_i2l C dX10_isTask_1 ?_
  refine r_lconst (v := 0) C dX10_isTask_2 (by decide) ?_
  refine r_aload_n C 0 dX10_isTask_3 rfl rfl ?_
  refine gf_50_1 C dX10_isTask_4 u_1106 in_50 ?_
  refine r_iconst (v := 4) C dX10_isTask_7 (by decide) ?_
  refine r_ialdc C dX10_isTask_8 in_51 (contW_51 g _ _ _ _ _) (by decide) (j := 4) (by decide) ?_
  refine r_iconst (v := 1) C dX10_isTask_9 (by decide) ?_
  refine r_isub C dX10_isTask_10 ?_
  refine r_i2l C dX10_isTask_11 ?_
  refine r_callSRi (rest := []) C (c_X10_in ((p1).toInt64) 0 ((((M.1 51 0 0 4) - 1)).toInt64) M) dX10_isTask_12 u_1174 u_1175 mi_X10_in (by decide) rfl rfl (Nat.le_of_ble_eq_true rfl) (xk1 hm (by decide)) (xn1 hm (by decide)) (fun v1 h2 => ?_)
  exact r_zret C dX10_isTask_15 rfl rfl (xk0 hm) (xn0 hm)
def F_X10_toldOf (p1 : Int32) (p2 : Int32) (M : Mw) : Option (Int32) :=
  (if inb ((11 + (7 * p1)) + p2) 201 then some (M.1 51 0 0 ((11 + (7 * p1)) + p2).toNatClampNeg) else none)
set_option maxRecDepth 100000 in
set_option maxHeartbeats 4000000 in
theorem c_X10_toldOf {g : Gw} {l : Launch} (p1 : Int32) (p2 : Int32) (M : Mw) : Kw g l yX10_toldOf cX10_toldOf 3 (some .int) 1 0 0 [.ref (gA g 50 0 0), .int p1, .int p2] M (fun v : Int32 => (some (.int v), M)) (F_X10_toldOf p1 p2 M) := by
  refine Kw.of (own := RX10) (lv0 := [(0, .ref (gA g 50 0 0)), (1, .int p1), (2, .int p2)]) (by decide +kernel) rfl (Nat.le_of_ble_eq_true rfl) rfl (fun x C hl hm => ?_)
  subst hl
  unfold F_X10_toldOf
  refine r_aload_n C 0 dX10_toldOf_0 rfl rfl ?_
  refine gf_50_1 C dX10_toldOf_1 u_1106 in_50 ?_
  refine r_bipush (v := 11) C dX10_toldOf_4 (by decide) ?_
  refine r_bipush (v := 7) C dX10_toldOf_6 (by decide) ?_
  refine r_iload_n C 1 dX10_toldOf_8 rfl rfl ?_
  refine r_imul C dX10_toldOf_9 ?_
  refine r_iadd C dX10_toldOf_10 ?_
  refine r_iload_n C 2 dX10_toldOf_11 rfl rfl ?_
  refine r_iadd C dX10_toldOf_12 ?_
  refine r_iald C dX10_toldOf_13 in_51 (contW_51 g _ _ _ _ _) (fun h1 => ?_)
  exact r_iret C dX10_toldOf_14 rfl rfl (xk0 hm) (xn0 hm)
def F_X10_task (p1 : Int32) (p2 : Int32) (M : Mw) : Option (Int32) :=
  ((F_X10_isTask p1 M).bind (fun v1 => (if v1 = 0 then some (-2) else ((F_X10_in ((p2).toInt64) 0 6 M).bind (fun v4 => (if v4 = 0 then some (-2) else ((F_X10_toldOf p1 p2 M).bind (fun v7 => some v7))))))))
set_option maxRecDepth 100000 in
set_option maxHeartbeats 4000000 in
theorem c_X10_task {g : Gw} {l : Launch} (p1 : Int32) (p2 : Int32) (M : Mw) : Kw g l yX10_task cX10_task 3 (some .int) 3 0 0 [.ref (gA g 50 0 0), .int p1, .int p2] M (fun v : Int32 => (some (.int v), M)) (F_X10_task p1 p2 M) := by
  refine Kw.of (own := RX10) (lv0 := [(0, .ref (gA g 50 0 0)), (1, .int p1), (2, .int p2)]) (by decide +kernel) rfl (Nat.le_of_ble_eq_true rfl) rfl (fun x C hl hm => ?_)
  subst hl
  unfold F_X10_task
  refine r_aload_n C 0 dX10_task_0 rfl rfl ?_
  refine r_iload_n C 1 dX10_task_1 rfl rfl ?_
  refine r_callVRi (rest := []) C (c_X10_isTask p1 M) dX10_task_2 u_1266 in_50 (contW_50 g _ _ _ _ _) rfl u_1267 u_66 mi_X10_isTask (by decide) rfl rfl (Nat.le_of_ble_eq_true rfl) (xk1 hm (by decide)) (xn1 hm (by decide)) (fun v1 h2 => ?_)
  refine r_if_eq (tgt := 29) C dX10_task_5 (by decide) (fun h3 => ?_) (fun h3 => ?_)
  · refine r_bipush (v := (-2)) C dX10_task_29 (by decide) ?_
    exact r_iret C dX10_task_31 rfl rfl (xk0 hm) (xn0 hm)
  · refine r_iload_n C 2 dX10_task_8 rfl rfl ?_
    refine r_i2l C dX10_task_9 ?_
    refine r_lconst (v := 0) C dX10_task_10 (by decide) ?_
    refine r_ldc2 (v := 6) C u_1269 dX10_task_11 ?_
    refine r_callSRi (rest := []) C (c_X10_in ((p2).toInt64) 0 6 M) dX10_task_14 u_1174 u_1175 mi_X10_in (by decide) rfl rfl (Nat.le_of_ble_eq_true rfl) (xk1 hm (by decide)) (xn1 hm (by decide)) (fun v4 h5 => ?_)
    refine r_if_eq (tgt := 29) C dX10_task_17 (by decide) (fun h6 => ?_) (fun h6 => ?_)
    · refine r_bipush (v := (-2)) C dX10_task_29 (by decide) ?_
      exact r_iret C dX10_task_31 rfl rfl (xk0 hm) (xn0 hm)
    · refine r_aload_n C 0 dX10_task_20 rfl rfl ?_
      refine r_iload_n C 1 dX10_task_21 rfl rfl ?_
      refine r_iload_n C 2 dX10_task_22 rfl rfl ?_
      refine r_callVRi (rest := []) C (c_X10_toldOf p1 p2 M) dX10_task_23 u_1270 in_50 (contW_50 g _ _ _ _ _) rfl u_1271 u_67 mi_X10_toldOf (by decide) rfl rfl (Nat.le_of_ble_eq_true rfl) (xk1 hm (by decide)) (xn1 hm (by decide)) (fun v7 h8 => ?_)
      refine r_goto (tgt := 31) C dX10_task_26 (by decide) ?_
      exact r_iret C dX10_task_31 rfl rfl (xk0 hm) (xn0 hm)
def F_X10_nodesOf (p1 : Int32) (M : Mw) : Option (Int32) :=
  ((F_X10_toldOf p1 6 M).bind (fun v1 => some v1))
set_option maxRecDepth 100000 in
set_option maxHeartbeats 4000000 in
theorem c_X10_nodesOf {g : Gw} {l : Launch} (p1 : Int32) (M : Mw) : Kw g l yX10_nodesOf cX10_nodesOf 2 (some .int) 2 0 0 [.ref (gA g 50 0 0), .int p1] M (fun v : Int32 => (some (.int v), M)) (F_X10_nodesOf p1 M) := by
  refine Kw.of (own := RX10) (lv0 := [(0, .ref (gA g 50 0 0)), (1, .int p1)]) (by decide +kernel) rfl (Nat.le_of_ble_eq_true rfl) rfl (fun x C hl hm => ?_)
  subst hl
  unfold F_X10_nodesOf
  refine r_aload_n C 0 dX10_nodesOf_0 rfl rfl ?_
  refine r_iload_n C 1 dX10_nodesOf_1 rfl rfl ?_
  refine r_bipush (v := 6) C dX10_nodesOf_2 (by decide) ?_
  refine r_callVRi (rest := []) C (c_X10_toldOf p1 6 M) dX10_nodesOf_4 u_1270 in_50 (contW_50 g _ _ _ _ _) rfl u_1271 u_67 mi_X10_toldOf (by decide) rfl rfl (Nat.le_of_ble_eq_true rfl) (xk1 hm (by decide)) (xn1 hm (by decide)) (fun v1 h2 => ?_)
  exact r_iret C dX10_nodesOf_7 rfl rfl (xk0 hm) (xn0 hm)
def F_X10_unitsOf (p1 : Int32) (p2 : Int32) (M : Mw) : Option (Int32) :=
  (if inb (46 + (2 * ((6 * p1) + p2))) 201 then some (M.1 51 0 0 (46 + (2 * ((6 * p1) + p2))).toNatClampNeg) else none)
set_option maxRecDepth 100000 in
set_option maxHeartbeats 4000000 in
theorem c_X10_unitsOf {g : Gw} {l : Launch} (p1 : Int32) (p2 : Int32) (M : Mw) : Kw g l yX10_unitsOf cX10_unitsOf 3 (some .int) 1 0 0 [.ref (gA g 50 0 0), .int p1, .int p2] M (fun v : Int32 => (some (.int v), M)) (F_X10_unitsOf p1 p2 M) := by
  refine Kw.of (own := RX10) (lv0 := [(0, .ref (gA g 50 0 0)), (1, .int p1), (2, .int p2)]) (by decide +kernel) rfl (Nat.le_of_ble_eq_true rfl) rfl (fun x C hl hm => ?_)
  subst hl
  unfold F_X10_unitsOf
  refine r_aload_n C 0 dX10_unitsOf_0 rfl rfl ?_
  refine gf_50_1 C dX10_unitsOf_1 u_1106 in_50 ?_
  refine r_bipush (v := 46) C dX10_unitsOf_4 (by decide) ?_
  refine r_iconst (v := 2) C dX10_unitsOf_6 (by decide) ?_
  refine r_bipush (v := 6) C dX10_unitsOf_7 (by decide) ?_
  refine r_iload_n C 1 dX10_unitsOf_9 rfl rfl ?_
  refine r_imul C dX10_unitsOf_10 ?_
  refine r_iload_n C 2 dX10_unitsOf_11 rfl rfl ?_
  refine r_iadd C dX10_unitsOf_12 ?_
  refine r_imul C dX10_unitsOf_13 ?_
  refine r_iadd C dX10_unitsOf_14 ?_
  refine r_iald C dX10_unitsOf_15 in_51 (contW_51 g _ _ _ _ _) (fun h1 => ?_)
  exact r_iret C dX10_unitsOf_16 rfl rfl (xk0 hm) (xn0 hm)
def F_X10_isBehind (p1 : Int32) (p2 : Int32) (p3 : Int32) (M : Mw) : Option (Int32) :=
  (if inb ((46 + (2 * ((6 * p1) + p2))) + 1) 201 then (if (((M.1 51 0 0 ((46 + (2 * ((6 * p1) + p2))) + 1).toNatClampNeg) >>> (p3 &&& 31)) &&& 1) = 1 then some 1 else some 0) else none)
set_option maxRecDepth 100000 in
set_option maxHeartbeats 4000000 in
theorem c_X10_isBehind {g : Gw} {l : Launch} (p1 : Int32) (p2 : Int32) (p3 : Int32) (M : Mw) : Kw g l yX10_isBehind cX10_isBehind 4 (some .boolean) 1 0 0 [.ref (gA g 50 0 0), .int p1, .int p2, .int p3] M (fun v : Int32 => (some (.int v), M)) (F_X10_isBehind p1 p2 p3 M) := by
  refine Kw.of (own := RX10) (lv0 := [(0, .ref (gA g 50 0 0)), (1, .int p1), (2, .int p2), (3, .int p3)]) (by decide +kernel) rfl (Nat.le_of_ble_eq_true rfl) rfl (fun x C hl hm => ?_)
  subst hl
  unfold F_X10_isBehind
  refine r_aload_n C 0 dX10_isBehind_0 rfl rfl ?_
  refine gf_50_1 C dX10_isBehind_1 u_1106 in_50 ?_
  refine r_bipush (v := 46) C dX10_isBehind_4 (by decide) ?_
  refine r_iconst (v := 2) C dX10_isBehind_6 (by decide) ?_
  refine r_bipush (v := 6) C dX10_isBehind_7 (by decide) ?_
  refine r_iload_n C 1 dX10_isBehind_9 rfl rfl ?_
  refine r_imul C dX10_isBehind_10 ?_
  refine r_iload_n C 2 dX10_isBehind_11 rfl rfl ?_
  refine r_iadd C dX10_isBehind_12 ?_
  refine r_imul C dX10_isBehind_13 ?_
  refine r_iadd C dX10_isBehind_14 ?_
  refine r_iconst (v := 1) C dX10_isBehind_15 (by decide) ?_
  refine r_iadd C dX10_isBehind_16 ?_
  refine r_iald C dX10_isBehind_17 in_51 (contW_51 g _ _ _ _ _) (fun h1 => ?_)
  refine r_iload_n C 3 dX10_isBehind_18 rfl rfl ?_
  refine r_ishr C dX10_isBehind_19 ?_
  refine r_iconst (v := 1) C dX10_isBehind_20 (by decide) ?_
  refine r_iand C dX10_isBehind_21 ?_
  refine r_iconst (v := 1) C dX10_isBehind_22 (by decide) ?_
  refine r_icmp_ne (tgt := 30) C dX10_isBehind_23 (by decide) (fun h2 => ?_) (fun h2 => ?_)
  · refine r_iconst (v := 1) C dX10_isBehind_26 (by decide) ?_
    refine r_goto (tgt := 31) C dX10_isBehind_27 (by decide) ?_
    exact r_zretc C dX10_isBehind_31 rfl bz1 rfl (xk0 hm) (xn0 hm)
  · refine r_iconst (v := 0) C dX10_isBehind_30 (by decide) ?_
    exact r_zretc C dX10_isBehind_31 rfl bz0 rfl (xk0 hm) (xn0 hm)
def B_X10_followersOf_7 (l1 : Int32) (l2 : Int32) (M : Mw) (k7 : Int32 → Int32 → Option (Int32)) (l3 : Int32) (l4 : Int32) : Option (Int32) :=
  ((F_X10_nodesOf l1 M).bind (fun v2 => (if v2 ≤ l4 then some l3 else ((F_X10_isBehind l1 l4 l2 M).bind (fun v5 => (if v5 = 0 then (bd (l3 ||| 0) (fun v8 => (bd (l4 + 1) (fun v9 => (k7 v8 v9))))) else (bd (l3 ||| (1 <<< (l4 &&& 31))) (fun v10 => (bd (l4 + 1) (fun v11 => (k7 v10 v11)))))))))))
def F_X10_followersOf (p1 : Int32) (p2 : Int32) (M : Mw) : Option (Int32) :=
  (bd (p2 + 1) (fun v1 => (it (fun _ _ => none) (B_X10_followersOf_7 p1 p2 M) FU 0 v1)))
set_option maxRecDepth 100000 in
set_option maxHeartbeats 4000000 in
theorem t_X10_followersOf_7 {g : Gw} {x : Xw} (C : Cw g x cX10_followersOf RX10 5 (some .int) 3) (hm : x.2.2.2.2.2.2.2.2.2.2.2 = (0, 0)) (M : Mw) (l1 : Int32) (l2 : Int32) (k7 : Int32 → Int32 → Option (Int32)) (hk7 : ∀ (l3 : Int32) (l4 : Int32), Sw g x (fun v : Int32 => (some (.int v), M)) M 0 0 7 [(0, .ref (gA g 50 0 0)), (1, .int l1), (2, .int l2), (3, .int l3), (4, .int l4)] [] (k7 l3 l4)) (l3 : Int32) (l4 : Int32) : Sw g x (fun v : Int32 => (some (.int v), M)) M 0 0 7 [(0, .ref (gA g 50 0 0)), (1, .int l1), (2, .int l2), (3, .int l3), (4, .int l4)] [] (B_X10_followersOf_7 l1 l2 M k7 l3 l4) := by
  unfold B_X10_followersOf_7
  refine r_iload C 4 dX10_followersOf_7 rfl ?_
  refine r_aload_n C 0 dX10_followersOf_9 rfl rfl ?_
  refine r_iload_n C 1 dX10_followersOf_10 rfl rfl ?_
  refine r_callVRi (rest := [.int l4]) C (c_X10_nodesOf l1 M) dX10_followersOf_11 u_1277 in_50 (contW_50 g _ _ _ _ _) rfl u_1278 u_68 mi_X10_nodesOf (by decide) rfl rfl (Nat.le_of_ble_eq_true rfl) (xk1 hm (by decide)) (xn1 hm (by decide)) (fun v2 h3 => ?_)
  refine r_icmp_ge (tgt := 45) C dX10_followersOf_14 (by decide) (fun h4 => ?_) (fun h4 => ?_)
  · refine r_iload_n C 3 dX10_followersOf_45 rfl rfl ?_
    exact r_iret C dX10_followersOf_46 rfl rfl (xk0 hm) (xn0 hm)
  · refine r_iload_n C 3 dX10_followersOf_17 rfl rfl ?_
    refine r_aload_n C 0 dX10_followersOf_18 rfl rfl ?_
    refine r_iload_n C 1 dX10_followersOf_19 rfl rfl ?_
    refine r_iload C 4 dX10_followersOf_20 rfl ?_
    refine r_iload_n C 2 dX10_followersOf_22 rfl rfl ?_
    refine r_callVRi (rest := [.int l3]) C (c_X10_isBehind l1 l4 l2 M) dX10_followersOf_23 u_1286 in_50 (contW_50 g _ _ _ _ _) rfl u_1287 u_71 mi_X10_isBehind (by decide) rfl rfl (Nat.le_of_ble_eq_true rfl) (xk1 hm (by decide)) (xn1 hm (by decide)) (fun v5 h6 => ?_)
    refine r_if_eq (tgt := 36) C dX10_followersOf_26 (by decide) (fun h7 => ?_) (fun h7 => ?_)
    · refine r_iconst (v := 0) C dX10_followersOf_36 (by decide) ?_
      refine r_ior C dX10_followersOf_37 ?_
      refine r_istore_n (lv' := fun v8 => [(3, .int v8), (0, .ref (gA g 50 0 0)), (1, .int l1), (2, .int l2), (4, .int l4)]) C dX10_followersOf_38 rfl (by decide) (fun _ => rfl) (fun v8 => ?_)
      refine r_iinc (c := 1) (lv' := fun v9 => [(4, .int v9), (3, .int v8), (0, .ref (gA g 50 0 0)), (1, .int l1), (2, .int l2)]) C 4 dX10_followersOf_39 rfl (by decide) (by decide) (fun _ => rfl) (fun v9 => ?_)
      refine r_goto (tgt := 7) C dX10_followersOf_42 (by decide) ?_
      refine r_lv [2, 3, 4, 1, 0] rfl ?_
      exact hk7 v8 v9
    · refine r_iconst (v := 1) C dX10_followersOf_29 (by decide) ?_
      refine r_iload C 4 dX10_followersOf_30 rfl ?_
      refine r_ishl C dX10_followersOf_32 ?_
      refine r_goto (tgt := 37) C dX10_followersOf_33 (by decide) ?_
      refine r_ior C dX10_followersOf_37 ?_
      refine r_istore_n (lv' := fun v10 => [(3, .int v10), (0, .ref (gA g 50 0 0)), (1, .int l1), (2, .int l2), (4, .int l4)]) C dX10_followersOf_38 rfl (by decide) (fun _ => rfl) (fun v10 => ?_)
      refine r_iinc (c := 1) (lv' := fun v11 => [(4, .int v11), (3, .int v10), (0, .ref (gA g 50 0 0)), (1, .int l1), (2, .int l2)]) C 4 dX10_followersOf_39 rfl (by decide) (by decide) (fun _ => rfl) (fun v11 => ?_)
      refine r_goto (tgt := 7) C dX10_followersOf_42 (by decide) ?_
      refine r_lv [2, 3, 4, 1, 0] rfl ?_
      exact hk7 v10 v11
set_option maxRecDepth 100000 in
set_option maxHeartbeats 4000000 in
theorem tl_X10_followersOf_7 {g : Gw} {x : Xw} (C : Cw g x cX10_followersOf RX10 5 (some .int) 3) (hm : x.2.2.2.2.2.2.2.2.2.2.2 = (0, 0)) (M : Mw) (l1 : Int32) (l2 : Int32) (n : Nat) : ∀ (l3 : Int32) (l4 : Int32), Sw g x (fun v : Int32 => (some (.int v), M)) M 0 0 7 [(0, .ref (gA g 50 0 0)), (1, .int l1), (2, .int l2), (3, .int l3), (4, .int l4)] [] (it (fun _ _ => none) (B_X10_followersOf_7 l1 l2 M) n l3 l4) := by
  induction n with
  | zero =>
    intro l3 l4
    exact r_none
  | succ n ih =>
    intro l3 l4
    exact t_X10_followersOf_7 C hm M l1 l2 _ ih l3 l4
set_option maxRecDepth 100000 in
set_option maxHeartbeats 4000000 in
theorem c_X10_followersOf {g : Gw} {l : Launch} (p1 : Int32) (p2 : Int32) (M : Mw) : Kw g l yX10_followersOf cX10_followersOf 5 (some .int) 3 0 0 [.ref (gA g 50 0 0), .int p1, .int p2] M (fun v : Int32 => (some (.int v), M)) (F_X10_followersOf p1 p2 M) := by
  refine Kw.of (own := RX10) (lv0 := [(0, .ref (gA g 50 0 0)), (1, .int p1), (2, .int p2)]) (by decide +kernel) rfl (Nat.le_of_ble_eq_true rfl) rfl (fun x C hl hm => ?_)
  subst hl
  unfold F_X10_followersOf
  refine r_iconst (v := 0) C dX10_followersOf_0 (by decide) ?_
  refine r_istore_n0 (lv' := [(3, .int 0), (0, .ref (gA g 50 0 0)), (1, .int p1), (2, .int p2)]) C dX10_followersOf_1 rfl (by decide) rfl ?_
  refine r_iload_n C 3 dX10_followersOf_2 rfl rfl ?_
  refine r_iconst (v := 1) C dX10_followersOf_3 (by decide) ?_
  refine r_iadd C dX10_followersOf_4 ?_
  refine r_istore (lv' := fun v1 => [(4, .int v1), (3, .int 0), (0, .ref (gA g 50 0 0)), (1, .int p1), (2, .int p2)]) C dX10_followersOf_5 (by decide) (fun _ => rfl) (fun v1 => ?_)
  refine r_lv [2, 3, 4, 1, 0] rfl ?_
  exact tl_X10_followersOf_7 C hm M p1 p2 FU 0 v1
def F_X10_node (p1 : Int32) (p2 : Int32) (p3 : Int32) (M : Mw) : Option (Int32) :=
  ((F_X10_isTask p1 M).bind (fun v1 => (if v1 = 0 then some (-2) else ((F_X10_nodesOf p1 M).bind (fun v4 => ((F_X10_in ((p2).toInt64) 0 (((v4 - 1)).toInt64) M).bind (fun v6 => (if v6 = 0 then some (-2) else ((F_X10_in ((p3).toInt64) 0 1 M).bind (fun v9 => (if v9 = 0 then some (-2) else (if p3 = 0 then ((F_X10_unitsOf p1 p2 M).bind (fun v15 => some v15)) else ((F_X10_followersOf p1 p2 M).bind (fun v13 => some v13))))))))))))))
set_option maxRecDepth 100000 in
set_option maxHeartbeats 4000000 in
theorem c_X10_node {g : Gw} {l : Launch} (p1 : Int32) (p2 : Int32) (p3 : Int32) (M : Mw) : Kw g l yX10_node cX10_node 4 (some .int) 4 0 0 [.ref (gA g 50 0 0), .int p1, .int p2, .int p3] M (fun v : Int32 => (some (.int v), M)) (F_X10_node p1 p2 p3 M) := by
  refine Kw.of (own := RX10) (lv0 := [(0, .ref (gA g 50 0 0)), (1, .int p1), (2, .int p2), (3, .int p3)]) (by decide +kernel) rfl (Nat.le_of_ble_eq_true rfl) rfl (fun x C hl hm => ?_)
  subst hl
  unfold F_X10_node
  refine r_aload_n C 0 dX10_node_0 rfl rfl ?_
  refine r_iload_n C 1 dX10_node_1 rfl rfl ?_
  refine r_callVRi (rest := []) C (c_X10_isTask p1 M) dX10_node_2 u_1266 in_50 (contW_50 g _ _ _ _ _) rfl u_1267 u_66 mi_X10_isTask (by decide) rfl rfl (Nat.le_of_ble_eq_true rfl) (xk1 hm (by decide)) (xn1 hm (by decide)) (fun v1 h2 => ?_)
  refine r_if_eq (tgt := 35) C dX10_node_5 (by decide) (fun h3 => ?_) (fun h3 => ?_)
  · refine r_bipush (v := (-2)) C dX10_node_35 (by decide) ?_
    exact r_iret C dX10_node_37 rfl rfl (xk0 hm) (xn0 hm)
  · refine r_iload_n C 2 dX10_node_8 rfl rfl ?_
    refine r_i2l C dX10_node_9 ?_
    refine r_lconst (v := 0) C dX10_node_10 (by decide) ?_
    refine r_aload_n C 0 dX10_node_11 rfl rfl ?_
    refine r_iload_n C 1 dX10_node_12 rfl rfl ?_
    refine r_callVRi (rest := [.long 0, .long ((p2).toInt64)]) C (c_X10_nodesOf p1 M) dX10_node_13 u_1277 in_50 (contW_50 g _ _ _ _ _) rfl u_1278 u_68 mi_X10_nodesOf (by decide) rfl rfl (Nat.le_of_ble_eq_true rfl) (xk1 hm (by decide)) (xn1 hm (by decide)) (fun v4 h5 => ?_)
    refine r_iconst (v := 1) C dX10_node_16 (by decide) ?_
    refine r_isub C dX10_node_17 ?_
    refine r_i2l C dX10_node_18 ?_
    refine r_callSRi (rest := []) C (c_X10_in ((p2).toInt64) 0 (((v4 - 1)).toInt64) M) dX10_node_19 u_1174 u_1175 mi_X10_in (by decide) rfl rfl (Nat.le_of_ble_eq_true rfl) (xk1 hm (by decide)) (xn1 hm (by decide)) (fun v6 h7 => ?_)
    refine r_if_eq (tgt := 35) C dX10_node_22 (by decide) (fun h8 => ?_) (fun h8 => ?_)
    · refine r_bipush (v := (-2)) C dX10_node_35 (by decide) ?_
      exact r_iret C dX10_node_37 rfl rfl (xk0 hm) (xn0 hm)
    · refine r_iload_n C 3 dX10_node_25 rfl rfl ?_
      refine r_i2l C dX10_node_26 ?_
      refine r_lconst (v := 0) C dX10_node_27 (by decide) ?_
      refine r_lconst (v := 1) C dX10_node_28 (by decide) ?_
      refine r_callSRi (rest := []) C (c_X10_in ((p3).toInt64) 0 1 M) dX10_node_29 u_1174 u_1175 mi_X10_in (by decide) rfl rfl (Nat.le_of_ble_eq_true rfl) (xk1 hm (by decide)) (xn1 hm (by decide)) (fun v9 h10 => ?_)
      refine r_if_ne (tgt := 38) C dX10_node_32 (by decide) (fun h11 => ?_) (fun h11 => ?_)
      · refine r_bipush (v := (-2)) C dX10_node_35 (by decide) ?_
        exact r_iret C dX10_node_37 rfl rfl (xk0 hm) (xn0 hm)
      · refine r_iload_n C 3 dX10_node_38 rfl rfl ?_
        refine r_if_ne (tgt := 51) C dX10_node_39 (by decide) (fun h12 => ?_) (fun h12 => ?_)
        · refine r_aload_n C 0 dX10_node_42 rfl rfl ?_
          refine r_iload_n C 1 dX10_node_43 rfl rfl ?_
          refine r_iload_n C 2 dX10_node_44 rfl rfl ?_
          refine r_callVRi (rest := []) C (c_X10_unitsOf p1 p2 M) dX10_node_45 u_1280 in_50 (contW_50 g _ _ _ _ _) rfl u_1281 u_69 mi_X10_unitsOf (by decide) rfl rfl (Nat.le_of_ble_eq_true rfl) (xk1 hm (by decide)) (xn1 hm (by decide)) (fun v15 h16 => ?_)
          refine r_goto (tgt := 57) C dX10_node_48 (by decide) ?_
          exact r_iret C dX10_node_57 rfl rfl (xk0 hm) (xn0 hm)
        · refine r_aload_n C 0 dX10_node_51 rfl rfl ?_
          refine r_iload_n C 1 dX10_node_52 rfl rfl ?_
          refine r_iload_n C 2 dX10_node_53 rfl rfl ?_
          refine r_callVRi (rest := []) C (c_X10_followersOf p1 p2 M) dX10_node_54 u_1283 in_50 (contW_50 g _ _ _ _ _) rfl u_1284 u_70 mi_X10_followersOf (by decide) rfl rfl (Nat.le_of_ble_eq_true rfl) (xk1 hm (by decide)) (xn1 hm (by decide)) (fun v13 h14 => ?_)
          exact r_iret C dX10_node_57 rfl rfl (xk0 hm) (xn0 hm)
