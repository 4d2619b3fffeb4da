def B_X10_kickNow_177 (l1 : Int32) (l2 : Int32) (l3 : Int32) (M : Mw) : Option (Mw) :=
  (if inb l1 5 then (if inb l1 5 then (if nf (FP.fsub FP.fconst1 (M.2.1 74 0 0 l1.toNatClampNeg)) then (if nf (FP.fmul (FP.fsub FP.fconst1 (M.2.1 74 0 0 l1.toNatClampNeg)) 1048576000) then (if nf (FP.fadd (M.2.1 74 0 0 l1.toNatClampNeg) (FP.fmul (FP.fsub FP.fconst1 (M.2.1 74 0 0 l1.toNatClampNeg)) 1048576000)) then (if inb l1 5 then (bd (uFw M 74 0 0 l1.toNatClampNeg (FP.fadd (M.2.1 74 0 0 l1.toNatClampNeg) (FP.fmul (FP.fsub FP.fconst1 (M.2.1 74 0 0 l1.toNatClampNeg)) 1048576000))) (fun M19 => (if inb l1 5 then (if 64 = 0 then none else (if inb l1 5 then (bd (uIw M19 69 0 0 l1.toNatClampNeg (((13 * (M19.1 69 0 0 l1.toNatClampNeg)) + 7) - ((13 * (M19.1 69 0 0 l1.toNatClampNeg)) + 7) / 64 * 64)) (fun M23 => (if inb l1 5 then (bd (uIw M23 70 0 0 l1.toNatClampNeg l2) (fun M25 => (if inb l1 5 then (bd (uIw M25 71 0 0 l1.toNatClampNeg (vp_nar .boolean 1)) (fun M27 => (if inb l1 5 then (if inb l1 5 then (bd (uIw M27 72 0 0 l1.toNatClampNeg ((M27.1 72 0 0 l1.toNatClampNeg) + 1)) (fun M30 => (if inb l1 5 then (if inb ((200 * l1) + (M30.1 77 0 0 l1.toNatClampNeg)) 1000 then (bd (uIw M30 82 0 0 ((200 * l1) + (M30.1 77 0 0 l1.toNatClampNeg)).toNatClampNeg l3) (fun M33 => (if inb l1 5 then (if inb l1 5 then (bd (uIw M33 77 0 0 l1.toNatClampNeg ((M33.1 77 0 0 l1.toNatClampNeg) + 1)) (fun M36 => (if inb l1 5 then (bd (uIw M36 78 0 0 l1.toNatClampNeg l2) (fun M38 => some M38)) else none))) else none) else none))) else none) else none))) else none) else none))) else none))) else none))) else none)) else none))) else none) else none) else none) else none) else none) else none)
def B_X10_kickNow_154 (l1 : Int32) (l2 : Int32) (l3 : Int32) (l5 : UInt32) (s0 : UInt32) (s1 : Int32) (M : Mw) : Option (Mw) :=
  (if inb s1 5 then (bd (uFw M 79 0 0 s1.toNatClampNeg s0) (fun M49 => (if inb l1 5 then (if nd (FP.f2d l5) then (if nd (FP.dadd (M49.2.2 80 0 0 l1.toNatClampNeg) (FP.f2d l5)) then (if inb l1 5 then (bd (uDw M49 80 0 0 l1.toNatClampNeg (FP.dadd (M49.2.2 80 0 0 l1.toNatClampNeg) (FP.f2d l5))) (fun M52 => (if inb l1 5 then (if inb l1 5 then (bd (uIw M52 81 0 0 l1.toNatClampNeg ((M52.1 81 0 0 l1.toNatClampNeg) + 1)) (fun M55 => (B_X10_kickNow_177 l1 l2 l3 M55))) else none) else none))) else none) else none) else none) else none))) else none)
def B_X10_kickNow_143 (l1 : Int32) (l2 : Int32) (l3 : Int32) (l5 : UInt32) (s0 : Int32) (M : Mw) : Option (Mw) :=
  (B_X10_kickNow_154 l1 l2 l3 l5 l5 s0 M)
def B_X10_kickNow_62 (l1 : Int32) (l2 : Int32) (l3 : Int32) (s0 : Int32) (M : Mw) : Option (Mw) :=
  (if inb l1 5 then (bd (uIw M 65 0 0 l1.toNatClampNeg (-1)) (fun M12 => (if s0 ≤ 0 then (if inb l1 5 then (if (M12.1 71 0 0 l1.toNatClampNeg) = 0 then (B_X10_kickNow_177 l1 l2 l3 M12) else ((F_X10_closeOf l1 M12).bind (fun v40 => ((F_X10_closeOf l1 M12).bind (fun v42 => ((F_X10_openOf l1 M12).bind (fun v44 => (if nf (FP.fdiv (FP.i2f (v40 - l3)) (FP.i2f (v42 - v44))) then (bd (FP.fdiv (FP.i2f (v40 - l3)) (FP.i2f (v42 - v44))) (fun v46 => (if inb l1 5 then (if (M12.1 81 0 0 l1.toNatClampNeg) = 0 then (B_X10_kickNow_143 l1 l2 l3 v46 l1 M12) else (if inb l1 5 then (if 0 ≤ (Op.cmpValue (FP.fcmp v46 (M12.2.1 79 0 0 l1.toNatClampNeg)) .g) then (if inb l1 5 then (B_X10_kickNow_154 l1 l2 l3 v46 (M12.2.1 79 0 0 l1.toNatClampNeg) l1 M12) else none) else (B_X10_kickNow_143 l1 l2 l3 v46 l1 M12)) else none)) else none))) else none)))))))) else none) else ((F_X10_faultOf l1 s0 l2 M12).bind (fun M60 => some M60))))) else none)
def B_X10_kickNow_61 (l1 : Int32) (l2 : Int32) (l3 : Int32) (M : Mw) : Option (Mw) :=
  (B_X10_kickNow_62 l1 l2 l3 0 M)
def F_X10_kickNow (p1 : Int32) (p2 : Int32) (M : Mw) : Option (Mw) :=
  (if inb p1 5 then (bd (p2 - (M.1 70 0 0 p1.toNatClampNeg)) (fun v2 => (if inb p1 5 then ((F_X10_followers p1 (M.1 67 0 0 p1.toNatClampNeg) M).bind (fun v4 => (if v4 ≤ 0 then ((F_X10_isWrong p1 M).bind (fun v7 => (if v7 = 0 then (if inb p1 5 then (if (M.1 71 0 0 p1.toNatClampNeg) = 0 then (B_X10_kickNow_61 p1 p2 v2 M) else ((F_X10_openOf p1 M).bind (fun v62 => (if v62 ≤ v2 then (B_X10_kickNow_61 p1 p2 v2 M) else (B_X10_kickNow_62 p1 p2 v2 1 M))))) else none) else (B_X10_kickNow_62 p1 p2 v2 4 M)))) else (B_X10_kickNow_62 p1 p2 v2 3 M)))) else none))) else none)
set_option maxRecDepth 100000 in
set_option maxHeartbeats 4000000 in
theorem t_X10_kickNow_177 {g : Gw} {x : Xw} (C : Cw g x cX10_kickNow RX10 6 none 7) (hm : x.2.2.2.2.2.2.2.2.2.2.2 = (0, 0)) (l1 : Int32) (l2 : Int32) (l3 : Int32) (M : Mw) : Sw g x (fun M : Mw => (none, M)) M 0 0 177 [(0, .ref (gA g 50 0 0)), (1, .int l1), (2, .int l2), (3, .int l3)] [] (B_X10_kickNow_177 l1 l2 l3 M) := by
  unfold B_X10_kickNow_177
  refine r_aload_n C 0 dX10_kickNow_177 rfl rfl ?_
  refine gf_50_38 C dX10_kickNow_178 u_1143 in_50 ?_
  refine r_iload_n C 1 dX10_kickNow_181 rfl rfl ?_
  refine r_aload_n C 0 dX10_kickNow_182 rfl rfl ?_
  refine gf_50_38 C dX10_kickNow_183 u_1143 in_50 ?_
  refine r_iload_n C 1 dX10_kickNow_186 rfl rfl ?_
  refine r_fald C dX10_kickNow_187 in_74 (contW_74 g _ _ _ _ _) (fun h17 => ?_)
  refine r_fconst1 C dX10_kickNow_188 ?_
  refine r_aload_n C 0 dX10_kickNow_189 rfl rfl ?_
  refine gf_50_38 C dX10_kickNow_190 u_1143 in_50 ?_
  refine r_iload_n C 1 dX10_kickNow_193 rfl rfl ?_
  refine r_fald C dX10_kickNow_194 in_74 (contW_74 g _ _ _ _ _) (fun h18 => ?_)
  refine r_fsub C dX10_kickNow_195 ?_
  refine r_ldcfw (v := 1048576000) C u_1479 dX10_kickNow_196 ?_
  refine r_fmul C dX10_kickNow_199 ?_
  refine r_fadd C dX10_kickNow_200 ?_
  refine r_fast C dX10_kickNow_201 in_74 (contW_74 g _ _) (fun M19 h20 => ?_)
  refine r_aload_n C 0 dX10_kickNow_202 rfl rfl ?_
  refine gf_50_33 C dX10_kickNow_203 u_1138 in_50 ?_
  refine r_iload_n C 1 dX10_kickNow_206 rfl rfl ?_
  refine r_bipush (v := 13) C dX10_kickNow_207 (by decide) ?_
  refine r_aload_n C 0 dX10_kickNow_209 rfl rfl ?_
  refine gf_50_33 C dX10_kickNow_210 u_1138 in_50 ?_
  refine r_iload_n C 1 dX10_kickNow_213 rfl rfl ?_
  refine r_iald C dX10_kickNow_214 in_69 (contW_69 g _ _ _ _ _) (fun h21 => ?_)
  refine r_imul C dX10_kickNow_215 ?_
  refine r_bipush (v := 7) C dX10_kickNow_216 (by decide) ?_
  refine r_iadd C dX10_kickNow_218 ?_
  refine r_bipush (v := 64) C dX10_kickNow_219 (by decide) ?_
  refine r_irem C dX10_kickNow_221 (fun h22 => ?_)
  refine r_iast C dX10_kickNow_222 in_69 (contW_69 g _ _) (fun M23 h24 => ?_)
  refine r_aload_n C 0 dX10_kickNow_223 rfl rfl ?_
  refine gf_50_34 C dX10_kickNow_224 u_1139 in_50 ?_
  refine r_iload_n C 1 dX10_kickNow_227 rfl rfl ?_
  refine r_iload_n C 2 dX10_kickNow_228 rfl rfl ?_
  refine r_iast C dX10_kickNow_229 in_70 (contW_70 g _ _) (fun M25 h26 => ?_)
  refine r_aload_n C 0 dX10_kickNow_230 rfl rfl ?_
  refine gf_50_35 C dX10_kickNow_231 u_1140 in_50 ?_
  refine r_iload_n C 1 dX10_kickNow_234 rfl rfl ?_
  refine r_iconst (v := 1) C dX10_kickNow_235 (by decide) ?_
  refine r_zast C dX10_kickNow_236 in_71 (contW_71 g _ _) (fun M27 h28 => ?_)
  refine r_aload_n C 0 dX10_kickNow_237 rfl rfl ?_
  refine gf_50_36 C dX10_kickNow_238 u_1141 in_50 ?_
  refine r_iload_n C 1 dX10_kickNow_241 rfl rfl ?_
  refine r_dup2 C rfl rfl dX10_kickNow_242 ?_
  refine r_iald C dX10_kickNow_243 in_72 (contW_72 g _ _ _ _ _) (fun h29 => ?_)
  refine r_iconst (v := 1) C dX10_kickNow_244 (by decide) ?_
  refine r_iadd C dX10_kickNow_245 ?_
  refine r_iast C dX10_kickNow_246 in_72 (contW_72 g _ _) (fun M30 h31 => ?_)
  refine r_aload_n C 0 dX10_kickNow_247 rfl rfl ?_
  refine gf_50_46 C dX10_kickNow_248 u_1151 in_50 ?_
  refine r_sipush (v := 200) C dX10_kickNow_251 (by decide) ?_
  refine r_iload_n C 1 dX10_kickNow_254 rfl rfl ?_
  refine r_imul C dX10_kickNow_255 ?_
  refine r_aload_n C 0 dX10_kickNow_256 rfl rfl ?_
  refine gf_50_41 C dX10_kickNow_257 u_1146 in_50 ?_
  refine r_iload_n C 1 dX10_kickNow_260 rfl rfl ?_
  refine r_iald C dX10_kickNow_261 in_77 (contW_77 g _ _ _ _ _) (fun h32 => ?_)
  refine r_iadd C dX10_kickNow_262 ?_
  refine r_iload_n C 3 dX10_kickNow_263 rfl rfl ?_
  refine r_iast C dX10_kickNow_264 in_82 (contW_82 g _ _) (fun M33 h34 => ?_)
  refine r_aload_n C 0 dX10_kickNow_265 rfl rfl ?_
  refine gf_50_41 C dX10_kickNow_266 u_1146 in_50 ?_
  refine r_iload_n C 1 dX10_kickNow_269 rfl rfl ?_
  refine r_dup2 C rfl rfl dX10_kickNow_270 ?_
  refine r_iald C dX10_kickNow_271 in_77 (contW_77 g _ _ _ _ _) (fun h35 => ?_)
  refine r_iconst (v := 1) C dX10_kickNow_272 (by decide) ?_
  refine r_iadd C dX10_kickNow_273 ?_
  refine r_iast C dX10_kickNow_274 in_77 (contW_77 g _ _) (fun M36 h37 => ?_)
  refine r_aload_n C 0 dX10_kickNow_275 rfl rfl ?_
  refine gf_50_42 C dX10_kickNow_276 u_1147 in_50 ?_
  refine r_iload_n C 1 dX10_kickNow_279 rfl rfl ?_
  refine r_iload_n C 2 dX10_kickNow_280 rfl rfl ?_
  refine r_iast C dX10_kickNow_281 in_78 (contW_78 g _ _) (fun M38 h39 => ?_)
  exact r_vret C dX10_kickNow_282 rfl rfl (xk0 hm) (xn0 hm)
set_option maxRecDepth 100000 in
set_option maxHeartbeats 4000000 in
theorem t_X10_kickNow_154 {g : Gw} {x : Xw} (C : Cw g x cX10_kickNow RX10 6 none 7) (hm : x.2.2.2.2.2.2.2.2.2.2.2 = (0, 0)) (l1 : Int32) (l2 : Int32) (l3 : Int32) (l5 : UInt32) (s0 : UInt32) (s1 : Int32) (M : Mw) : Sw g x (fun M : Mw => (none, M)) M 0 0 154 [(0, .ref (gA g 50 0 0)), (1, .int l1), (2, .int l2), (3, .int l3), (5, .float l5)] [.float s0, .int s1, .ref (gA g 79 0 0)] (B_X10_kickNow_154 l1 l2 l3 l5 s0 s1 M) := by
  unfold B_X10_kickNow_154
  refine r_fast C dX10_kickNow_154 in_79 (contW_79 g _ _) (fun M49 h50 => ?_)
  refine r_aload_n C 0 dX10_kickNow_155 rfl rfl ?_
  refine gf_50_44 C dX10_kickNow_156 u_1149 in_50 ?_
  refine r_iload_n C 1 dX10_kickNow_159 rfl rfl ?_
  refine r_dup2 C rfl rfl dX10_kickNow_160 ?_
  refine r_dald C dX10_kickNow_161 in_80 (contW_80 g _ _ _ _ _) (fun h51 => ?_)
  refine r_fload C 4 dX10_kickNow_162 rfl ?_
  refine r_f2d C dX10_kickNow_164 ?_
  refine r_dadd C dX10_kickNow_165 ?_
  refine r_dast C dX10_kickNow_166 in_80 (contW_80 g _ _) (fun M52 h53 => ?_)
  refine r_aload_n C 0 dX10_kickNow_167 rfl rfl ?_
  refine gf_50_45 C dX10_kickNow_168 u_1150 in_50 ?_
  refine r_iload_n C 1 dX10_kickNow_171 rfl rfl ?_
  refine r_dup2 C rfl rfl dX10_kickNow_172 ?_
  refine r_iald C dX10_kickNow_173 in_81 (contW_81 g _ _ _ _ _) (fun h54 => ?_)
  refine r_iconst (v := 1) C dX10_kickNow_174 (by decide) ?_
  refine r_iadd C dX10_kickNow_175 ?_
  refine r_iast C dX10_kickNow_176 in_81 (contW_81 g _ _) (fun M55 h56 => ?_)
  refine r_lv [0, 1, 2, 3] rfl ?_
  exact t_X10_kickNow_177 C hm l1 l2 l3 M55
set_option maxRecDepth 100000 in
set_option maxHeartbeats 4000000 in
theorem t_X10_kickNow_143 {g : Gw} {x : Xw} (C : Cw g x cX10_kickNow RX10 6 none 7) (hm : x.2.2.2.2.2.2.2.2.2.2.2 = (0, 0)) (l1 : Int32) (l2 : Int32) (l3 : Int32) (l5 : UInt32) (s0 : Int32) (M : Mw) : Sw g x (fun M : Mw => (none, M)) M 0 0 143 [(0, .ref (gA g 50 0 0)), (1, .int l1), (2, .int l2), (3, .int l3), (5, .float l5)] [.int s0, .ref (gA g 79 0 0)] (B_X10_kickNow_143 l1 l2 l3 l5 s0 M) := by
  unfold B_X10_kickNow_143
  refine r_fload C 4 dX10_kickNow_143 rfl ?_
  refine r_goto (tgt := 154) C dX10_kickNow_145 (by decide) ?_
  exact t_X10_kickNow_154 C hm l1 l2 l3 l5 l5 s0 M
set_option maxRecDepth 100000 in
set_option maxHeartbeats 4000000 in
theorem t_X10_kickNow_62 {g : Gw} {x : Xw} (C : Cw g x cX10_kickNow RX10 6 none 7) (hm : x.2.2.2.2.2.2.2.2.2.2.2 = (0, 0)) (l1 : Int32) (l2 : Int32) (l3 : Int32) (s0 : Int32) (M : Mw) : Sw g x (fun M : Mw => (none, M)) M 0 0 62 [(0, .ref (gA g 50 0 0)), (1, .int l1), (2, .int l2), (3, .int l3)] [.int s0] (B_X10_kickNow_62 l1 l2 l3 s0 M) := by
  unfold B_X10_kickNow_62
  refine r_istore0 (lv' := [(4, .int s0), (0, .ref (gA g 50 0 0)), (1, .int l1), (2, .int l2), (3, .int l3)]) C dX10_kickNow_62 (by decide) rfl ?_
  refine r_aload_n C 1 dX10_kickNow_64 rfl rfl ?_
  refine gf_50_29 C dX10_kickNow_65 u_1134 in_50 ?_
  refine r_iload_n C 2 dX10_kickNow_68 rfl rfl ?_
  refine r_iconst (v := (-1)) C dX10_kickNow_69 (by decide) ?_
  refine r_iast C dX10_kickNow_70 in_65 (contW_65 g _ _) (fun M12 h13 => ?_)
  refine r_iload C 0 dX10_kickNow_71 rfl ?_
  refine r_if_le (tgt := 85) C dX10_kickNow_73 (by decide) (fun h14 => ?_) (fun h14 => ?_)
  · refine r_aload_n C 1 dX10_kickNow_85 rfl rfl ?_
    refine gf_50_35 C dX10_kickNow_86 u_1140 in_50 ?_
    refine r_iload_n C 2 dX10_kickNow_89 rfl rfl ?_
    refine r_zald C dX10_kickNow_90 in_71 (contW_71 g _ _ _ _ _) (fun h15 => ?_)
    refine r_if_eq (tgt := 177) C dX10_kickNow_91 (by decide) (fun h16 => ?_) (fun h16 => ?_)
    · refine r_lv [1, 2, 3, 4] rfl ?_
      exact t_X10_kickNow_177 C hm l1 l2 l3 M12
    · refine r_aload_n C 1 dX10_kickNow_94 rfl rfl ?_
      refine r_iload_n C 2 dX10_kickNow_95 rfl rfl ?_
      refine r_callVRi (rest := []) C (c_X10_closeOf l1 M12) dX10_kickNow_96 u_1476 in_50 (contW_50 g _ _ _ _ _) rfl u_1477 u_108 mi_X10_closeOf (by decide) rfl rfl (Nat.le_of_ble_eq_true rfl) (xk1 hm (by decide)) (xn1 hm (by decide)) (fun v40 h41 => ?_)
      refine r_iload_n C 4 dX10_kickNow_99 rfl rfl ?_
      refine r_isub C dX10_kickNow_100 ?_
      refine r_i2f C dX10_kickNow_101 ?_
      refine r_aload_n C 1 dX10_kickNow_102 rfl rfl ?_
      refine r_iload_n C 2 dX10_kickNow_103 rfl rfl ?_
      refine r_callVRi (rest := [.float (FP.i2f (v40 - l3))]) C (c_X10_closeOf l1 M12) dX10_kickNow_104 u_1476 in_50 (contW_50 g _ _ _ _ _) rfl u_1477 u_108 mi_X10_closeOf (by decide) rfl rfl (Nat.le_of_ble_eq_true rfl) (xk1 hm (by decide)) (xn1 hm (by decide)) (fun v42 h43 => ?_)
      refine r_aload_n C 1 dX10_kickNow_107 rfl rfl ?_
      refine r_iload_n C 2 dX10_kickNow_108 rfl rfl ?_
      refine r_callVRi (rest := [.int v42, .float (FP.i2f (v40 - l3))]) C (c_X10_openOf l1 M12) dX10_kickNow_109 u_1451 in_50 (contW_50 g _ _ _ _ _) rfl u_1452 u_100 mi_X10_openOf (by decide) rfl rfl (Nat.le_of_ble_eq_true rfl) (xk1 hm (by decide)) (xn1 hm (by decide)) (fun v44 h45 => ?_)
      refine r_isub C dX10_kickNow_112 ?_
      refine r_i2f C dX10_kickNow_113 ?_
      refine r_fdiv C dX10_kickNow_114 ?_
      refine r_fstore (lv' := fun v46 => [(5, .float v46), (4, .int s0), (0, .ref (gA g 50 0 0)), (1, .int l1), (2, .int l2), (3, .int l3)]) C dX10_kickNow_115 (by decide) (fun _ => rfl) (fun v46 => ?_)
      refine r_aload_n C 2 dX10_kickNow_117 rfl rfl ?_
      refine gf_50_43 C dX10_kickNow_118 u_1148 in_50 ?_
      refine r_iload_n C 3 dX10_kickNow_121 rfl rfl ?_
      refine r_aload_n C 2 dX10_kickNow_122 rfl rfl ?_
      refine gf_50_45 C dX10_kickNow_123 u_1150 in_50 ?_
      refine r_iload_n C 3 dX10_kickNow_126 rfl rfl ?_
      refine r_iald C dX10_kickNow_127 in_81 (contW_81 g _ _ _ _ _) (fun h47 => ?_)
      refine r_if_eq (tgt := 143) C dX10_kickNow_128 (by decide) (fun h48 => ?_) (fun h48 => ?_)
      · refine r_lv [2, 3, 4, 5, 0] rfl ?_
        exact t_X10_kickNow_143 C hm l1 l2 l3 v46 l1 M12
      · refine r_fload C 0 dX10_kickNow_131 rfl ?_
        refine r_aload_n C 2 dX10_kickNow_133 rfl rfl ?_
        refine gf_50_43 C dX10_kickNow_134 u_1148 in_50 ?_
        refine r_iload_n C 3 dX10_kickNow_137 rfl rfl ?_
        refine r_fald C dX10_kickNow_138 in_79 (contW_79 g _ _ _ _ _) (fun h57 => ?_)
        refine r_fcmp C dX10_kickNow_139 ?_
        refine r_if_ge (tgt := 148) C dX10_kickNow_140 (by decide) (fun h58 => ?_) (fun h58 => ?_)
        · refine r_aload_n C 2 dX10_kickNow_148 rfl rfl ?_
          refine gf_50_43 C dX10_kickNow_149 u_1148 in_50 ?_
          refine r_iload_n C 3 dX10_kickNow_152 rfl rfl ?_
          refine r_fald C dX10_kickNow_153 in_79 (contW_79 g _ _ _ _ _) (fun h59 => ?_)
          refine r_lv [2, 3, 4, 5, 0] rfl ?_
          exact t_X10_kickNow_154 C hm l1 l2 l3 v46 (M12.2.1 79 0 0 l1.toNatClampNeg) l1 M12
        · refine r_lv [2, 3, 4, 5, 0] rfl ?_
          exact t_X10_kickNow_143 C hm l1 l2 l3 v46 l1 M12
  · refine r_aload_n C 1 dX10_kickNow_76 rfl rfl ?_
    refine r_iload_n C 2 dX10_kickNow_77 rfl rfl ?_
    refine r_iload C 0 dX10_kickNow_78 rfl ?_
    refine r_iload_n C 3 dX10_kickNow_80 rfl rfl ?_
    refine r_callVU (rest := []) C (c_X10_faultOf l1 s0 l2 M12) dX10_kickNow_81 u_1454 in_50 (contW_50 g _ _ _ _ _) rfl u_1455 u_101 mi_X10_faultOf (by decide) rfl rfl (Nat.le_of_ble_eq_true rfl) (xk1 hm (by decide)) (xn1 hm (by decide)) (fun M60 h61 => ?_)
    exact r_vret C dX10_kickNow_84 rfl rfl (xk0 hm) (xn0 hm)
set_option maxRecDepth 100000 in
set_option maxHeartbeats 4000000 in
theorem t_X10_kickNow_61 {g : Gw} {x : Xw} (C : Cw g x cX10_kickNow RX10 6 none 7) (hm : x.2.2.2.2.2.2.2.2.2.2.2 = (0, 0)) (l1 : Int32) (l2 : Int32) (l3 : Int32) (M : Mw) : Sw g x (fun M : Mw => (none, M)) M 0 0 61 [(0, .ref (gA g 50 0 0)), (1, .int l1), (2, .int l2), (3, .int l3)] [] (B_X10_kickNow_61 l1 l2 l3 M) := by
  unfold B_X10_kickNow_61
  refine r_iconst (v := 0) C dX10_kickNow_61 (by decide) ?_
  exact t_X10_kickNow_62 C hm l1 l2 l3 0 M
set_option maxRecDepth 100000 in
set_option maxHeartbeats 4000000 in
theorem c_X10_kickNow {g : Gw} {l : Launch} (p1 : Int32) (p2 : Int32) (M : Mw) : Kw g l yX10_kickNow cX10_kickNow 6 none 7 0 0 [.ref (gA g 50 0 0), .int p1, .int p2] M (fun M : Mw => (none, M)) (F_X10_kickNow p1 p2 M) := by
  refine Kw.of (own := RX10) (lv0 := [(0, .ref (gA g 50 0 0)), (1, .int p1), (2, .int p2)]) (by decide +kernel) rfl (Nat.le_of_ble_eq_true rfl) rfl (fun x C hl hm => ?_)
  subst hl
  unfold F_X10_kickNow
  refine r_iload_n C 2 dX10_kickNow_0 rfl rfl ?_
  refine r_aload_n C 0 dX10_kickNow_1 rfl rfl ?_
  refine gf_50_34 C dX10_kickNow_2 u_1139 in_50 ?_
  refine r_iload_n C 1 dX10_kickNow_5 rfl rfl ?_
  refine r_iald C dX10_kickNow_6 in_70 (contW_70 g _ _ _ _ _) (fun h1 => ?_)
  refine r_isub C dX10_kickNow_7 ?_
  refine r_istore_n (lv' := fun v2 => [(3, .int v2), (0, .ref (gA g 50 0 0)), (1, .int p1), (2, .int p2)]) C dX10_kickNow_8 rfl (by decide) (fun _ => rfl) (fun v2 => ?_)
  refine r_aload_n C 1 dX10_kickNow_9 rfl rfl ?_
  refine r_iload_n C 2 dX10_kickNow_10 rfl rfl ?_
  refine r_aload_n C 1 dX10_kickNow_11 rfl rfl ?_
  refine gf_50_31 C dX10_kickNow_12 u_1136 in_50 ?_
  refine r_iload_n C 2 dX10_kickNow_15 rfl rfl ?_
  refine r_iald C dX10_kickNow_16 in_67 (contW_67 g _ _ _ _ _) (fun h3 => ?_)
  refine r_callVRi (rest := []) C (c_X10_followers p1 (M.1 67 0 0 p1.toNatClampNeg) M) dX10_kickNow_17 u_1314 in_50 (contW_50 g _ _ _ _ _) rfl u_1315 u_76 mi_X10_followers (by decide) rfl rfl (Nat.le_of_ble_eq_true rfl) (xk1 hm (by decide)) (xn1 hm (by decide)) (fun v4 h5 => ?_)
  refine r_if_le (tgt := 27) C dX10_kickNow_20 (by decide) (fun h6 => ?_) (fun h6 => ?_)
  · refine r_aload_n C 1 dX10_kickNow_27 rfl rfl ?_
    refine r_iload_n C 2 dX10_kickNow_28 rfl rfl ?_
    refine r_callVRi (rest := []) C (c_X10_isWrong p1 M) dX10_kickNow_29 u_1448 in_50 (contW_50 g _ _ _ _ _) rfl u_1449 u_99 mi_X10_isWrong (by decide) rfl rfl (Nat.le_of_ble_eq_true rfl) (xk1 hm (by decide)) (xn1 hm (by decide)) (fun v7 h8 => ?_)
    refine r_if_eq (tgt := 39) C dX10_kickNow_32 (by decide) (fun h9 => ?_) (fun h9 => ?_)
    · refine r_aload_n C 1 dX10_kickNow_39 rfl rfl ?_
      refine gf_50_35 C dX10_kickNow_40 u_1140 in_50 ?_
      refine r_iload_n C 2 dX10_kickNow_43 rfl rfl ?_
      refine r_zald C dX10_kickNow_44 in_71 (contW_71 g _ _ _ _ _) (fun h10 => ?_)
      refine r_if_eq (tgt := 61) C dX10_kickNow_45 (by decide) (fun h11 => ?_) (fun h11 => ?_)
      · refine r_lv [1, 2, 3, 0] rfl ?_
        exact t_X10_kickNow_61 C hm p1 p2 v2 M
      · refine r_iload_n C 0 dX10_kickNow_48 rfl rfl ?_
        refine r_aload_n C 1 dX10_kickNow_49 rfl rfl ?_
        refine r_iload_n C 2 dX10_kickNow_50 rfl rfl ?_
        refine r_callVRi (rest := [.int v2]) C (c_X10_openOf p1 M) dX10_kickNow_51 u_1451 in_50 (contW_50 g _ _ _ _ _) rfl u_1452 u_100 mi_X10_openOf (by decide) rfl rfl (Nat.le_of_ble_eq_true rfl) (xk1 hm (by decide)) (xn1 hm (by decide)) (fun v62 h63 => ?_)
        refine r_icmp_ge (tgt := 61) C dX10_kickNow_54 (by decide) (fun h64 => ?_) (fun h64 => ?_)
        · refine r_lv [1, 2, 3, 0] rfl ?_
          exact t_X10_kickNow_61 C hm p1 p2 v2 M
        · refine r_iconst (v := 1) C dX10_kickNow_57 (by decide) ?_
          refine r_goto (tgt := 62) C dX10_kickNow_58 (by decide) ?_
          refine r_lv [1, 2, 3, 0] rfl ?_
          exact t_X10_kickNow_62 C hm p1 p2 v2 1 M
    · refine r_iconst (v := 4) C dX10_kickNow_35 (by decide) ?_
      refine r_goto (tgt := 62) C dX10_kickNow_36 (by decide) ?_
      refine r_lv [1, 2, 3, 0] rfl ?_
      exact t_X10_kickNow_62 C hm p1 p2 v2 4 M
  · refine r_iconst (v := 3) C dX10_kickNow_23 (by decide) ?_
    refine r_goto (tgt := 62) C dX10_kickNow_24 (by decide) ?_
    refine r_lv [1, 2, 3, 0] rfl ?_
    exact t_X10_kickNow_62 C hm p1 p2 v2 3 M
def B_X10_works_43 (l1 : Int32) (l2 : Int32) (l3 : Int32) (s0 : Int32) (s1 : Int32) (M : Mw) : Option (Mw) :=
  (bd (s1 * s0) (fun v11 => (if l3 = 0 then some M else (if inb l1 5 then (if v11 ≤ (M.1 68 0 0 l1.toNatClampNeg) then (if inb l1 5 then ((F_X10_followers l1 (M.1 67 0 0 l1.toNatClampNeg) M).bind (fun v16 => (if l3 = 2 then ((F_X10_kickNow l1 l2 M).bind (fun M19 => some M19)) else (if v16 = 0 then ((F_X10_kickNow l1 l2 M).bind (fun M31 => some M31)) else (if inb l1 5 then (if inb l1 5 then (if v16 = 0 then none else ((F_X10_follower l1 (M.1 67 0 0 l1.toNatClampNeg) ((M.1 65 0 0 l1.toNatClampNeg) - (M.1 65 0 0 l1.toNatClampNeg) / v16 * v16) M).bind (fun v25 => (if inb l1 5 then (bd (uIw M 67 0 0 l1.toNatClampNeg v25) (fun M27 => (if inb l1 5 then (bd (uIw M27 68 0 0 l1.toNatClampNeg 0) (fun M29 => some M29)) else none))) else none)))) else none) else none))))) else none) else some M) else none))))
def F_X10_works (p1 : Int32) (p2 : Int32) (M : Mw) : Option (Mw) :=
  (if inb p1 5 then ((F_X10_changeAt p1 (M.1 67 0 0 p1.toNatClampNeg) M).bind (fun v2 => (if inb p1 5 then (if inb p1 5 then (bd (uIw M 68 0 0 p1.toNatClampNeg ((M.1 68 0 0 p1.toNatClampNeg) + 1)) (fun M5 => (if inb p1 5 then ((F_X10_unitsOf p1 (M5.1 67 0 0 p1.toNatClampNeg) M5).bind (fun v8 => (if v2 = 3 then (B_X10_works_43 p1 p2 v2 2 v8 M5) else (B_X10_works_43 p1 p2 v2 1 v8 M5)))) else none))) else none) else none))) else none)
set_option maxRecDepth 100000 in
set_option maxHeartbeats 4000000 in
theorem t_X10_works_43 {g : Gw} {x : Xw} (C : Cw g x cX10_works RX10 6 none 8) (hm : x.2.2.2.2.2.2.2.2.2.2.2 = (0, 0)) (l1 : Int32) (l2 : Int32) (l3 : Int32) (s0 : Int32) (s1 : Int32) (M : Mw) : Sw g x (fun M : Mw => (none, M)) M 0 0 43 [(0, .ref (gA g 50 0 0)), (1, .int l1), (2, .int l2), (3, .int l3)] [.int s0, .int s1] (B_X10_works_43 l1 l2 l3 s0 s1 M) := by
  unfold B_X10_works_43
  refine r_imul C dX10_works_43 ?_
  refine r_istore (lv' := fun v11 => [(4, .int v11), (0, .ref (gA g 50 0 0)), (1, .int l1), (2, .int l2), (3, .int l3)]) C dX10_works_44 (by decide) (fun _ => rfl) (fun v11 => ?_)
  refine r_iload_n C 4 dX10_works_46 rfl rfl ?_
  refine r_if_eq (tgt := 61) C dX10_works_47 (by decide) (fun h12 => ?_) (fun h12 => ?_)
  · exact r_vret C dX10_works_61 rfl rfl (xk0 hm) (xn0 hm)
  · refine r_aload_n C 1 dX10_works_50 rfl rfl ?_
    refine gf_50_32 C dX10_works_51 u_1137 in_50 ?_
    refine r_iload_n C 2 dX10_works_54 rfl rfl ?_
    refine r_iald C dX10_works_55 in_68 (contW_68 g _ _ _ _ _) (fun h13 => ?_)
    refine r_iload C 0 dX10_works_56 rfl ?_
    refine r_icmp_ge (tgt := 62) C dX10_works_58 (by decide) (fun h14 => ?_) (fun h14 => ?_)
    · refine r_aload_n C 1 dX10_works_62 rfl rfl ?_
      refine r_iload_n C 2 dX10_works_63 rfl rfl ?_
      refine r_aload_n C 1 dX10_works_64 rfl rfl ?_
      refine gf_50_31 C dX10_works_65 u_1136 in_50 ?_
      refine r_iload_n C 2 dX10_works_68 rfl rfl ?_
      refine r_iald C dX10_works_69 in_67 (contW_67 g _ _ _ _ _) (fun h15 => ?_)
      refine r_callVRi (rest := []) C (c_X10_followers l1 (M.1 67 0 0 l1.toNatClampNeg) M) dX10_works_70 u_1314 in_50 (contW_50 g _ _ _ _ _) rfl u_1315 u_76 mi_X10_followers (by decide) rfl rfl (Nat.le_of_ble_eq_true rfl) (xk1 hm (by decide)) (xn1 hm (by decide)) (fun v16 h17 => ?_)
      refine r_istore0 (lv' := [(5, .int v16), (4, .int v11), (0, .ref (gA g 50 0 0)), (1, .int l1), (2, .int l2), (3, .int l3)]) C dX10_works_73 (by decide) rfl ?_
      refine r_iload_n C 5 dX10_works_75 rfl rfl ?_
      refine r_iconst (v := 2) C dX10_works_76 (by decide) ?_
      refine r_icmp_eq (tgt := 85) C dX10_works_77 (by decide) (fun h18 => ?_) (fun h18 => ?_)
      · refine r_aload_n C 2 dX10_works_85 rfl rfl ?_
        refine r_iload_n C 3 dX10_works_86 rfl rfl ?_
        refine r_iload_n C 4 dX10_works_87 rfl rfl ?_
        refine r_callVU (rest := []) C (c_X10_kickNow l1 l2 M) dX10_works_88 u_1445 in_50 (contW_50 g _ _ _ _ _) rfl u_1446 u_98 mi_X10_kickNow (by decide) rfl rfl (Nat.le_of_ble_eq_true rfl) (xk1 hm (by decide)) (xn1 hm (by decide)) (fun M19 h20 => ?_)
        exact r_vret C dX10_works_91 rfl rfl (xk0 hm) (xn0 hm)
      · refine r_iload C 0 dX10_works_80 rfl ?_
        refine r_if_ne (tgt := 92) C dX10_works_82 (by decide) (fun h21 => ?_) (fun h21 => ?_)
        · refine r_aload_n C 2 dX10_works_85 rfl rfl ?_
          refine r_iload_n C 3 dX10_works_86 rfl rfl ?_
          refine r_iload_n C 4 dX10_works_87 rfl rfl ?_
          refine r_callVU (rest := []) C (c_X10_kickNow l1 l2 M) dX10_works_88 u_1445 in_50 (contW_50 g _ _ _ _ _) rfl u_1446 u_98 mi_X10_kickNow (by decide) rfl rfl (Nat.le_of_ble_eq_true rfl) (xk1 hm (by decide)) (xn1 hm (by decide)) (fun M31 h32 => ?_)
          exact r_vret C dX10_works_91 rfl rfl (xk0 hm) (xn0 hm)
        · refine r_aload_n C 2 dX10_works_92 rfl rfl ?_
          refine gf_50_31 C dX10_works_93 u_1136 in_50 ?_
          refine r_iload_n C 3 dX10_works_96 rfl rfl ?_
          refine r_aload_n C 2 dX10_works_97 rfl rfl ?_
          refine r_iload_n C 3 dX10_works_98 rfl rfl ?_
          refine r_aload_n C 2 dX10_works_99 rfl rfl ?_
          refine gf_50_31 C dX10_works_100 u_1136 in_50 ?_
          refine r_iload_n C 3 dX10_works_103 rfl rfl ?_
          refine r_iald C dX10_works_104 in_67 (contW_67 g _ _ _ _ _) (fun h22 => ?_)
          refine r_aload_n C 2 dX10_works_105 rfl rfl ?_
          refine gf_50_29 C dX10_works_106 u_1134 in_50 ?_
          refine r_iload_n C 3 dX10_works_109 rfl rfl ?_
          refine r_iald C dX10_works_110 in_65 (contW_65 g _ _ _ _ _) (fun h23 => ?_)
          refine r_iload C 0 dX10_works_111 rfl ?_
          refine r_irem C dX10_works_113 (fun h24 => ?_)
          refine r_callVRi (rest := [.int l1, .ref (gA g 67 0 0)]) C (c_X10_follower l1 (M.1 67 0 0 l1.toNatClampNeg) ((M.1 65 0 0 l1.toNatClampNeg) - (M.1 65 0 0 l1.toNatClampNeg) / v16 * v16) M) dX10_works_114 u_1393 in_50 (contW_50 g _ _ _ _ _) rfl u_1394 u_86 mi_X10_follower (by decide) rfl rfl (Nat.le_of_ble_eq_true rfl) (xk1 hm (by decide)) (xn1 hm (by decide)) (fun v25 h26 => ?_)
          refine r_iast C dX10_works_117 in_67 (contW_67 g _ _) (fun M27 h28 => ?_)
          refine r_aload_n C 2 dX10_works_118 rfl rfl ?_
          refine gf_50_32 C dX10_works_119 u_1137 in_50 ?_
          refine r_iload_n C 3 dX10_works_122 rfl rfl ?_
          refine r_iconst (v := 0) C dX10_works_123 (by decide) ?_
          refine r_iast C dX10_works_124 in_68 (contW_68 g _ _) (fun M29 h30 => ?_)
          exact r_vret C dX10_works_125 rfl rfl (xk0 hm) (xn0 hm)
    · exact r_vret C dX10_works_61 rfl rfl (xk0 hm) (xn0 hm)
set_option maxRecDepth 100000 in
set_option maxHeartbeats 4000000 in
theorem c_X10_works {g : Gw} {l : Launch} (p1 : Int32) (p2 : Int32) (M : Mw) : Kw g l yX10_works cX10_works 6 none 8 0 0 [.ref (gA g 50 0 0), .int p1, .int p2] M (fun M : Mw => (none, M)) (F_X10_works p1 p2 M) := by
  refine Kw.of (own := RX10) (lv0 := [(0, .ref (gA g 50 0 0)), (1, .int p1), (2, .int p2)]) (by decide +kernel) rfl (Nat.le_of_ble_eq_true rfl) rfl (fun x C hl hm => ?_)
  subst hl
  unfold F_X10_works
  refine r_aload_n C 0 dX10_works_0 rfl rfl ?_
  refine r_iload_n C 1 dX10_works_1 rfl rfl ?_
  refine r_aload_n C 0 dX10_works_2 rfl rfl ?_
  refine gf_50_31 C dX10_works_3 u_1136 in_50 ?_
  refine r_iload_n C 1 dX10_works_6 rfl rfl ?_
  refine r_iald C dX10_works_7 in_67 (contW_67 g _ _ _ _ _) (fun h1 => ?_)
  refine r_callVRi (rest := []) C (c_X10_changeAt p1 (M.1 67 0 0 p1.toNatClampNeg) M) dX10_works_8 u_1436 in_50 (contW_50 g _ _ _ _ _) rfl u_1437 u_95 mi_X10_changeAt (by decide) rfl rfl (Nat.le_of_ble_eq_true rfl) (xk1 hm (by decide)) (xn1 hm (by decide)) (fun v2 h3 => ?_)
  refine r_istore_n0 (lv' := [(3, .int v2), (0, .ref (gA g 50 0 0)), (1, .int p1), (2, .int p2)]) C dX10_works_11 rfl (by decide) rfl ?_
  refine r_aload_n C 1 dX10_works_12 rfl rfl ?_
  refine gf_50_32 C dX10_works_13 u_1137 in_50 ?_
  refine r_iload_n C 2 dX10_works_16 rfl rfl ?_
  refine r_dup2 C rfl rfl dX10_works_17 ?_
  refine r_iald C dX10_works_18 in_68 (contW_68 g _ _ _ _ _) (fun h4 => ?_)
  refine r_iconst (v := 1) C dX10_works_19 (by decide) ?_
  refine r_iadd C dX10_works_20 ?_
  refine r_iast C dX10_works_21 in_68 (contW_68 g _ _) (fun M5 h6 => ?_)
  refine r_aload_n C 1 dX10_works_22 rfl rfl ?_
  refine r_iload_n C 2 dX10_works_23 rfl rfl ?_
  refine r_aload_n C 1 dX10_works_24 rfl rfl ?_
  refine gf_50_31 C dX10_works_25 u_1136 in_50 ?_
  refine r_iload_n C 2 dX10_works_28 rfl rfl ?_
  refine r_iald C dX10_works_29 in_67 (contW_67 g _ _ _ _ _) (fun h7 => ?_)
  refine r_callVRi (rest := []) C (c_X10_unitsOf p1 (M5.1 67 0 0 p1.toNatClampNeg) M5) dX10_works_30 u_1280 in_50 (contW_50 g _ _ _ _ _) rfl u_1281 u_69 mi_X10_unitsOf (by decide) rfl rfl (Nat.le_of_ble_eq_true rfl) (xk1 hm (by decide)) (xn1 hm (by decide)) (fun v8 h9 => ?_)
  refine r_iload_n C 0 dX10_works_33 rfl rfl ?_
  refine r_iconst (v := 3) C dX10_works_34 (by decide) ?_
  refine r_icmp_ne (tgt := 42) C dX10_works_35 (by decide) (fun h10 => ?_) (fun h10 => ?_)
  · refine r_iconst (v := 2) C dX10_works_38 (by decide) ?_
    refine r_goto (tgt := 43) C dX10_works_39 (by decide) ?_
    refine r_lv [1, 2, 3, 0] rfl ?_
    exact t_X10_works_43 C hm p1 p2 v2 2 v8 M5
  · refine r_iconst (v := 1) C dX10_works_42 (by decide) ?_
    refine r_lv [1, 2, 3, 0] rfl ?_
    exact t_X10_works_43 C hm p1 p2 v2 1 v8 M5
def B_X10_asksLate_2 (l1 : Int32) (k2 : Int32 → Mw → Option (Mw)) (l2 : Int32) (M : Mw) : Option (Mw) :=
  (if (M.1 51 0 0 4) ≤ l2 then some M else (if (M.1 50 0 0 58) = 0 then (if inb l2 5 then (if l1 < (M.1 64 0 0 l2.toNatClampNeg) then (bd (l2 + 1) (fun v5 => (k2 v5 M))) else (if inb l2 5 then ((F_X10_closeOf l2 M).bind (fun v7 => (if (l1 - (M.1 70 0 0 l2.toNatClampNeg)) < v7 then (bd (l2 + 1) (fun v10 => (k2 v10 M))) else ((F_X10_faultOf l2 2 l1 M).bind (fun M11 => (bd (l2 + 1) (fun v13 => (k2 v13 M11)))))))) else none)) else none) else some M))
def F_X10_asksLate (p1 : Int32) (M : Mw) : Option (Mw) :=
  (it (fun _ _ => none) (B_X10_asksLate_2 p1) FU 0 M)
set_option maxRecDepth 100000 in
set_option maxHeartbeats 4000000 in
theorem t_X10_asksLate_2 {g : Gw} {x : Xw} (C : Cw g x cX10_asksLate RX10 3 none 7) (hm : x.2.2.2.2.2.2.2.2.2.2.2 = (0, 0)) (l1 : Int32) (k2 : Int32 → Mw → Option (Mw)) (hk2 : ∀ (l2 : Int32) (M : Mw), Sw g x (fun M : Mw => (none, M)) M 0 0 2 [(0, .ref (gA g 50 0 0)), (1, .int l1), (2, .int l2)] [] (k2 l2 M)) (l2 : Int32) (M : Mw) : Sw g x (fun M : Mw => (none, M)) M 0 0 2 [(0, .ref (gA g 50 0 0)), (1, .int l1), (2, .int l2)] [] (B_X10_asksLate_2 l1 k2 l2 M) := by
  unfold B_X10_asksLate_2
  refine r_iload_n C 2 dX10_asksLate_2 rfl rfl ?_
  refine r_aload_n C 0 dX10_asksLate_3 rfl rfl ?_
  refine gf_50_1 C dX10_asksLate_4 u_1106 in_50 ?_
  refine r_iconst (v := 4) C dX10_asksLate_7 (by decide) ?_
  refine r_ialdc C dX10_asksLate_8 in_51 (contW_51 g _ _ _ _ _) (by decide) (j := 4) (by decide) ?_
  refine r_icmp_ge (tgt := 58) C dX10_asksLate_9 (by decide) (fun h1 => ?_) (fun h1 => ?_)
  · exact r_vret C dX10_asksLate_58 rfl rfl (xk0 hm) (xn0 hm)
  · refine r_aload_n C 0 dX10_asksLate_12 rfl rfl ?_
    refine gf_50_58 C dX10_asksLate_13 u_1163 in_50 ?_
    refine r_if_ne (tgt := 58) C dX10_asksLate_16 (by decide) (fun h2 => ?_) (fun h2 => ?_)
    · refine r_iload_n C 1 dX10_asksLate_19 rfl rfl ?_
      refine r_aload_n C 0 dX10_asksLate_20 rfl rfl ?_
      refine gf_50_28 C dX10_asksLate_21 u_1133 in_50 ?_
      refine r_iload_n C 2 dX10_asksLate_24 rfl rfl ?_
      refine r_iald C dX10_asksLate_25 in_64 (contW_64 g _ _ _ _ _) (fun h3 => ?_)
      refine r_icmp_lt (tgt := 52) C dX10_asksLate_26 (by decide) (fun h4 => ?_) (fun h4 => ?_)
      · refine r_iinc (c := 1) (lv' := fun v5 => [(2, .int v5), (0, .ref (gA g 50 0 0)), (1, .int l1)]) C 2 dX10_asksLate_52 rfl (by decide) (by decide) (fun _ => rfl) (fun v5 => ?_)
        refine r_goto (tgt := 2) C dX10_asksLate_55 (by decide) ?_
        refine r_lv [1, 2, 0] rfl ?_
        exact hk2 v5 M
      · refine r_iload_n C 1 dX10_asksLate_29 rfl rfl ?_
        refine r_aload_n C 0 dX10_asksLate_30 rfl rfl ?_
        refine gf_50_34 C dX10_asksLate_31 u_1139 in_50 ?_
        refine r_iload_n C 2 dX10_asksLate_34 rfl rfl ?_
        refine r_iald C dX10_asksLate_35 in_70 (contW_70 g _ _ _ _ _) (fun h6 => ?_)
        refine r_isub C dX10_asksLate_36 ?_
        refine r_aload_n C 0 dX10_asksLate_37 rfl rfl ?_
        refine r_iload_n C 2 dX10_asksLate_38 rfl rfl ?_
        refine r_callVRi (rest := [.int (l1 - (M.1 70 0 0 l2.toNatClampNeg))]) C (c_X10_closeOf l2 M) dX10_asksLate_39 u_1476 in_50 (contW_50 g _ _ _ _ _) rfl u_1477 u_108 mi_X10_closeOf (by decide) rfl rfl (Nat.le_of_ble_eq_true rfl) (xk1 hm (by decide)) (xn1 hm (by decide)) (fun v7 h8 => ?_)
        refine r_icmp_lt (tgt := 52) C dX10_asksLate_42 (by decide) (fun h9 => ?_) (fun h9 => ?_)
        · refine r_iinc (c := 1) (lv' := fun v10 => [(2, .int v10), (0, .ref (gA g 50 0 0)), (1, .int l1)]) C 2 dX10_asksLate_52 rfl (by decide) (by decide) (fun _ => rfl) (fun v10 => ?_)
          refine r_goto (tgt := 2) C dX10_asksLate_55 (by decide) ?_
          refine r_lv [1, 2, 0] rfl ?_
          exact hk2 v10 M
        · refine r_aload_n C 0 dX10_asksLate_45 rfl rfl ?_
          refine r_iload_n C 2 dX10_asksLate_46 rfl rfl ?_
          refine r_iconst (v := 2) C dX10_asksLate_47 (by decide) ?_
          refine r_iload_n C 1 dX10_asksLate_48 rfl rfl ?_
          refine r_callVU (rest := []) C (c_X10_faultOf l2 2 l1 M) dX10_asksLate_49 u_1454 in_50 (contW_50 g _ _ _ _ _) rfl u_1455 u_101 mi_X10_faultOf (by decide) rfl rfl (Nat.le_of_ble_eq_true rfl) (xk1 hm (by decide)) (xn1 hm (by decide)) (fun M11 h12 => ?_)
          refine r_iinc (c := 1) (lv' := fun v13 => [(2, .int v13), (0, .ref (gA g 50 0 0)), (1, .int l1)]) C 2 dX10_asksLate_52 rfl (by decide) (by decide) (fun _ => rfl) (fun v13 => ?_)
          refine r_goto (tgt := 2) C dX10_asksLate_55 (by decide) ?_
          refine r_lv [1, 2, 0] rfl ?_
          exact hk2 v13 M11
    · exact r_vret C dX10_asksLate_58 rfl rfl (xk0 hm) (xn0 hm)
set_option maxRecDepth 100000 in
set_option maxHeartbeats 4000000 in
theorem tl_X10_asksLate_2 {g : Gw} {x : Xw} (C : Cw g x cX10_asksLate RX10 3 none 7) (hm : x.2.2.2.2.2.2.2.2.2.2.2 = (0, 0)) (l1 : Int32) (n : Nat) : ∀ (l2 : Int32) (M : Mw), Sw g x (fun M : Mw => (none, M)) M 0 0 2 [(0, .ref (gA g 50 0 0)), (1, .int l1), (2, .int l2)] [] (it (fun _ _ => none) (B_X10_asksLate_2 l1) n l2 M) := by
  induction n with
  | zero =>
    intro l2 M
    exact r_none
  | succ n ih =>
    intro l2 M
    exact t_X10_asksLate_2 C hm l1 _ ih l2 M
set_option maxRecDepth 100000 in
set_option maxHeartbeats 4000000 in
theorem c_X10_asksLate {g : Gw} {l : Launch} (p1 : Int32) (M : Mw) : Kw g l yX10_asksLate cX10_asksLate 3 none 7 0 0 [.ref (gA g 50 0 0), .int p1] M (fun M : Mw => (none, M)) (F_X10_asksLate p1 M) := by
  refine Kw.of (own := RX10) (lv0 := [(0, .ref (gA g 50 0 0)), (1, .int p1)]) (by decide +kernel) rfl (Nat.le_of_ble_eq_true rfl) rfl (fun x C hl hm => ?_)
  subst hl
  unfold F_X10_asksLate
  refine r_iconst (v := 0) C dX10_asksLate_0 (by decide) ?_
  refine r_istore_n0 (lv' := [(2, .int 0), (0, .ref (gA g 50 0 0)), (1, .int p1)]) C dX10_asksLate_1 rfl (by decide) rfl ?_
  refine r_lv [1, 2, 0] rfl ?_
  exact tl_X10_asksLate_2 C hm p1 FU 0 M
def B_X10_isAsleep_2 (l1 : Int32) (l2 : Int32) (M : Mw) (k2 : Int32 → Option (Int32)) (l3 : Int32) : Option (Int32) :=
  ((F_X10_injections M).bind (fun v1 => (if v1 ≤ l3 then some 0 else (if l3 = (M.1 50 0 0 23) then (bd (l3 + 1) (fun v5 => (k2 v5))) else ((F_X10_of l3 0 M).bind (fun v6 => (if v6 = 5 then ((F_X10_of l3 1 M).bind (fun v10 => (if v10 = l1 then ((F_X10_of l3 2 M).bind (fun v14 => (if l2 < v14 then (bd (l3 + 1) (fun v17 => (k2 v17))) else (if inb l3 19 then (if (M.1 84 0 0 l3.toNatClampNeg) = 0 then some 1 else (bd (l3 + 1) (fun v20 => (k2 v20)))) else none)))) else (bd (l3 + 1) (fun v13 => (k2 v13)))))) else (bd (l3 + 1) (fun v9 => (k2 v9))))))))))
def F_X10_isAsleep (p1 : Int32) (p2 : Int32) (M : Mw) : Option (Int32) :=
  (it (fun _ => none) (B_X10_isAsleep_2 p1 p2 M) FU 0)
set_option maxRecDepth 100000 in
set_option maxHeartbeats 4000000 in
theorem t_X10_isAsleep_2 {g : Gw} {x : Xw} (C : Cw g x cX10_isAsleep RX10 4 (some .boolean) 3) (hm : x.2.2.2.2.2.2.2.2.2.2.2 = (0, 0)) (M : Mw) (l1 : Int32) (l2 : Int32) (k2 : Int32 → Option (Int32)) (hk2 : ∀ (l3 : Int32), Sw g x (fun v : Int32 => (some (.int v), M)) M 0 0 2 [(0, .ref (gA g 50 0 0)), (1, .int l1), (2, .int l2), (3, .int l3)] [] (k2 l3)) (l3 : Int32) : Sw g x (fun v : Int32 => (some (.int v), M)) M 0 0 2 [(0, .ref (gA g 50 0 0)), (1, .int l1), (2, .int l2), (3, .int l3)] [] (B_X10_isAsleep_2 l1 l2 M k2 l3) := by
  unfold B_X10_isAsleep_2
  refine r_iload_n C 3 dX10_isAsleep_2 rfl rfl ?_
  refine r_aload_n C 0 dX10_isAsleep_3 rfl rfl ?_
  refine r_callVRi (rest := [.int l3]) C (c_X10_injections M) dX10_isAsleep_4 u_1439 in_50 (contW_50 g _ _ _ _ _) rfl u_1440 u_96 mi_X10_injections (by decide) rfl rfl (Nat.le_of_ble_eq_true rfl) (xk1 hm (by decide)) (xn1 hm (by decide)) (fun v1 h2 => ?_)
  refine r_icmp_ge (tgt := 65) C dX10_isAsleep_7 (by decide) (fun h3 => ?_) (fun h3 => ?_)
  · refine r_iconst (v := 0) C dX10_isAsleep_65 (by decide) ?_
    exact r_zretc C dX10_isAsleep_66 rfl bz0 rfl (xk0 hm) (xn0 hm)
  · refine r_iload_n C 3 dX10_isAsleep_10 rfl rfl ?_
    refine r_aload_n C 0 dX10_isAsleep_11 rfl rfl ?_
    refine gf_50_23 C dX10_isAsleep_12 u_1128 in_50 ?_
    refine r_icmp_eq (tgt := 59) C dX10_isAsleep_15 (by decide) (fun h4 => ?_) (fun h4 => ?_)
    · refine r_iinc (c := 1) (lv' := fun v5 => [(3, .int v5), (0, .ref (gA g 50 0 0)), (1, .int l1), (2, .int l2)]) C 3 dX10_isAsleep_59 rfl (by decide) (by decide) (fun _ => rfl) (fun v5 => ?_)
      refine r_goto (tgt := 2) C dX10_isAsleep_62 (by decide) ?_
      refine r_lv [1, 2, 3, 0] rfl ?_
      exact hk2 v5
    · refine r_aload_n C 0 dX10_isAsleep_18 rfl rfl ?_
      refine r_iload_n C 3 dX10_isAsleep_19 rfl rfl ?_
      refine r_iconst (v := 0) C dX10_isAsleep_20 (by decide) ?_
      refine r_callVRi (rest := []) C (c_X10_of l3 0 M) dX10_isAsleep_21 u_1304 in_50 (contW_50 g _ _ _ _ _) rfl u_1305 u_74 mi_X10_of (by decide) rfl rfl (Nat.le_of_ble_eq_true rfl) (xk1 hm (by decide)) (xn1 hm (by decide)) (fun v6 h7 => ?_)
      refine r_iconst (v := 5) C dX10_isAsleep_24 (by decide) ?_
      refine r_icmp_ne (tgt := 59) C dX10_isAsleep_25 (by decide) (fun h8 => ?_) (fun h8 => ?_)
      · refine r_aload_n C 0 dX10_isAsleep_28 rfl rfl ?_
        refine r_iload_n C 3 dX10_isAsleep_29 rfl rfl ?_
        refine r_iconst (v := 1) C dX10_isAsleep_30 (by decide) ?_
        refine r_callVRi (rest := []) C (c_X10_of l3 1 M) dX10_isAsleep_31 u_1304 in_50 (contW_50 g _ _ _ _ _) rfl u_1305 u_74 mi_X10_of (by decide) rfl rfl (Nat.le_of_ble_eq_true rfl) (xk1 hm (by decide)) (xn1 hm (by decide)) (fun v10 h11 => ?_)
        refine r_iload_n C 1 dX10_isAsleep_34 rfl rfl ?_
        refine r_icmp_ne (tgt := 59) C dX10_isAsleep_35 (by decide) (fun h12 => ?_) (fun h12 => ?_)
        · refine r_aload_n C 0 dX10_isAsleep_38 rfl rfl ?_
          refine r_iload_n C 3 dX10_isAsleep_39 rfl rfl ?_
          refine r_iconst (v := 2) C dX10_isAsleep_40 (by decide) ?_
          refine r_callVRi (rest := []) C (c_X10_of l3 2 M) dX10_isAsleep_41 u_1304 in_50 (contW_50 g _ _ _ _ _) rfl u_1305 u_74 mi_X10_of (by decide) rfl rfl (Nat.le_of_ble_eq_true rfl) (xk1 hm (by decide)) (xn1 hm (by decide)) (fun v14 h15 => ?_)
          refine r_iload_n C 2 dX10_isAsleep_44 rfl rfl ?_
          refine r_icmp_gt (tgt := 59) C dX10_isAsleep_45 (by decide) (fun h16 => ?_) (fun h16 => ?_)
          · refine r_iinc (c := 1) (lv' := fun v17 => [(3, .int v17), (0, .ref (gA g 50 0 0)), (1, .int l1), (2, .int l2)]) C 3 dX10_isAsleep_59 rfl (by decide) (by decide) (fun _ => rfl) (fun v17 => ?_)
            refine r_goto (tgt := 2) C dX10_isAsleep_62 (by decide) ?_
            refine r_lv [1, 2, 3, 0] rfl ?_
            exact hk2 v17
          · refine r_aload_n C 0 dX10_isAsleep_48 rfl rfl ?_
            refine gf_50_48 C dX10_isAsleep_49 u_1153 in_50 ?_
            refine r_iload_n C 3 dX10_isAsleep_52 rfl rfl ?_
            refine r_zald C dX10_isAsleep_53 in_84 (contW_84 g _ _ _ _ _) (fun h18 => ?_)
            refine r_if_ne (tgt := 59) C dX10_isAsleep_54 (by decide) (fun h19 => ?_) (fun h19 => ?_)
            · refine r_iconst (v := 1) C dX10_isAsleep_57 (by decide) ?_
              exact r_zretc C dX10_isAsleep_58 rfl bz1 rfl (xk0 hm) (xn0 hm)
            · refine r_iinc (c := 1) (lv' := fun v20 => [(3, .int v20), (0, .ref (gA g 50 0 0)), (1, .int l1), (2, .int l2)]) C 3 dX10_isAsleep_59 rfl (by decide) (by decide) (fun _ => rfl) (fun v20 => ?_)
              refine r_goto (tgt := 2) C dX10_isAsleep_62 (by decide) ?_
              refine r_lv [1, 2, 3, 0] rfl ?_
              exact hk2 v20
        · refine r_iinc (c := 1) (lv' := fun v13 => [(3, .int v13), (0, .ref (gA g 50 0 0)), (1, .int l1), (2, .int l2)]) C 3 dX10_isAsleep_59 rfl (by decide) (by decide) (fun _ => rfl) (fun v13 => ?_)
          refine r_goto (tgt := 2) C dX10_isAsleep_62 (by decide) ?_
          refine r_lv [1, 2, 3, 0] rfl ?_
          exact hk2 v13
      · refine r_iinc (c := 1) (lv' := fun v9 => [(3, .int v9), (0, .ref (gA g 50 0 0)), (1, .int l1), (2, .int l2)]) C 3 dX10_isAsleep_59 rfl (by decide) (by decide) (fun _ => rfl) (fun v9 => ?_)
        refine r_goto (tgt := 2) C dX10_isAsleep_62 (by decide) ?_
        refine r_lv [1, 2, 3, 0] rfl ?_
        exact hk2 v9
set_option maxRecDepth 100000 in
set_option maxHeartbeats 4000000 in
theorem tl_X10_isAsleep_2 {g : Gw} {x : Xw} (C : Cw g x cX10_isAsleep RX10 4 (some .boolean) 3) (hm : x.2.2.2.2.2.2.2.2.2.2.2 = (0, 0)) (M : Mw) (l1 : Int32) (l2 : Int32) (n : Nat) : ∀ (l3 : Int32), Sw g x (fun v : Int32 => (some (.int v), M)) M 0 0 2 [(0, .ref (gA g 50 0 0)), (1, .int l1), (2, .int l2), (3, .int l3)] [] (it (fun _ => none) (B_X10_isAsleep_2 l1 l2 M) n l3) := by
  induction n with
  | zero =>
    intro l3
    exact r_none
  | succ n ih =>
    intro l3
    exact t_X10_isAsleep_2 C hm M l1 l2 _ ih l3
set_option maxRecDepth 100000 in
set_option maxHeartbeats 4000000 in
theorem c_X10_isAsleep {g : Gw} {l : Launch} (p1 : Int32) (p2 : Int32) (M : Mw) : Kw g l yX10_isAsleep cX10_isAsleep 4 (some .boolean) 3 0 0 [.ref (gA g 50 0 0), .int p1, .int p2] M (fun v : Int32 => (some (.int v), M)) (F_X10_isAsleep p1 p2 M) := by
  refine Kw.of (own := RX10) (lv0 := [(0, .ref (gA g 50 0 0)), (1, .int p1), (2, .int p2)]) (by decide +kernel) rfl (Nat.le_of_ble_eq_true rfl) rfl (fun x C hl hm => ?_)
  subst hl
  unfold F_X10_isAsleep
  refine r_iconst (v := 0) C dX10_isAsleep_0 (by decide) ?_
  refine r_istore_n0 (lv' := [(3, .int 0), (0, .ref (gA g 50 0 0)), (1, .int p1), (2, .int p2)]) C dX10_isAsleep_1 rfl (by decide) rfl ?_
  refine r_lv [1, 2, 3, 0] rfl ?_
  exact tl_X10_isAsleep_2 C hm M p1 p2 FU 0
