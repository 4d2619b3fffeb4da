def B_X8_probe_152 (b1 : Nat) (b2 : Nat) (k116 : Int32 → Mw → Option (Mw)) (l3 : Int32) (l4 : Int32) (l5 : Int32) (l6 : Int32) (l7 : Int32) (l8 : Int32) (k152 : Int32 → Mw → Option (Mw)) (l9 : Int32) (M : Mw) : Option (Mw) :=
  (if l6 ≤ l9 then (bd (l7 + 1) (fun v25 => (k116 v25 M))) else ((F_X0_setInjection (2 + 5) l5 l4 l3 l7 l9 1 M).bind (fun M26 => ((F_X5_resume 2 b2 M26).bind (fun M28 => ((F_X5_delayOfNext 2 l3 l8 M28).bind (fun q30 => ((F_X8_noteDelay l3 l4 q30.1 q30.2).bind (fun M32 => (bd (l9 + 1) (fun v34 => (k152 v34 M32))))))))))))
def B_X8_probe_116 (b1 : Nat) (b2 : Nat) (l3 : Int32) (l4 : Int32) (l5 : Int32) (l6 : Int32) (k116 : Int32 → Mw → Option (Mw)) (l7 : Int32) (M : Mw) : Option (Mw) :=
  (if 50 < l7 then some M else ((F_X5_beginOf b1 l3 l7 M).bind (fun v17 => (if v17 = (-1) then some M else ((F_X5_beginOf b1 l3 l7 M).bind (fun v20 => ((F_X5_show b2 v20 M).bind (fun M22 => (it (fun _ _ => none) (B_X8_probe_152 b1 b2 k116 l3 l4 l5 l6 l7 v20) FU 0 M22)))))))))
def B_X8_probe_91 (b1 : Nat) (b2 : Nat) (l3 : Int32) (l4 : Int32) (l5 : Int32) (s0 : Int32) (M : Mw) : Option (Mw) :=
  (if inb l3 5 then (if inb l4 5 then (bd (uIw M 38 0 l3.toNatClampNeg l4.toNatClampNeg (-1)) (fun M11 => (if inb l3 5 then (if inb l4 5 then (bd (uIw M11 40 0 l3.toNatClampNeg l4.toNatClampNeg 0) (fun M14 => (it (fun _ _ => none) (B_X8_probe_116 b1 b2 l3 l4 l5 s0) FU 0 M14))) else none) else none))) else none) else none)
def F_X8_probe (b1 : Nat) (b2 : Nat) (p3 : Int32) (p4 : Int32) (M : Mw) : Option (Mw) :=
  (if inb p3 5 then (if inb p4 5 then (if (M.1 40 0 p3.toNatClampNeg p4.toNatClampNeg) = (-1) then ((F_X0_copyFrom (2 + 5) (b1 + 5) M).bind (fun M4 => (bd (uIw M4 0 (2 + 5) 0 7 ((M4.1 0 (2 + 5) 0 7) + 1)) (fun M6 => (bd (((M6.1 0 (2 + 5) 0 6) + (M6.1 0 (2 + 5) 0 7)) - 1) (fun v7 => (if p4 = 4 then (B_X8_probe_91 b1 b2 p3 p4 v7 1 M6) else (if inb p3 5 then (B_X8_probe_91 b1 b2 p3 p4 v7 (M6.1 4 (b1 + 5) p3.toNatClampNeg 6) M6) else none)))))))) else some M) else none) else none)
set_option maxRecDepth 100000 in
set_option maxHeartbeats 4000000 in
theorem t_X8_probe_152 {g : Gw} {x : Xw} (C : Cw g x cX8_probe RX8 10 none 7) (hm : x.2.2.2.2.2.2.2.2.2.2.2 = (0, 0)) {b1 : Nat} (hb1 : b1 < 3) {b2 : Nat} (hb2 : b2 < 3) (k116 : Int32 → Mw → Option (Mw)) (l3 : Int32) (l4 : Int32) (l5 : Int32) (l6 : Int32) (l7 : Int32) (l8 : Int32) (hk116 : ∀ (l7 : Int32) (M : Mw), Sw g x (fun M : Mw => (none, M)) M 0 0 116 [(0, .ref (gA g 36 0 0)), (1, .ref (gA g 23 b1 0)), (2, .ref (gA g 23 b2 0)), (3, .int l3), (4, .int l4), (5, .int l5), (6, .int l6), (7, .int l7)] [] (k116 l7 M)) (k152 : Int32 → Mw → Option (Mw)) (hk152 : ∀ (l9 : Int32) (M : Mw), Sw g x (fun M : Mw => (none, M)) M 0 0 152 [(0, .ref (gA g 36 0 0)), (1, .ref (gA g 23 b1 0)), (2, .ref (gA g 23 b2 0)), (3, .int l3), (4, .int l4), (5, .int l5), (6, .int l6), (7, .int l7), (8, .int l8), (9, .int l9)] [] (k152 l9 M)) (l9 : Int32) (M : Mw) : Sw g x (fun M : Mw => (none, M)) M 0 0 152 [(0, .ref (gA g 36 0 0)), (1, .ref (gA g 23 b1 0)), (2, .ref (gA g 23 b2 0)), (3, .int l3), (4, .int l4), (5, .int l5), (6, .int l6), (7, .int l7), (8, .int l8), (9, .int l9)] [] (B_X8_probe_152 b1 b2 k116 l3 l4 l5 l6 l7 l8 k152 l9 M) := by
  unfold B_X8_probe_152
  refine r_iload C 9 dX8_probe_152 rfl ?_
  refine r_iload C 6 dX8_probe_154 rfl ?_
  refine r_icmp_ge (tgt := 210) C dX8_probe_156 (by decide) (fun h24 => ?_) (fun h24 => ?_)
  · refine r_iinc (c := 1) (lv' := fun v25 => [(7, .int v25), (0, .ref (gA g 36 0 0)), (1, .ref (gA g 23 b1 0)), (2, .ref (gA g 23 b2 0)), (3, .int l3), (4, .int l4), (5, .int l5), (6, .int l6), (8, .int l8), (9, .int l9)]) C 7 dX8_probe_210 rfl (by decide) (by decide) (fun _ => rfl) (fun v25 => ?_)
    refine r_goto (tgt := 116) C dX8_probe_213 (by decide) ?_
    refine r_lv [1, 2, 3, 4, 5, 6, 7, 0] rfl ?_
    exact hk116 v25 M
  · refine r_aload_n C 0 dX8_probe_159 rfl rfl ?_
    refine gf_36_2 C dX8_probe_160 u_363 in_36 ?_
    refine gf_23_0 C dX8_probe_163 u_329 (in_23 (by decide)) ?_
    refine r_iload C 5 dX8_probe_166 rfl ?_
    refine r_iload C 4 dX8_probe_168 rfl ?_
    refine r_iload_n C 3 dX8_probe_170 rfl rfl ?_
    refine r_iload C 7 dX8_probe_171 rfl ?_
    refine r_iload C 9 dX8_probe_173 rfl ?_
    refine r_iconst (v := 1) C dX8_probe_175 (by decide) ?_
    refine r_callVU (rest := []) C (c_X0_setInjection (lt85 (by decide)) l5 l4 l3 l7 l9 1 M) dX8_probe_176 u_1044 (in_0 (lt85 (by decide))) (contW_0 g _ _ _ _ _) rfl u_524 u_525 mi_X0_setInjection (by decide) rfl rfl (Nat.le_of_ble_eq_true rfl) (xk1 hm (by decide)) (xn1 hm (by decide)) (fun M26 h27 => ?_)
    refine r_aload_n C 0 dX8_probe_179 rfl rfl ?_
    refine gf_36_2 C dX8_probe_180 u_363 in_36 ?_
    refine r_aload_n C 2 dX8_probe_183 rfl rfl ?_
    refine r_callVU (rest := []) C (c_X5_resume (by decide) hb2 M26) dX8_probe_184 u_1045 (in_23 (by decide)) (contW_23 g _ _ _ _ _) rfl u_1046 u_1047 mi_X5_resume (by decide) rfl rfl (Nat.le_of_ble_eq_true rfl) (xk1 hm (by decide)) (xn1 hm (by decide)) (fun M28 h29 => ?_)
    refine r_aload_n C 0 dX8_probe_187 rfl rfl ?_
    refine r_iload_n C 3 dX8_probe_188 rfl rfl ?_
    refine r_iload C 4 dX8_probe_189 rfl ?_
    refine r_aload_n C 0 dX8_probe_191 rfl rfl ?_
    refine gf_36_2 C dX8_probe_192 u_363 in_36 ?_
    refine r_iload_n C 3 dX8_probe_195 rfl rfl ?_
    refine r_iload C 8 dX8_probe_196 rfl ?_
    refine r_callVWi (rest := [.int l4, .int l3, .ref (gA g 36 0 0)]) C (c_X5_delayOfNext (by decide) l3 l8 M28) dX8_probe_198 u_1058 (in_23 (by decide)) (contW_23 g _ _ _ _ _) rfl u_1059 u_1060 mi_X5_delayOfNext (by decide) rfl rfl (Nat.le_of_ble_eq_true rfl) (xk1 hm (by decide)) (xn1 hm (by decide)) (fun q30 h31 => ?_)
    refine r_callVU (rest := []) C (c_X8_noteDelay l3 l4 q30.1 q30.2) dX8_probe_201 u_1062 in_36 (contW_36 g _ _ _ _ _) rfl u_1063 u_47 mi_X8_noteDelay (by decide) rfl rfl (Nat.le_of_ble_eq_true rfl) (xk1 hm (by decide)) (xn1 hm (by decide)) (fun M32 h33 => ?_)
    refine r_iinc (c := 1) (lv' := fun v34 => [(9, .int v34), (0, .ref (gA g 36 0 0)), (1, .ref (gA g 23 b1 0)), (2, .ref (gA g 23 b2 0)), (3, .int l3), (4, .int l4), (5, .int l5), (6, .int l6), (7, .int l7), (8, .int l8)]) C 9 dX8_probe_204 rfl (by decide) (by decide) (fun _ => rfl) (fun v34 => ?_)
    refine r_goto (tgt := 152) C dX8_probe_207 (by decide) ?_
    refine r_lv [1, 2, 3, 4, 5, 6, 7, 8, 9, 0] rfl ?_
    exact hk152 v34 M32
set_option maxRecDepth 100000 in
set_option maxHeartbeats 4000000 in
theorem tl_X8_probe_152 {g : Gw} {x : Xw} (C : Cw g x cX8_probe RX8 10 none 7) (hm : x.2.2.2.2.2.2.2.2.2.2.2 = (0, 0)) {b1 : Nat} (hb1 : b1 < 3) {b2 : Nat} (hb2 : b2 < 3) (k116 : Int32 → Mw → Option (Mw)) (l3 : Int32) (l4 : Int32) (l5 : Int32) (l6 : Int32) (l7 : Int32) (l8 : Int32) (hk116 : ∀ (l7 : Int32) (M : Mw), Sw g x (fun M : Mw => (none, M)) M 0 0 116 [(0, .ref (gA g 36 0 0)), (1, .ref (gA g 23 b1 0)), (2, .ref (gA g 23 b2 0)), (3, .int l3), (4, .int l4), (5, .int l5), (6, .int l6), (7, .int l7)] [] (k116 l7 M)) (n : Nat) : ∀ (l9 : Int32) (M : Mw), Sw g x (fun M : Mw => (none, M)) M 0 0 152 [(0, .ref (gA g 36 0 0)), (1, .ref (gA g 23 b1 0)), (2, .ref (gA g 23 b2 0)), (3, .int l3), (4, .int l4), (5, .int l5), (6, .int l6), (7, .int l7), (8, .int l8), (9, .int l9)] [] (it (fun _ _ => none) (B_X8_probe_152 b1 b2 k116 l3 l4 l5 l6 l7 l8) n l9 M) := by
  induction n with
  | zero =>
    intro l9 M
    exact r_none
  | succ n ih =>
    intro l9 M
    exact t_X8_probe_152 C hm hb1 hb2 k116 l3 l4 l5 l6 l7 l8 hk116 _ ih l9 M
set_option maxRecDepth 100000 in
set_option maxHeartbeats 4000000 in
theorem t_X8_probe_116 {g : Gw} {x : Xw} (C : Cw g x cX8_probe RX8 10 none 7) (hm : x.2.2.2.2.2.2.2.2.2.2.2 = (0, 0)) {b1 : Nat} (hb1 : b1 < 3) {b2 : Nat} (hb2 : b2 < 3) (l3 : Int32) (l4 : Int32) (l5 : Int32) (l6 : Int32) (k116 : Int32 → Mw → Option (Mw)) (hk116 : ∀ (l7 : Int32) (M : Mw), Sw g x (fun M : Mw => (none, M)) M 0 0 116 [(0, .ref (gA g 36 0 0)), (1, .ref (gA g 23 b1 0)), (2, .ref (gA g 23 b2 0)), (3, .int l3), (4, .int l4), (5, .int l5), (6, .int l6), (7, .int l7)] [] (k116 l7 M)) (l7 : Int32) (M : Mw) : Sw g x (fun M : Mw => (none, M)) M 0 0 116 [(0, .ref (gA g 36 0 0)), (1, .ref (gA g 23 b1 0)), (2, .ref (gA g 23 b2 0)), (3, .int l3), (4, .int l4), (5, .int l5), (6, .int l6), (7, .int l7)] [] (B_X8_probe_116 b1 b2 l3 l4 l5 l6 k116 l7 M) := by
  unfold B_X8_probe_116
  refine r_iload C 7 dX8_probe_116 rfl ?_
  refine r_bipush (v := 50) C dX8_probe_118 (by decide) ?_
  refine r_icmp_gt (tgt := 216) C dX8_probe_120 (by decide) (fun h16 => ?_) (fun h16 => ?_)
  · exact r_vret C dX8_probe_216 rfl rfl (xk0 hm) (xn0 hm)
  · refine r_aload_n C 1 dX8_probe_123 rfl rfl ?_
    refine r_iload_n C 3 dX8_probe_124 rfl rfl ?_
    refine r_iload C 7 dX8_probe_125 rfl ?_
    refine r_callVRi (rest := []) C (c_X5_beginOf hb1 l3 l7 M) dX8_probe_127 u_1042 (in_23 hb1) (contW_23 g _ _ _ _ _) rfl u_989 u_990 mi_X5_beginOf (by decide) rfl rfl (Nat.le_of_ble_eq_true rfl) (xk1 hm (by decide)) (xn1 hm (by decide)) (fun v17 h18 => ?_)
    refine r_iconst (v := (-1)) C dX8_probe_130 (by decide) ?_
    refine r_icmp_eq (tgt := 216) C dX8_probe_131 (by decide) (fun h19 => ?_) (fun h19 => ?_)
    · exact r_vret C dX8_probe_216 rfl rfl (xk0 hm) (xn0 hm)
    · refine r_aload_n C 1 dX8_probe_134 rfl rfl ?_
      refine r_iload_n C 3 dX8_probe_135 rfl rfl ?_
      refine r_iload C 7 dX8_probe_136 rfl ?_
      refine r_callVRi (rest := []) C (c_X5_beginOf hb1 l3 l7 M) dX8_probe_138 u_1042 (in_23 hb1) (contW_23 g _ _ _ _ _) rfl u_989 u_990 mi_X5_beginOf (by decide) rfl rfl (Nat.le_of_ble_eq_true rfl) (xk1 hm (by decide)) (xn1 hm (by decide)) (fun v20 h21 => ?_)
      refine r_istore0 (lv' := [(8, .int v20), (0, .ref (gA g 36 0 0)), (1, .ref (gA g 23 b1 0)), (2, .ref (gA g 23 b2 0)), (3, .int l3), (4, .int l4), (5, .int l5), (6, .int l6), (7, .int l7)]) C dX8_probe_141 (by decide) rfl ?_
      refine r_aload_n C 3 dX8_probe_143 rfl rfl ?_
      refine r_iload C 0 dX8_probe_144 rfl ?_
      refine r_callVU (rest := []) C (c_X5_show hb2 v20 M) dX8_probe_146 u_1043 (in_23 hb2) (contW_23 g _ _ _ _ _) rfl u_571 u_572 mi_X5_show (by decide) rfl rfl (Nat.le_of_ble_eq_true rfl) (xk1 hm (by decide)) (xn1 hm (by decide)) (fun M22 h23 => ?_)
      refine r_iconst (v := 0) C dX8_probe_149 (by decide) ?_
      refine r_istore0 (lv' := [(9, .int 0), (8, .int v20), (0, .ref (gA g 36 0 0)), (1, .ref (gA g 23 b1 0)), (2, .ref (gA g 23 b2 0)), (3, .int l3), (4, .int l4), (5, .int l5), (6, .int l6), (7, .int l7)]) C dX8_probe_150 (by decide) rfl ?_
      refine r_lv [2, 3, 4, 5, 6, 7, 8, 9, 1, 0] rfl ?_
      exact tl_X8_probe_152 C hm hb1 hb2 k116 l3 l4 l5 l6 l7 v20 hk116 FU 0 M22
set_option maxRecDepth 100000 in
set_option maxHeartbeats 4000000 in
theorem tl_X8_probe_116 {g : Gw} {x : Xw} (C : Cw g x cX8_probe RX8 10 none 7) (hm : x.2.2.2.2.2.2.2.2.2.2.2 = (0, 0)) {b1 : Nat} (hb1 : b1 < 3) {b2 : Nat} (hb2 : b2 < 3) (l3 : Int32) (l4 : Int32) (l5 : Int32) (l6 : Int32) (n : Nat) : ∀ (l7 : Int32) (M : Mw), Sw g x (fun M : Mw => (none, M)) M 0 0 116 [(0, .ref (gA g 36 0 0)), (1, .ref (gA g 23 b1 0)), (2, .ref (gA g 23 b2 0)), (3, .int l3), (4, .int l4), (5, .int l5), (6, .int l6), (7, .int l7)] [] (it (fun _ _ => none) (B_X8_probe_116 b1 b2 l3 l4 l5 l6) n l7 M) := by
  induction n with
  | zero =>
    intro l7 M
    exact r_none
  | succ n ih =>
    intro l7 M
    exact t_X8_probe_116 C hm hb1 hb2 l3 l4 l5 l6 _ ih l7 M
set_option maxRecDepth 100000 in
set_option maxHeartbeats 4000000 in
theorem t_X8_probe_91 {g : Gw} {x : Xw} (C : Cw g x cX8_probe RX8 10 none 7) (hm : x.2.2.2.2.2.2.2.2.2.2.2 = (0, 0)) {b1 : Nat} (hb1 : b1 < 3) {b2 : Nat} (hb2 : b2 < 3) (l3 : Int32) (l4 : Int32) (l5 : Int32) (s0 : Int32) (M : Mw) : Sw g x (fun M : Mw => (none, M)) M 0 0 91 [(0, .ref (gA g 36 0 0)), (1, .ref (gA g 23 b1 0)), (2, .ref (gA g 23 b2 0)), (3, .int l3), (4, .int l4), (5, .int l5)] [.int s0] (B_X8_probe_91 b1 b2 l3 l4 l5 s0 M) := by
  unfold B_X8_probe_91
  refine r_istore0 (lv' := [(6, .int s0), (0, .ref (gA g 36 0 0)), (1, .ref (gA g 23 b1 0)), (2, .ref (gA g 23 b2 0)), (3, .int l3), (4, .int l4), (5, .int l5)]) C dX8_probe_91 (by decide) rfl ?_
  refine r_aload_n C 1 dX8_probe_93 rfl rfl ?_
  refine gf_36_0 C dX8_probe_94 u_359 in_36 ?_
  refine r_iload_n C 4 dX8_probe_97 rfl rfl ?_
  refine r_aald (t0 := 5) (ty := .array .int) C dX8_probe_98 in_37 (contW_37 g _ _ _ _ _) rfl rfl (fun h10 => ?_)
  refine r_iload C 5 dX8_probe_99 rfl ?_
  refine r_iconst (v := (-1)) C dX8_probe_101 (by decide) ?_
  refine r_iast C dX8_probe_102 (in_38 (inb_lt h10)) (contW_38 g _ _) (fun M11 h12 => ?_)
  refine r_aload_n C 1 dX8_probe_103 rfl rfl ?_
  refine gf_36_1 C dX8_probe_104 u_361 in_36 ?_
  refine r_iload_n C 4 dX8_probe_107 rfl rfl ?_
  refine r_aald (t0 := 5) (ty := .array .int) C dX8_probe_108 in_39 (contW_39 g _ _ _ _ _) rfl rfl (fun h13 => ?_)
  refine r_iload C 5 dX8_probe_109 rfl ?_
  refine r_iconst (v := 0) C dX8_probe_111 (by decide) ?_
  refine r_iast C dX8_probe_112 (in_40 (inb_lt h13)) (contW_40 g _ _) (fun M14 h15 => ?_)
  refine r_iconst (v := 0) C dX8_probe_113 (by decide) ?_
  refine r_istore0 (lv' := [(7, .int 0), (6, .int s0), (0, .ref (gA g 36 0 0)), (1, .ref (gA g 23 b1 0)), (2, .ref (gA g 23 b2 0)), (3, .int l3), (4, .int l4), (5, .int l5)]) C dX8_probe_114 (by decide) rfl ?_
  refine r_lv [2, 3, 4, 5, 6, 7, 1, 0] rfl ?_
  exact tl_X8_probe_116 C hm hb1 hb2 l3 l4 l5 s0 FU 0 M14
set_option maxRecDepth 100000 in
set_option maxHeartbeats 4000000 in
theorem c_X8_probe {g : Gw} {l : Launch} {b1 : Nat} (hb1 : b1 < 3) {b2 : Nat} (hb2 : b2 < 3) (p3 : Int32) (p4 : Int32) (M : Mw) : Kw g l yX8_probe cX8_probe 10 none 7 0 0 [.ref (gA g 36 0 0), .ref (gA g 23 b1 0), .ref (gA g 23 b2 0), .int p3, .int p4] M (fun M : Mw => (none, M)) (F_X8_probe b1 b2 p3 p4 M) := by
  refine Kw.of (own := RX8) (lv0 := [(0, .ref (gA g 36 0 0)), (1, .ref (gA g 23 b1 0)), (2, .ref (gA g 23 b2 0)), (3, .int p3), (4, .int p4)]) (by decide +kernel) rfl (Nat.le_of_ble_eq_true rfl) rfl (fun x C hl hm => ?_)
  subst hl
  unfold F_X8_probe
  refine r_aload_n C 0 dX8_probe_0 rfl rfl ?_
  refine gf_36_1 C dX8_probe_1 u_361 in_36 ?_
  refine r_iload_n C 3 dX8_probe_4 rfl rfl ?_
  refine r_aald (t0 := 5) (ty := .array .int) C dX8_probe_5 in_39 (contW_39 g _ _ _ _ _) rfl rfl (fun h1 => ?_)
  refine r_iload C 4 dX8_probe_6 rfl ?_
  refine r_iald C dX8_probe_8 (in_40 (inb_lt h1)) (contW_40 g _ _ _ _ _) (fun h2 => ?_)
  refine r_iconst (v := (-1)) C dX8_probe_9 (by decide) ?_
  refine r_icmp_eq (tgt := 14) C dX8_probe_10 (by decide) (fun h3 => ?_) (fun h3 => ?_)
  · refine r_aload_n C 0 dX8_probe_14 rfl rfl ?_
    refine gf_36_2 C dX8_probe_15 u_363 in_36 ?_
    refine gf_23_0 C dX8_probe_18 u_329 (in_23 (by decide)) ?_
    refine r_aload_n C 1 dX8_probe_21 rfl rfl ?_
    refine gf_23_0 C dX8_probe_22 u_329 (in_23 hb1) ?_
    refine r_callVU (rest := []) C (c_X0_copyFrom (lt85 (by decide)) (lt85 hb1) M) dX8_probe_25 u_1004 (in_0 (lt85 (by decide))) (contW_0 g _ _ _ _ _) rfl u_545 u_546 mi_X0_copyFrom (by decide) rfl rfl (Nat.le_of_ble_eq_true rfl) (xk1 hm (by decide)) (xn1 hm (by decide)) (fun M4 h5 => ?_)
    refine r_aload_n C 0 dX8_probe_28 rfl rfl ?_
    refine gf_36_2 C dX8_probe_29 u_363 in_36 ?_
    refine gf_23_0 C dX8_probe_32 u_329 (in_23 (by decide)) ?_
    refine r_dup C rfl dX8_probe_35 ?_
    refine gf_0_7 C dX8_probe_36 u_211 (in_0 (lt85 (by decide))) ?_
    refine r_iconst (v := 1) C dX8_probe_39 (by decide) ?_
    refine r_iadd C dX8_probe_40 ?_
    refine pf_0_7 C dX8_probe_41 u_211 (in_0 (lt85 (by decide))) (fun M6 => ?_)
    refine r_aload_n C 0 dX8_probe_44 rfl rfl ?_
    refine gf_36_2 C dX8_probe_45 u_363 in_36 ?_
    refine gf_23_0 C dX8_probe_48 u_329 (in_23 (by decide)) ?_
    refine gf_0_6 C dX8_probe_51 u_206 (in_0 (lt85 (by decide))) ?_
    refine r_aload_n C 0 dX8_probe_54 rfl rfl ?_
    refine gf_36_2 C dX8_probe_55 u_363 in_36 ?_
    refine gf_23_0 C dX8_probe_58 u_329 (in_23 (by decide)) ?_
    refine gf_0_7 C dX8_probe_61 u_211 (in_0 (lt85 (by decide))) ?_
    refine r_iadd C dX8_probe_64 ?_
    refine r_iconst (v := 1) C dX8_probe_65 (by decide) ?_
    refine r_isub C dX8_probe_66 ?_
    refine r_istore (lv' := fun v7 => [(5, .int v7), (0, .ref (gA g 36 0 0)), (1, .ref (gA g 23 b1 0)), (2, .ref (gA g 23 b2 0)), (3, .int p3), (4, .int p4)]) C dX8_probe_67 (by decide) (fun _ => rfl) (fun v7 => ?_)
    refine r_iload C 5 dX8_probe_69 rfl ?_
    refine r_iconst (v := 4) C dX8_probe_71 (by decide) ?_
    refine r_icmp_ne (tgt := 79) C dX8_probe_72 (by decide) (fun h8 => ?_) (fun h8 => ?_)
    · refine r_iconst (v := 1) C dX8_probe_75 (by decide) ?_
      refine r_goto (tgt := 91) C dX8_probe_76 (by decide) ?_
      refine r_lv [1, 2, 3, 4, 5, 0] rfl ?_
      exact t_X8_probe_91 C hm hb1 hb2 p3 p4 v7 1 M6
    · refine r_aload_n C 2 dX8_probe_79 rfl rfl ?_
      refine gf_23_0 C dX8_probe_80 u_329 (in_23 hb1) ?_
      refine gf_0_10 C dX8_probe_83 u_220 (in_0 (lt85 hb1)) ?_
      refine r_iload_n C 4 dX8_probe_86 rfl rfl ?_
      refine r_aald (t0 := 5) (ty := .array .int) C dX8_probe_87 (in_3 (lt85 hb1)) (contW_3 g _ _ _ _ _) rfl rfl (fun h9 => ?_)
      refine r_bipush (v := 6) C dX8_probe_88 (by decide) ?_
      refine r_ialdc C dX8_probe_90 (in_4 (lt85 hb1) (inb_lt h9)) (contW_4 g _ _ _ _ _) (by decide) (j := 6) (by decide) ?_
      refine r_lv [1, 2, 3, 4, 5, 0] rfl ?_
      exact t_X8_probe_91 C hm hb1 hb2 p3 p4 v7 (M6.1 4 (b1 + 5) p3.toNatClampNeg 6) M6
  · exact r_vret C dX8_probe_13 rfl rfl (xk0 hm) (xn0 hm)
def F_X9_longest (p1 : Int32) (p2 : Int32) (M : Mw) : Option (Int32 × Mw) :=
  ((F_X0_hasTask 1 p1 M).bind (fun v1 => (if v1 = 0 then some ((-2), M) else (if p2 < 0 then some ((-2), M) else (if p2 ≤ 4 then ((F_X8_probe 0 1 p1 p2 M).bind (fun M6 => (if inb p1 5 then (if inb p2 5 then some ((M6.1 38 0 p1.toNatClampNeg p2.toNatClampNeg), M6) else none) else none))) else some ((-2), M))))))
set_option maxRecDepth 100000 in
set_option maxHeartbeats 4000000 in
theorem c_X9_longest {g : Gw} {l : Launch} (p1 : Int32) (p2 : Int32) (M : Mw) : Kw g l yX9_longest cX9_longest 3 (some .int) 8 0 0 [.ref (gA g 41 0 0), .int p1, .int p2] M (fun q : Int32 × Mw => (some (.int q.1), q.2)) (F_X9_longest p1 p2 M) := by
  refine Kw.of (own := RX9) (lv0 := [(0, .ref (gA g 41 0 0)), (1, .int p1), (2, .int p2)]) (by decide +kernel) rfl (Nat.le_of_ble_eq_true rfl) rfl (fun x C hl hm => ?_)
  subst hl
  unfold F_X9_longest
  refine r_aload_n C 0 dX9_longest_0 rfl rfl ?_
  refine gf_41_1 C dX9_longest_1 u_365 in_41 ?_
  refine r_iload_n C 1 dX9_longest_4 rfl rfl ?_
  refine r_callVRi (rest := []) C (c_X0_hasTask (by decide) p1 M) dX9_longest_5 u_699 (in_0 (by decide)) (contW_0 g _ _ _ _ _) rfl u_510 u_511 mi_X0_hasTask (by decide) rfl rfl (Nat.le_of_ble_eq_true rfl) (xk1 hm (by decide)) (xn1 hm (by decide)) (fun v1 h2 => ?_)
  refine r_if_eq (tgt := 20) C dX9_longest_8 (by decide) (fun h3 => ?_) (fun h3 => ?_)
  · refine r_bipush (v := (-2)) C dX9_longest_20 (by decide) ?_
    exact r_iret C dX9_longest_22 rfl rfl (xk0 hm) (xn0 hm)
  · refine r_iload_n C 2 dX9_longest_11 rfl rfl ?_
    refine r_if_lt (tgt := 20) C dX9_longest_12 (by decide) (fun h4 => ?_) (fun h4 => ?_)
    · refine r_bipush (v := (-2)) C dX9_longest_20 (by decide) ?_
      exact r_iret C dX9_longest_22 rfl rfl (xk0 hm) (xn0 hm)
    · refine r_iload_n C 2 dX9_longest_15 rfl rfl ?_
      refine r_iconst (v := 4) C dX9_longest_16 (by decide) ?_
      refine r_icmp_le (tgt := 23) C dX9_longest_17 (by decide) (fun h5 => ?_) (fun h5 => ?_)
      · refine r_aload_n C 0 dX9_longest_23 rfl rfl ?_
        refine gf_41_8 C dX9_longest_24 u_372 in_41 ?_
        refine r_aload_n C 0 dX9_longest_27 rfl rfl ?_
        refine gf_41_6 C dX9_longest_28 u_370 in_41 ?_
        refine r_aload_n C 0 dX9_longest_31 rfl rfl ?_
        refine gf_41_7 C dX9_longest_32 u_371 in_41 ?_
        refine r_iload_n C 1 dX9_longest_35 rfl rfl ?_
        refine r_iload_n C 2 dX9_longest_36 rfl rfl ?_
        refine r_callVU (rest := []) C (c_X8_probe (by decide) (by decide) p1 p2 M) dX9_longest_37 u_1038 in_36 (contW_36 g _ _ _ _ _) rfl u_1039 u_1040 mi_X8_probe (by decide) rfl rfl (Nat.le_of_ble_eq_true rfl) (xk1 hm (by decide)) (xn1 hm (by decide)) (fun M6 h7 => ?_)
        refine r_aload_n C 0 dX9_longest_40 rfl rfl ?_
        refine gf_41_8 C dX9_longest_41 u_372 in_41 ?_
        refine gf_36_0 C dX9_longest_44 u_360 in_36 ?_
        refine r_iload_n C 1 dX9_longest_47 rfl rfl ?_
        refine r_aald (t0 := 5) (ty := .array .int) C dX9_longest_48 in_37 (contW_37 g _ _ _ _ _) rfl rfl (fun h8 => ?_)
        refine r_iload_n C 2 dX9_longest_49 rfl rfl ?_
        refine r_iald C dX9_longest_50 (in_38 (inb_lt h8)) (contW_38 g _ _ _ _ _) (fun h9 => ?_)
        exact r_iret C dX9_longest_51 rfl rfl (xk0 hm) (xn0 hm)
      · refine r_bipush (v := (-2)) C dX9_longest_20 (by decide) ?_
        exact r_iret C dX9_longest_22 rfl rfl (xk0 hm) (xn0 hm)
def F_X9_silent (p1 : Int32) (p2 : Int32) (M : Mw) : Option (Int32 × Mw) :=
  ((F_X0_hasTask 1 p1 M).bind (fun v1 => (if v1 = 0 then some ((-2), M) else (if p2 < 0 then some ((-2), M) else (if p2 ≤ 4 then ((F_X8_probe 0 1 p1 p2 M).bind (fun M6 => (if inb p1 5 then (if inb p2 5 then some ((M6.1 40 0 p1.toNatClampNeg p2.toNatClampNeg), M6) else none) else none))) else some ((-2), M))))))
set_option maxRecDepth 100000 in
set_option maxHeartbeats 4000000 in
theorem c_X9_silent {g : Gw} {l : Launch} (p1 : Int32) (p2 : Int32) (M : Mw) : Kw g l yX9_silent cX9_silent 3 (some .int) 8 0 0 [.ref (gA g 41 0 0), .int p1, .int p2] M (fun q : Int32 × Mw => (some (.int q.1), q.2)) (F_X9_silent p1 p2 M) := by
  refine Kw.of (own := RX9) (lv0 := [(0, .ref (gA g 41 0 0)), (1, .int p1), (2, .int p2)]) (by decide +kernel) rfl (Nat.le_of_ble_eq_true rfl) rfl (fun x C hl hm => ?_)
  subst hl
  unfold F_X9_silent
  refine r_aload_n C 0 dX9_silent_0 rfl rfl ?_
  refine gf_41_1 C dX9_silent_1 u_365 in_41 ?_
  refine r_iload_n C 1 dX9_silent_4 rfl rfl ?_
  refine r_callVRi (rest := []) C (c_X0_hasTask (by decide) p1 M) dX9_silent_5 u_699 (in_0 (by decide)) (contW_0 g _ _ _ _ _) rfl u_510 u_511 mi_X0_hasTask (by decide) rfl rfl (Nat.le_of_ble_eq_true rfl) (xk1 hm (by decide)) (xn1 hm (by decide)) (fun v1 h2 => ?_)
  refine r_if_eq (tgt := 20) C dX9_silent_8 (by decide) (fun h3 => ?_) (fun h3 => ?_)
  · refine r_bipush (v := (-2)) C dX9_silent_20 (by decide) ?_
    exact r_iret C dX9_silent_22 rfl rfl (xk0 hm) (xn0 hm)
  · refine r_iload_n C 2 dX9_silent_11 rfl rfl ?_
    refine r_if_lt (tgt := 20) C dX9_silent_12 (by decide) (fun h4 => ?_) (fun h4 => ?_)
    · refine r_bipush (v := (-2)) C dX9_silent_20 (by decide) ?_
      exact r_iret C dX9_silent_22 rfl rfl (xk0 hm) (xn0 hm)
    · refine r_iload_n C 2 dX9_silent_15 rfl rfl ?_
      refine r_iconst (v := 4) C dX9_silent_16 (by decide) ?_
      refine r_icmp_le (tgt := 23) C dX9_silent_17 (by decide) (fun h5 => ?_) (fun h5 => ?_)
      · refine r_aload_n C 0 dX9_silent_23 rfl rfl ?_
        refine gf_41_8 C dX9_silent_24 u_372 in_41 ?_
        refine r_aload_n C 0 dX9_silent_27 rfl rfl ?_
        refine gf_41_6 C dX9_silent_28 u_370 in_41 ?_
        refine r_aload_n C 0 dX9_silent_31 rfl rfl ?_
        refine gf_41_7 C dX9_silent_32 u_371 in_41 ?_
        refine r_iload_n C 1 dX9_silent_35 rfl rfl ?_
        refine r_iload_n C 2 dX9_silent_36 rfl rfl ?_
        refine r_callVU (rest := []) C (c_X8_probe (by decide) (by decide) p1 p2 M) dX9_silent_37 u_1038 in_36 (contW_36 g _ _ _ _ _) rfl u_1039 u_1040 mi_X8_probe (by decide) rfl rfl (Nat.le_of_ble_eq_true rfl) (xk1 hm (by decide)) (xn1 hm (by decide)) (fun M6 h7 => ?_)
        refine r_aload_n C 0 dX9_silent_40 rfl rfl ?_
        refine gf_41_8 C dX9_silent_41 u_372 in_41 ?_
        refine gf_36_1 C dX9_silent_44 u_362 in_36 ?_
        refine r_iload_n C 1 dX9_silent_47 rfl rfl ?_
        refine r_aald (t0 := 5) (ty := .array .int) C dX9_silent_48 in_39 (contW_39 g _ _ _ _ _) rfl rfl (fun h8 => ?_)
        refine r_iload_n C 2 dX9_silent_49 rfl rfl ?_
        refine r_iald C dX9_silent_50 (in_40 (inb_lt h8)) (contW_40 g _ _ _ _ _) (fun h9 => ?_)
        exact r_iret C dX9_silent_51 rfl rfl (xk0 hm) (xn0 hm)
      · refine r_bipush (v := (-2)) C dX9_silent_20 (by decide) ?_
        exact r_iret C dX9_silent_22 rfl rfl (xk0 hm) (xn0 hm)
def F_X0_allows (b : Nat) (p1 : Int32) (p2 : Int32) (p3 : Int32) (p4 : Int32) (p5 : Int32) (M : Mw) : Option (Int32) :=
  (if p1 = 5 then ((F_X0_hasWatcher b p2 M).bind (fun v15 => (if v15 = 0 then some 0 else (if p3 < 0 then some 0 else (if 199 < p3 then some 0 else (if p4 = 0 then (if p5 = 0 then some 1 else some 0) else some 0)))))) else (if p1 < 0 then some 0 else (if 4 < p1 then some 0 else (if p3 < 0 then some 0 else (if 50 < p3 then some 0 else (if p5 < 1 then some 0 else (if p5 ≤ 9 then (if p1 = 4 then ((F_X0_hasTask b p2 M).bind (fun v11 => (if v11 = 0 then some 0 else (if p4 = 0 then some 1 else some 0)))) else ((F_X0_hasNode b p2 p4 M).bind (fun v9 => (if bz v9 then some v9 else none)))) else some 0)))))))
set_option maxRecDepth 100000 in
set_option maxHeartbeats 4000000 in
theorem c_X0_allows {g : Gw} {l : Launch} {b : Nat} (hb : b < 8) (p1 : Int32) (p2 : Int32) (p3 : Int32) (p4 : Int32) (p5 : Int32) (M : Mw) : Kw g l yX0_allows cX0_allows 6 (some .boolean) 3 0 0 [.ref (gA g 0 b 0), .int p1, .int p2, .int p3, .int p4, .int p5] M (fun v : Int32 => (some (.int v), M)) (F_X0_allows b p1 p2 p3 p4 p5 M) := by
  refine Kw.of (own := RX0) (lv0 := [(0, .ref (gA g 0 b 0)), (1, .int p1), (2, .int p2), (3, .int p3), (4, .int p4), (5, .int p5)]) (by decide +kernel) rfl (Nat.le_of_ble_eq_true rfl) rfl (fun x C hl hm => ?_)
  subst hl
  unfold F_X0_allows
  refine r_iload_n C 1 dX0_allows_0 rfl rfl ?_
  refine r_iconst (v := 5) C dX0_allows_1 (by decide) ?_
  refine r_icmp_ne (tgt := 40) C dX0_allows_2 (by decide) (fun h1 => ?_) (fun h1 => ?_)
  · refine r_aload_n C 0 dX0_allows_5 rfl rfl ?_
    refine r_iload_n C 2 dX0_allows_6 rfl rfl ?_
    refine r_callVRi (rest := []) C (c_X0_hasWatcher hb p2 M) dX0_allows_7 u_1078 (in_0 hb) (contW_0 g _ _ _ _ _) rfl u_710 u_711 mi_X0_hasWatcher (by decide) rfl rfl (Nat.le_of_ble_eq_true rfl) (xk1 hm (by decide)) (xn1 hm (by decide)) (fun v15 h16 => ?_)
    refine r_if_eq (tgt := 38) C dX0_allows_10 (by decide) (fun h17 => ?_) (fun h17 => ?_)
    · refine r_iconst (v := 0) C dX0_allows_38 (by decide) ?_
      exact r_zretc C dX0_allows_39 rfl bz0 rfl (xk0 hm) (xn0 hm)
    · refine r_iload_n C 3 dX0_allows_13 rfl rfl ?_
      refine r_if_lt (tgt := 38) C dX0_allows_14 (by decide) (fun h18 => ?_) (fun h18 => ?_)
      · refine r_iconst (v := 0) C dX0_allows_38 (by decide) ?_
        exact r_zretc C dX0_allows_39 rfl bz0 rfl (xk0 hm) (xn0 hm)
      · refine r_iload_n C 3 dX0_allows_17 rfl rfl ?_
        refine r_sipush (v := 199) C dX0_allows_18 (by decide) ?_
        refine r_icmp_gt (tgt := 38) C dX0_allows_21 (by decide) (fun h19 => ?_) (fun h19 => ?_)
        · refine r_iconst (v := 0) C dX0_allows_38 (by decide) ?_
          exact r_zretc C dX0_allows_39 rfl bz0 rfl (xk0 hm) (xn0 hm)
        · refine r_iload C 4 dX0_allows_24 rfl ?_
          refine r_if_ne (tgt := 38) C dX0_allows_26 (by decide) (fun h20 => ?_) (fun h20 => ?_)
          · refine r_iload C 5 dX0_allows_29 rfl ?_
            refine r_if_ne (tgt := 38) C dX0_allows_31 (by decide) (fun h21 => ?_) (fun h21 => ?_)
            · refine r_iconst (v := 1) C dX0_allows_34 (by decide) ?_
              refine r_goto (tgt := 39) C dX0_allows_35 (by decide) ?_
              exact r_zretc C dX0_allows_39 rfl bz1 rfl (xk0 hm) (xn0 hm)
            · refine r_iconst (v := 0) C dX0_allows_38 (by decide) ?_
              exact r_zretc C dX0_allows_39 rfl bz0 rfl (xk0 hm) (xn0 hm)
          · refine r_iconst (v := 0) C dX0_allows_38 (by decide) ?_
            exact r_zretc C dX0_allows_39 rfl bz0 rfl (xk0 hm) (xn0 hm)
  · refine r_iload_n C 1 dX0_allows_40 rfl rfl ?_
    refine r_if_lt (tgt := 72) C dX0_allows_41 (by decide) (fun h2 => ?_) (fun h2 => ?_)
    · refine r_iconst (v := 0) C dX0_allows_72 (by decide) ?_
      exact r_zretc C dX0_allows_73 rfl bz0 rfl (xk0 hm) (xn0 hm)
    · refine r_iload_n C 1 dX0_allows_44 rfl rfl ?_
      refine r_iconst (v := 4) C dX0_allows_45 (by decide) ?_
      refine r_icmp_gt (tgt := 72) C dX0_allows_46 (by decide) (fun h3 => ?_) (fun h3 => ?_)
      · refine r_iconst (v := 0) C dX0_allows_72 (by decide) ?_
        exact r_zretc C dX0_allows_73 rfl bz0 rfl (xk0 hm) (xn0 hm)
      · refine r_iload_n C 3 dX0_allows_49 rfl rfl ?_
        refine r_if_lt (tgt := 72) C dX0_allows_50 (by decide) (fun h4 => ?_) (fun h4 => ?_)
        · refine r_iconst (v := 0) C dX0_allows_72 (by decide) ?_
          exact r_zretc C dX0_allows_73 rfl bz0 rfl (xk0 hm) (xn0 hm)
        · refine r_iload_n C 3 dX0_allows_53 rfl rfl ?_
          refine r_bipush (v := 50) C dX0_allows_54 (by decide) ?_
          refine r_icmp_gt (tgt := 72) C dX0_allows_56 (by decide) (fun h5 => ?_) (fun h5 => ?_)
          · refine r_iconst (v := 0) C dX0_allows_72 (by decide) ?_
            exact r_zretc C dX0_allows_73 rfl bz0 rfl (xk0 hm) (xn0 hm)
          · refine r_iload C 5 dX0_allows_59 rfl ?_
            refine r_iconst (v := 1) C dX0_allows_61 (by decide) ?_
            refine r_icmp_lt (tgt := 72) C dX0_allows_62 (by decide) (fun h6 => ?_) (fun h6 => ?_)
            · refine r_iconst (v := 0) C dX0_allows_72 (by decide) ?_
              exact r_zretc C dX0_allows_73 rfl bz0 rfl (xk0 hm) (xn0 hm)
            · refine r_iload C 5 dX0_allows_65 rfl ?_
              refine r_bipush (v := 9) C dX0_allows_67 (by decide) ?_
              refine r_icmp_le (tgt := 74) C dX0_allows_69 (by decide) (fun h7 => ?_) (fun h7 => ?_)
              · refine r_iload_n C 1 dX0_allows_74 rfl rfl ?_
                refine r_iconst (v := 4) C dX0_allows_75 (by decide) ?_
                refine r_icmp_ne (tgt := 100) C dX0_allows_76 (by decide) (fun h8 => ?_) (fun h8 => ?_)
                · refine r_aload_n C 0 dX0_allows_79 rfl rfl ?_
                  refine r_iload_n C 2 dX0_allows_80 rfl rfl ?_
                  refine r_callVRi (rest := []) C (c_X0_hasTask hb p2 M) dX0_allows_81 u_509 (in_0 hb) (contW_0 g _ _ _ _ _) rfl u_510 u_511 mi_X0_hasTask (by decide) rfl rfl (Nat.le_of_ble_eq_true rfl) (xk1 hm (by decide)) (xn1 hm (by decide)) (fun v11 h12 => ?_)
                  refine r_if_eq (tgt := 96) C dX0_allows_84 (by decide) (fun h13 => ?_) (fun h13 => ?_)
                  · refine r_iconst (v := 0) C dX0_allows_96 (by decide) ?_
                    refine r_goto (tgt := 107) C dX0_allows_97 (by decide) ?_
                    exact r_zretc C dX0_allows_107 rfl bz0 rfl (xk0 hm) (xn0 hm)
                  · refine r_iload C 4 dX0_allows_87 rfl ?_
                    refine r_if_ne (tgt := 96) C dX0_allows_89 (by decide) (fun h14 => ?_) (fun h14 => ?_)
                    · refine r_iconst (v := 1) C dX0_allows_92 (by decide) ?_
                      refine r_goto (tgt := 107) C dX0_allows_93 (by decide) ?_
                      exact r_zretc C dX0_allows_107 rfl bz1 rfl (xk0 hm) (xn0 hm)
                    · refine r_iconst (v := 0) C dX0_allows_96 (by decide) ?_
                      refine r_goto (tgt := 107) C dX0_allows_97 (by decide) ?_
                      exact r_zretc C dX0_allows_107 rfl bz0 rfl (xk0 hm) (xn0 hm)
                · refine r_aload_n C 0 dX0_allows_100 rfl rfl ?_
                  refine r_iload_n C 2 dX0_allows_101 rfl rfl ?_
                  refine r_iload C 4 dX0_allows_102 rfl ?_
                  refine r_callVRi (rest := []) C (c_X0_hasNode hb p2 p4 M) dX0_allows_104 u_505 (in_0 hb) (contW_0 g _ _ _ _ _) rfl u_506 u_507 mi_X0_hasNode (by decide) rfl rfl (Nat.le_of_ble_eq_true rfl) (xk1 hm (by decide)) (xn1 hm (by decide)) (fun v9 h10 => ?_)
                  exact r_zret C dX0_allows_107 rfl rfl (xk0 hm) (xn0 hm)
              · refine r_iconst (v := 0) C dX0_allows_72 (by decide) ?_
                exact r_zretc C dX0_allows_73 rfl bz0 rfl (xk0 hm) (xn0 hm)
def F_X9_inject (p1 : Int32) (p2 : Int32) (p3 : Int32) (p4 : Int32) (p5 : Int32) (M : Mw) : Option (Int32 × Mw) :=
  ((F_X0_allows 1 p1 p2 p3 p4 p5 M).bind (fun v1 => (if v1 = 0 then some ((-2), M) else (if (M.1 0 1 0 7) < 10 then ((F_X0_setInjection 1 ((M.1 0 1 0 6) + (M.1 0 1 0 7)) p1 p2 p3 p4 p5 M).bind (fun M5 => (bd (uIw M5 0 1 0 7 ((M5.1 0 1 0 7) + 1)) (fun M7 => ((F_X9_refresh M7).bind (fun M8 => some ((M8.1 26 0 0 1), M8))))))) else some ((-5), M)))))
set_option maxRecDepth 100000 in
set_option maxHeartbeats 4000000 in
theorem c_X9_inject {g : Gw} {l : Launch} (p1 : Int32) (p2 : Int32) (p3 : Int32) (p4 : Int32) (p5 : Int32) (M : Mw) : Kw g l yX9_inject cX9_inject 6 (some .int) 8 0 0 [.ref (gA g 41 0 0), .int p1, .int p2, .int p3, .int p4, .int p5] M (fun q : Int32 × Mw => (some (.int q.1), q.2)) (F_X9_inject p1 p2 p3 p4 p5 M) := by
  refine Kw.of (own := RX9) (lv0 := [(0, .ref (gA g 41 0 0)), (1, .int p1), (2, .int p2), (3, .int p3), (4, .int p4), (5, .int p5)]) (by decide +kernel) rfl (Nat.le_of_ble_eq_true rfl) rfl (fun x C hl hm => ?_)
  subst hl
  unfold F_X9_inject
  refine r_aload_n C 0 dX9_inject_0 rfl rfl ?_
  refine gf_41_1 C dX9_inject_1 u_365 in_41 ?_
  refine r_iload_n C 1 dX9_inject_4 rfl rfl ?_
  refine r_iload_n C 2 dX9_inject_5 rfl rfl ?_
  refine r_iload_n C 3 dX9_inject_6 rfl rfl ?_
  refine r_iload C 4 dX9_inject_7 rfl ?_
  refine r_iload C 5 dX9_inject_9 rfl ?_
  refine r_callVRi (rest := []) C (c_X0_allows (by decide) p1 p2 p3 p4 p5 M) dX9_inject_11 u_1074 (in_0 (by decide)) (contW_0 g _ _ _ _ _) rfl u_1075 u_1076 mi_X0_allows (by decide) rfl rfl (Nat.le_of_ble_eq_true rfl) (xk1 hm (by decide)) (xn1 hm (by decide)) (fun v1 h2 => ?_)
  refine r_if_ne (tgt := 20) C dX9_inject_14 (by decide) (fun h3 => ?_) (fun h3 => ?_)
  · refine r_bipush (v := (-2)) C dX9_inject_17 (by decide) ?_
    exact r_iret C dX9_inject_19 rfl rfl (xk0 hm) (xn0 hm)
  · refine r_aload_n C 0 dX9_inject_20 rfl rfl ?_
    refine gf_41_1 C dX9_inject_21 u_365 in_41 ?_
    refine gf_0_7 C dX9_inject_24 u_213 (in_0 (by decide)) ?_
    refine r_bipush (v := 10) C dX9_inject_27 (by decide) ?_
    refine r_icmp_lt (tgt := 35) C dX9_inject_29 (by decide) (fun h4 => ?_) (fun h4 => ?_)
    · refine r_aload_n C 0 dX9_inject_35 rfl rfl ?_
      refine gf_41_1 C dX9_inject_36 u_365 in_41 ?_
      refine r_aload_n C 0 dX9_inject_39 rfl rfl ?_
      refine gf_41_1 C dX9_inject_40 u_365 in_41 ?_
      refine gf_0_6 C dX9_inject_43 u_209 (in_0 (by decide)) ?_
      refine r_aload_n C 0 dX9_inject_46 rfl rfl ?_
      refine gf_41_1 C dX9_inject_47 u_365 in_41 ?_
      refine gf_0_7 C dX9_inject_50 u_213 (in_0 (by decide)) ?_
      refine r_iadd C dX9_inject_53 ?_
      refine r_iload_n C 1 dX9_inject_54 rfl rfl ?_
      refine r_iload_n C 2 dX9_inject_55 rfl rfl ?_
      refine r_iload_n C 3 dX9_inject_56 rfl rfl ?_
      refine r_iload C 4 dX9_inject_57 rfl ?_
      refine r_iload C 5 dX9_inject_59 rfl ?_
      refine r_callVU (rest := []) C (c_X0_setInjection (by decide) ((M.1 0 1 0 6) + (M.1 0 1 0 7)) p1 p2 p3 p4 p5 M) dX9_inject_61 u_1079 (in_0 (by decide)) (contW_0 g _ _ _ _ _) rfl u_524 u_525 mi_X0_setInjection (by decide) rfl rfl (Nat.le_of_ble_eq_true rfl) (xk1 hm (by decide)) (xn1 hm (by decide)) (fun M5 h6 => ?_)
      refine r_aload_n C 0 dX9_inject_64 rfl rfl ?_
      refine gf_41_1 C dX9_inject_65 u_365 in_41 ?_
      refine r_dup C rfl dX9_inject_68 ?_
      refine gf_0_7 C dX9_inject_69 u_213 (in_0 (by decide)) ?_
      refine r_iconst (v := 1) C dX9_inject_72 (by decide) ?_
      refine r_iadd C dX9_inject_73 ?_
      refine pf_0_7 C dX9_inject_74 u_213 (in_0 (by decide)) (fun M7 => ?_)
      refine r_aload_n C 0 dX9_inject_77 rfl rfl ?_
      refine r_callVU (rest := []) C (c_X9_refresh M7) dX9_inject_78 u_551 in_41 (contW_41 g _ _ _ _ _) rfl u_552 u_18 mi_X9_refresh (by decide) rfl rfl (Nat.le_of_ble_eq_true rfl) (xk1 hm (by decide)) (xn1 hm (by decide)) (fun M8 h9 => ?_)
      refine r_aload_n C 0 dX9_inject_81 rfl rfl ?_
      refine gf_41_6 C dX9_inject_82 u_370 in_41 ?_
      refine gf_23_2 C dX9_inject_85 u_334 (in_23 (by decide)) ?_
      refine gf_26_1 C dX9_inject_88 u_285 (in_26 (by decide)) ?_
      exact r_iret C dX9_inject_91 rfl rfl (xk0 hm) (xn0 hm)
    · refine r_bipush (v := (-5)) C dX9_inject_32 (by decide) ?_
      exact r_iret C dX9_inject_34 rfl rfl (xk0 hm) (xn0 hm)
def F_X9_undo (M : Mw) : Option (Int32 × Mw) :=
  (if (M.1 0 1 0 3) = 0 then some ((-2), M) else (if (M.1 0 1 0 7) = 0 then some ((-5), M) else (bd (uIw M 0 1 0 7 ((M.1 0 1 0 7) - 1)) (fun M3 => ((F_X9_refresh M3).bind (fun M4 => some ((M4.1 0 1 0 7), M4)))))))
set_option maxRecDepth 100000 in
set_option maxHeartbeats 4000000 in
theorem c_X9_undo {g : Gw} {l : Launch} (M : Mw) : Kw g l yX9_undo cX9_undo 1 (some .int) 8 0 0 [.ref (gA g 41 0 0)] M (fun q : Int32 × Mw => (some (.int q.1), q.2)) (F_X9_undo M) := by
  refine Kw.of (own := RX9) (lv0 := [(0, .ref (gA g 41 0 0))]) (by decide +kernel) rfl (Nat.le_of_ble_eq_true rfl) rfl (fun x C hl hm => ?_)
  subst hl
  unfold F_X9_undo
  refine r_aload_n C 0 dX9_undo_0 rfl rfl ?_
  refine gf_41_1 C dX9_undo_1 u_365 in_41 ?_
  refine gf_0_3 C dX9_undo_4 u_195 (in_0 (by decide)) ?_
  refine r_if_ne (tgt := 13) C dX9_undo_7 (by decide) (fun h1 => ?_) (fun h1 => ?_)
  · refine r_bipush (v := (-2)) C dX9_undo_10 (by decide) ?_
    exact r_iret C dX9_undo_12 rfl rfl (xk0 hm) (xn0 hm)
  · refine r_aload_n C 0 dX9_undo_13 rfl rfl ?_
    refine gf_41_1 C dX9_undo_14 u_365 in_41 ?_
    refine gf_0_7 C dX9_undo_17 u_213 (in_0 (by decide)) ?_
    refine r_if_ne (tgt := 26) C dX9_undo_20 (by decide) (fun h2 => ?_) (fun h2 => ?_)
    · refine r_bipush (v := (-5)) C dX9_undo_23 (by decide) ?_
      exact r_iret C dX9_undo_25 rfl rfl (xk0 hm) (xn0 hm)
    · refine r_aload_n C 0 dX9_undo_26 rfl rfl ?_
      refine gf_41_1 C dX9_undo_27 u_365 in_41 ?_
      refine r_dup C rfl dX9_undo_30 ?_
      refine gf_0_7 C dX9_undo_31 u_213 (in_0 (by decide)) ?_
      refine r_iconst (v := 1) C dX9_undo_34 (by decide) ?_
      refine r_isub C dX9_undo_35 ?_
      refine pf_0_7 C dX9_undo_36 u_213 (in_0 (by decide)) (fun M3 => ?_)
      refine r_aload_n C 0 dX9_undo_39 rfl rfl ?_
      refine r_callVU (rest := []) C (c_X9_refresh M3) dX9_undo_40 u_551 in_41 (contW_41 g _ _ _ _ _) rfl u_552 u_18 mi_X9_refresh (by decide) rfl rfl (Nat.le_of_ble_eq_true rfl) (xk1 hm (by decide)) (xn1 hm (by decide)) (fun M4 h5 => ?_)
      refine r_aload_n C 0 dX9_undo_43 rfl rfl ?_
      refine gf_41_1 C dX9_undo_44 u_365 in_41 ?_
      refine gf_0_7 C dX9_undo_47 u_213 (in_0 (by decide)) ?_
      exact r_iret C dX9_undo_50 rfl rfl (xk0 hm) (xn0 hm)
def F_X9_anew (M : Mw) : Option (Int32 × Mw) :=
  (if (M.1 0 1 0 3) = 0 then some ((-2), M) else (bd (M.1 0 1 0 7) (fun v2 => (bd (uIw M 0 1 0 7 0) (fun M3 => ((F_X9_refresh M3).bind (fun M4 => some (v2, M4))))))))
set_option maxRecDepth 100000 in
set_option maxHeartbeats 4000000 in
theorem c_X9_anew {g : Gw} {l : Launch} (M : Mw) : Kw g l yX9_anew cX9_anew 2 (some .int) 8 0 0 [.ref (gA g 41 0 0)] M (fun q : Int32 × Mw => (some (.int q.1), q.2)) (F_X9_anew M) := by
  refine Kw.of (own := RX9) (lv0 := [(0, .ref (gA g 41 0 0))]) (by decide +kernel) rfl (Nat.le_of_ble_eq_true rfl) rfl (fun x C hl hm => ?_)
  subst hl
  unfold F_X9_anew
  refine r_aload_n C 0 dX9_anew_0 rfl rfl ?_
  refine gf_41_1 C dX9_anew_1 u_365 in_41 ?_
  refine gf_0_3 C dX9_anew_4 u_195 (in_0 (by decide)) ?_
  refine r_if_ne (tgt := 13) C dX9_anew_7 (by decide) (fun h1 => ?_) (fun h1 => ?_)
  · refine r_bipush (v := (-2)) C dX9_anew_10 (by decide) ?_
    exact r_iret C dX9_anew_12 rfl rfl (xk0 hm) (xn0 hm)
  · refine r_aload_n C 0 dX9_anew_13 rfl rfl ?_
    refine gf_41_1 C dX9_anew_14 u_365 in_41 ?_
    refine gf_0_7 C dX9_anew_17 u_213 (in_0 (by decide)) ?_
    refine r_istore_n (lv' := fun v2 => [(1, .int v2), (0, .ref (gA g 41 0 0))]) C dX9_anew_20 rfl (by decide) (fun _ => rfl) (fun v2 => ?_)
    refine r_aload_n C 1 dX9_anew_21 rfl rfl ?_
    refine gf_41_1 C dX9_anew_22 u_365 in_41 ?_
    refine r_iconst (v := 0) C dX9_anew_25 (by decide) ?_
    refine pf_0_7 C dX9_anew_26 u_213 (in_0 (by decide)) (fun M3 => ?_)
    refine r_aload_n C 1 dX9_anew_29 rfl rfl ?_
    refine r_callVU (rest := []) C (c_X9_refresh M3) dX9_anew_30 u_551 in_41 (contW_41 g _ _ _ _ _) rfl u_552 u_18 mi_X9_refresh (by decide) rfl rfl (Nat.le_of_ble_eq_true rfl) (xk1 hm (by decide)) (xn1 hm (by decide)) (fun M4 h5 => ?_)
    refine r_iload_n C 0 dX9_anew_33 rfl rfl ?_
    exact r_iret C dX9_anew_34 rfl rfl (xk0 hm) (xn0 hm)
def F_X9_count (p1 : Int32) (M : Mw) : Option (Int32) :=
  (if p1 = 0 then some (M.1 0 1 0 0) else (if p1 = 1 then some (M.1 0 1 0 1) else (if p1 = 2 then some (M.1 0 1 0 2) else (if p1 = 3 then some (M.1 0 1 0 4) else (if p1 = 4 then some (M.1 0 1 0 5) else (if p1 = 5 then some (M.1 0 1 0 6) else (if p1 = 6 then some (M.1 0 1 0 7) else (if p1 = 7 then some (M.1 0 1 0 3) else (if p1 = 8 then some (M.1 15 0 0 1) else some (-1))))))))))
set_option maxRecDepth 100000 in
set_option maxHeartbeats 4000000 in
theorem c_X9_count {g : Gw} {l : Launch} (p1 : Int32) (M : Mw) : Kw g l yX9_count cX9_count 2 (some .int) 1 0 0 [.ref (gA g 41 0 0), .int p1] M (fun v : Int32 => (some (.int v), M)) (F_X9_count p1 M) := by
  refine Kw.of (own := RX9) (lv0 := [(0, .ref (gA g 41 0 0)), (1, .int p1)]) (by decide +kernel) rfl (Nat.le_of_ble_eq_true rfl) rfl (fun x C hl hm => ?_)
  subst hl
  unfold F_X9_count
  refine r_iload_n C 1 dX9_count_0 rfl rfl ?_
  refine r_ite (fun h1 => ?_) (fun h1 => ?_)
  · refine r_tsIn (v := 0) (tgt := 52) C dX9_count_1 h1 (by decide) (by decide) rfl (by decide) ?_
    refine r_aload_n C 0 dX9_count_52 rfl rfl ?_
    refine gf_41_1 C dX9_count_53 u_365 in_41 ?_
    refine gf_0_0 C dX9_count_56 u_183 (in_0 (by decide)) ?_
    exact r_iret C dX9_count_59 rfl rfl (xk0 hm) (xn0 hm)
  refine r_ite (fun h2 => ?_) (fun h2 => ?_)
  · refine r_tsIn (v := 1) (tgt := 60) C dX9_count_1 h2 (by decide) (by decide) rfl (by decide) ?_
    refine r_aload_n C 0 dX9_count_60 rfl rfl ?_
    refine gf_41_1 C dX9_count_61 u_365 in_41 ?_
    refine gf_0_1 C dX9_count_64 u_188 (in_0 (by decide)) ?_
    exact r_iret C dX9_count_67 rfl rfl (xk0 hm) (xn0 hm)
  refine r_ite (fun h3 => ?_) (fun h3 => ?_)
  · refine r_tsIn (v := 2) (tgt := 68) C dX9_count_1 h3 (by decide) (by decide) rfl (by decide) ?_
    refine r_aload_n C 0 dX9_count_68 rfl rfl ?_
    refine gf_41_1 C dX9_count_69 u_365 in_41 ?_
    refine gf_0_2 C dX9_count_72 u_192 (in_0 (by decide)) ?_
    exact r_iret C dX9_count_75 rfl rfl (xk0 hm) (xn0 hm)
  refine r_ite (fun h4 => ?_) (fun h4 => ?_)
  · refine r_tsIn (v := 3) (tgt := 76) C dX9_count_1 h4 (by decide) (by decide) rfl (by decide) ?_
    refine r_aload_n C 0 dX9_count_76 rfl rfl ?_
    refine gf_41_1 C dX9_count_77 u_365 in_41 ?_
    refine gf_0_4 C dX9_count_80 u_199 (in_0 (by decide)) ?_
    exact r_iret C dX9_count_83 rfl rfl (xk0 hm) (xn0 hm)
  refine r_ite (fun h5 => ?_) (fun h5 => ?_)
  · refine r_tsIn (v := 4) (tgt := 84) C dX9_count_1 h5 (by decide) (by decide) rfl (by decide) ?_
    refine r_aload_n C 0 dX9_count_84 rfl rfl ?_
    refine gf_41_1 C dX9_count_85 u_365 in_41 ?_
    refine gf_0_5 C dX9_count_88 u_204 (in_0 (by decide)) ?_
    exact r_iret C dX9_count_91 rfl rfl (xk0 hm) (xn0 hm)
  refine r_ite (fun h6 => ?_) (fun h6 => ?_)
  · refine r_tsIn (v := 5) (tgt := 92) C dX9_count_1 h6 (by decide) (by decide) rfl (by decide) ?_
    refine r_aload_n C 0 dX9_count_92 rfl rfl ?_
    refine gf_41_1 C dX9_count_93 u_365 in_41 ?_
    refine gf_0_6 C dX9_count_96 u_209 (in_0 (by decide)) ?_
    exact r_iret C dX9_count_99 rfl rfl (xk0 hm) (xn0 hm)
  refine r_ite (fun h7 => ?_) (fun h7 => ?_)
  · refine r_tsIn (v := 6) (tgt := 100) C dX9_count_1 h7 (by decide) (by decide) rfl (by decide) ?_
    refine r_aload_n C 0 dX9_count_100 rfl rfl ?_
    refine gf_41_1 C dX9_count_101 u_365 in_41 ?_
    refine gf_0_7 C dX9_count_104 u_213 (in_0 (by decide)) ?_
    exact r_iret C dX9_count_107 rfl rfl (xk0 hm) (xn0 hm)
  refine r_ite (fun h8 => ?_) (fun h8 => ?_)
  · refine r_tsIn (v := 7) (tgt := 108) C dX9_count_1 h8 (by decide) (by decide) rfl (by decide) ?_
    refine r_aload_n C 0 dX9_count_108 rfl rfl ?_
    refine gf_41_1 C dX9_count_109 u_365 in_41 ?_
    refine gf_0_3 C dX9_count_112 u_195 (in_0 (by decide)) ?_
    exact r_iret C dX9_count_115 rfl rfl (xk0 hm) (xn0 hm)
  refine r_ite (fun h9 => ?_) (fun h9 => ?_)
  · refine r_tsIn (v := 8) (tgt := 116) C dX9_count_1 h9 (by decide) (by decide) rfl (by decide) ?_
    refine r_aload_n C 0 dX9_count_116 rfl rfl ?_
    refine gf_41_0 C dX9_count_117 u_364 in_41 ?_
    refine gf_13_0 C dX9_count_120 u_240 in_13 ?_
    refine gf_15_1 C dX9_count_123 u_165 in_15 ?_
    exact r_iret C dX9_count_126 rfl rfl (xk0 hm) (xn0 hm)
  refine r_tsOut (tgt := 127) C dX9_count_1 (ts_out (fun z hz1 hz2 => ?_)) (by decide) ?_
  · have hz : z = 0 ∨ z = 1 ∨ z = 2 ∨ z = 3 ∨ z = 4 ∨ z = 5 ∨ z = 6 ∨ z = 7 ∨ z = 8 := by omega
    rcases hz with rfl | rfl | rfl | rfl | rfl | rfl | rfl | rfl | rfl
    · exact h1
    · exact h2
    · exact h3
    · exact h4
    · exact h5
    · exact h6
    · exact h7
    · exact h8
    · exact h9
  refine r_iconst (v := (-1)) C dX9_count_127 (by decide) ?_
  exact r_iret C dX9_count_128 rfl rfl (xk0 hm) (xn0 hm)
def F_X9_image (p1 : Int32) (M : Mw) : Option (Int32 × Mw) :=
  (if p1 < 0 then some ((-2), M) else (if p1 < 3 then (if inb p1 3 then ((F_X0_copyFrom (p1.toNatClampNeg + 2) 1 M).bind (fun M4 => (if inb p1 3 then (bd (uIw M4 43 0 0 p1.toNatClampNeg (vp_nar .boolean 1)) (fun M6 => some (0, M6))) else none))) else none) else some ((-2), M)))
set_option maxRecDepth 100000 in
set_option maxHeartbeats 4000000 in
theorem c_X9_image {g : Gw} {l : Launch} (p1 : Int32) (M : Mw) : Kw g l yX9_image cX9_image 2 (some .int) 3 0 0 [.ref (gA g 41 0 0), .int p1] M (fun q : Int32 × Mw => (some (.int q.1), q.2)) (F_X9_image p1 M) := by
  refine Kw.of (own := RX9) (lv0 := [(0, .ref (gA g 41 0 0)), (1, .int p1)]) (by decide +kernel) rfl (Nat.le_of_ble_eq_true rfl) rfl (fun x C hl hm => ?_)
  subst hl
  unfold F_X9_image
  refine r_iload_n C 1 dX9_image_0 rfl rfl ?_
  refine r_if_lt (tgt := 9) C dX9_image_1 (by decide) (fun h1 => ?_) (fun h1 => ?_)
  · refine r_bipush (v := (-2)) C dX9_image_9 (by decide) ?_
    exact r_iret C dX9_image_11 rfl rfl (xk0 hm) (xn0 hm)
  · refine r_iload_n C 1 dX9_image_4 rfl rfl ?_
    refine r_iconst (v := 3) C dX9_image_5 (by decide) ?_
    refine r_icmp_lt (tgt := 12) C dX9_image_6 (by decide) (fun h2 => ?_) (fun h2 => ?_)
    · refine r_aload_n C 0 dX9_image_12 rfl rfl ?_
      refine gf_41_2 C dX9_image_13 u_366 in_41 ?_
      refine r_iload_n C 1 dX9_image_16 rfl rfl ?_
      refine r_aald (t0 := 6) (ty := .object "WatchStack$Board") C dX9_image_17 in_42 (contW_42 g _ _ _ _ _) rfl rfl (fun h3 => ?_)
      refine r_aload_n C 0 dX9_image_18 rfl rfl ?_
      refine gf_41_1 C dX9_image_19 u_365 in_41 ?_
      refine r_callVU (rest := []) C (c_X0_copyFrom (lt32 (inb_lt h3)) (by decide) M) dX9_image_22 u_544 (in_0 (lt32 (inb_lt h3))) (contW_0 g _ _ _ _ _) rfl u_545 u_546 mi_X0_copyFrom (by decide) rfl rfl (Nat.le_of_ble_eq_true rfl) (xk1 hm (by decide)) (xn1 hm (by decide)) (fun M4 h5 => ?_)
      refine r_aload_n C 0 dX9_image_25 rfl rfl ?_
      refine gf_41_3 C dX9_image_26 u_367 in_41 ?_
      refine r_iload_n C 1 dX9_image_29 rfl rfl ?_
      refine r_iconst (v := 1) C dX9_image_30 (by decide) ?_
      refine r_zast C dX9_image_31 in_43 (contW_43 g _ _) (fun M6 h7 => ?_)
      refine r_iconst (v := 0) C dX9_image_32 (by decide) ?_
      exact r_iret C dX9_image_33 rfl rfl (xk0 hm) (xn0 hm)
    · refine r_bipush (v := (-2)) C dX9_image_9 (by decide) ?_
      exact r_iret C dX9_image_11 rfl rfl (xk0 hm) (xn0 hm)
def F_X9_back (p1 : Int32) (M : Mw) : Option (Int32 × Mw) :=
  (if p1 < 0 then some ((-2), M) else (if p1 < 3 then (if inb p1 3 then (if (M.1 43 0 0 p1.toNatClampNeg) = 0 then some ((-6), M) else (if inb p1 3 then ((F_X0_copyFrom 1 (p1.toNatClampNeg + 2) M).bind (fun M6 => ((F_X9_refresh M6).bind (fun M8 => some (0, M8))))) else none)) else none) else some ((-2), M)))
set_option maxRecDepth 100000 in
set_option maxHeartbeats 4000000 in
theorem c_X9_back {g : Gw} {l : Launch} (p1 : Int32) (M : Mw) : Kw g l yX9_back cX9_back 2 (some .int) 8 0 0 [.ref (gA g 41 0 0), .int p1] M (fun q : Int32 × Mw => (some (.int q.1), q.2)) (F_X9_back p1 M) := by
  refine Kw.of (own := RX9) (lv0 := [(0, .ref (gA g 41 0 0)), (1, .int p1)]) (by decide +kernel) rfl (Nat.le_of_ble_eq_true rfl) rfl (fun x C hl hm => ?_)
  subst hl
  unfold F_X9_back
  refine r_iload_n C 1 dX9_back_0 rfl rfl ?_
  refine r_if_lt (tgt := 9) C dX9_back_1 (by decide) (fun h1 => ?_) (fun h1 => ?_)
  · refine r_bipush (v := (-2)) C dX9_back_9 (by decide) ?_
    exact r_iret C dX9_back_11 rfl rfl (xk0 hm) (xn0 hm)
  · refine r_iload_n C 1 dX9_back_4 rfl rfl ?_
    refine r_iconst (v := 3) C dX9_back_5 (by decide) ?_
    refine r_icmp_lt (tgt := 12) C dX9_back_6 (by decide) (fun h2 => ?_) (fun h2 => ?_)
    · refine r_aload_n C 0 dX9_back_12 rfl rfl ?_
      refine gf_41_3 C dX9_back_13 u_367 in_41 ?_
      refine r_iload_n C 1 dX9_back_16 rfl rfl ?_
      refine r_zald C dX9_back_17 in_43 (contW_43 g _ _ _ _ _) (fun h3 => ?_)
      refine r_if_ne (tgt := 24) C dX9_back_18 (by decide) (fun h4 => ?_) (fun h4 => ?_)
      · refine r_bipush (v := (-6)) C dX9_back_21 (by decide) ?_
        exact r_iret C dX9_back_23 rfl rfl (xk0 hm) (xn0 hm)
      · refine r_aload_n C 0 dX9_back_24 rfl rfl ?_
        refine gf_41_1 C dX9_back_25 u_365 in_41 ?_
        refine r_aload_n C 0 dX9_back_28 rfl rfl ?_
        refine gf_41_2 C dX9_back_29 u_366 in_41 ?_
        refine r_iload_n C 1 dX9_back_32 rfl rfl ?_
        refine r_aald (t0 := 6) (ty := .object "WatchStack$Board") C dX9_back_33 in_42 (contW_42 g _ _ _ _ _) rfl rfl (fun h5 => ?_)
        refine r_callVU (rest := []) C (c_X0_copyFrom (by decide) (lt32 (inb_lt h5)) M) dX9_back_34 u_544 (in_0 (by decide)) (contW_0 g _ _ _ _ _) rfl u_545 u_546 mi_X0_copyFrom (by decide) rfl rfl (Nat.le_of_ble_eq_true rfl) (xk1 hm (by decide)) (xn1 hm (by decide)) (fun M6 h7 => ?_)
        refine r_aload_n C 0 dX9_back_37 rfl rfl ?_
        refine r_callVU (rest := []) C (c_X9_refresh M6) dX9_back_38 u_551 in_41 (contW_41 g _ _ _ _ _) rfl u_552 u_18 mi_X9_refresh (by decide) rfl rfl (Nat.le_of_ble_eq_true rfl) (xk1 hm (by decide)) (xn1 hm (by decide)) (fun M8 h9 => ?_)
        refine r_iconst (v := 0) C dX9_back_41 (by decide) ?_
        exact r_iret C dX9_back_42 rfl rfl (xk0 hm) (xn0 hm)
    · refine r_bipush (v := (-2)) C dX9_back_9 (by decide) ?_
      exact r_iret C dX9_back_11 rfl rfl (xk0 hm) (xn0 hm)
def F_X10_in (p1 : Int64) (p2 : Int64) (p3 : Int64) (M : Mw) : Option (Int32) :=
  (if (lg_cmp p1 p2) < 0 then some 0 else (if 0 < (lg_cmp p1 p3) then some 0 else some 1))
set_option maxRecDepth 100000 in
set_option maxHeartbeats 4000000 in
theorem c_X10_in {g : Gw} {l : Launch} (p1 : Int64) (p2 : Int64) (p3 : Int64) (M : Mw) : Kw g l yX10_in cX10_in 6 (some .boolean) 1 0 0 [.long p1, .long p2, .long p3] M (fun v : Int32 => (some (.int v), M)) (F_X10_in p1 p2 p3 M) := by
  refine Kw.of (own := RX10) (lv0 := [(0, .long p1), (2, .long p2), (4, .long p3)]) (by decide +kernel) rfl (Nat.le_of_ble_eq_true rfl) rfl (fun x C hl hm => ?_)
  subst hl
  unfold F_X10_in
  refine r_lload_n C 0 dX10_in_0 rfl rfl ?_
  refine r_lload_n C 1 dX10_in_1 rfl rfl ?_
  refine r_lcmp C dX10_in_2 ?_
  refine r_if_lt (tgt := 17) C dX10_in_3 (by decide) (fun h1 => ?_) (fun h1 => ?_)
  · refine r_iconst (v := 0) C dX10_in_17 (by decide) ?_
    exact r_zretc C dX10_in_18 rfl bz0 rfl (xk0 hm) (xn0 hm)
  · refine r_lload_n C 0 dX10_in_6 rfl rfl ?_
    refine r_lload C 2 dX10_in_7 rfl ?_
    refine r_lcmp C dX10_in_9 ?_
    refine r_if_gt (tgt := 17) C dX10_in_10 (by decide) (fun h2 => ?_) (fun h2 => ?_)
    · refine r_iconst (v := 0) C dX10_in_17 (by decide) ?_
      exact r_zretc C dX10_in_18 rfl bz0 rfl (xk0 hm) (xn0 hm)
    · refine r_iconst (v := 1) C dX10_in_13 (by decide) ?_
      refine r_goto (tgt := 18) C dX10_in_14 (by decide) ?_
      exact r_zretc C dX10_in_18 rfl bz1 rfl (xk0 hm) (xn0 hm)
