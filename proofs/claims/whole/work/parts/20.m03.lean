def B_X0_copyFrom_182 (b : Nat) (b1 : Nat) (k182 : Int32 → Mw → Option (Mw)) (l2 : Int32) (M : Mw) : Option (Mw) :=
  (if 19 ≤ l2 then some M else (if inb l2 19 then (if inb l2 19 then (bd (rIw M 12 b l2.toNatClampNeg (va_cpy (M.1 12 b1 l2.toNatClampNeg) (M.1 12 b l2.toNatClampNeg) 0 0 5)) (fun M15 => (bd (l2 + 1) (fun v16 => (k182 v16 M15))))) else none) else none))
def B_X0_copyFrom_94 (b : Nat) (b1 : Nat) (k94 : Int32 → Mw → Option (Mw)) (l2 : Int32) (M : Mw) : Option (Mw) :=
  (if 5 ≤ l2 then (it (fun _ _ => none) (B_X0_copyFrom_182 b b1) FU 0 M) else (if inb l2 5 then (if inb l2 5 then (bd (rIw M 4 b l2.toNatClampNeg (va_cpy (M.1 4 b1 l2.toNatClampNeg) (M.1 4 b l2.toNatClampNeg) 0 0 7)) (fun M19 => (if inb l2 5 then (if inb l2 5 then (bd (rIw M19 6 b l2.toNatClampNeg (va_cpy (M19.1 6 b1 l2.toNatClampNeg) (M19.1 6 b l2.toNatClampNeg) 0 0 6)) (fun M22 => (if inb l2 5 then (if inb l2 5 then (bd (rIw M22 8 b l2.toNatClampNeg (va_cpy (M22.1 8 b1 l2.toNatClampNeg) (M22.1 8 b l2.toNatClampNeg) 0 0 6)) (fun M25 => (if inb l2 5 then (if inb l2 5 then (bd (rIw M25 10 b l2.toNatClampNeg (va_cpy (M25.1 10 b1 l2.toNatClampNeg) (M25.1 10 b l2.toNatClampNeg) 0 0 2)) (fun M28 => (bd (l2 + 1) (fun v29 => (k94 v29 M28))))) else none) else none))) else none) else none))) else none) else none))) else none) else none))
def F_X0_copyFrom (b : Nat) (b1 : Nat) (M : Mw) : Option (Mw) :=
  (bd (uIw M 0 b 0 0 (M.1 0 b1 0 0)) (fun M1 => (bd (uIw M1 0 b 0 1 (M1.1 0 b1 0 1)) (fun M2 => (bd (uIw M2 0 b 0 2 (M2.1 0 b1 0 2)) (fun M3 => (bd (uIw M3 0 b 0 3 (M3.1 0 b1 0 3)) (fun M4 => (bd (uIw M4 0 b 0 4 (M4.1 0 b1 0 4)) (fun M5 => (bd (uIw M5 0 b 0 5 (M5.1 0 b1 0 5)) (fun M6 => (bd (uIw M6 0 b 0 6 (M6.1 0 b1 0 6)) (fun M7 => (bd (uIw M7 0 b 0 7 (M7.1 0 b1 0 7)) (fun M8 => (bd (rIw M8 1 b 0 (va_cpy (M8.1 1 b1 0) (M8.1 1 b 0) 0 0 3)) (fun M9 => (bd (rIw M9 2 b 0 (va_cpy (M9.1 2 b1 0) (M9.1 2 b 0) 0 0 3)) (fun M10 => (it (fun _ _ => none) (B_X0_copyFrom_94 b b1) FU 0 M10)))))))))))))))))))))
set_option maxRecDepth 100000 in
set_option maxHeartbeats 4000000 in
theorem t_X0_copyFrom_182 {g : Gw} {x : Xw} (C : Cw g x cX0_copyFrom RX0 3 none 2) (hm : x.2.2.2.2.2.2.2.2.2.2.2 = (0, 0)) {b : Nat} (hb : b < 8) {b1 : Nat} (hb1 : b1 < 8) (k182 : Int32 → Mw → Option (Mw)) (hk182 : ∀ (l2 : Int32) (M : Mw), Sw g x (fun M : Mw => (none, M)) M 0 0 182 [(0, .ref (gA g 0 b 0)), (1, .ref (gA g 0 b1 0)), (2, .int l2)] [] (k182 l2 M)) (l2 : Int32) (M : Mw) : Sw g x (fun M : Mw => (none, M)) M 0 0 182 [(0, .ref (gA g 0 b 0)), (1, .ref (gA g 0 b1 0)), (2, .int l2)] [] (B_X0_copyFrom_182 b b1 k182 l2 M) := by
  unfold B_X0_copyFrom_182
  refine r_iload_n C 2 dX0_copyFrom_182 rfl rfl ?_
  refine r_bipush (v := 19) C dX0_copyFrom_183 (by decide) ?_
  refine r_icmp_ge (tgt := 212) C dX0_copyFrom_185 (by decide) (fun h12 => ?_) (fun h12 => ?_)
  · exact r_vret C dX0_copyFrom_212 rfl rfl (xk0 hm) (xn0 hm)
  · refine r_aload_n C 1 dX0_copyFrom_188 rfl rfl ?_
    refine gf_0_14 C dX0_copyFrom_189 u_236 (in_0 hb1) ?_
    refine r_iload_n C 2 dX0_copyFrom_192 rfl rfl ?_
    refine r_aald (t0 := 5) (ty := .array .int) C dX0_copyFrom_193 (in_11 hb1) (contW_11 g _ _ _ _ _) rfl rfl (fun h13 => ?_)
    refine r_iconst (v := 0) C dX0_copyFrom_194 (by decide) ?_
    refine r_aload_n C 0 dX0_copyFrom_195 rfl rfl ?_
    refine gf_0_14 C dX0_copyFrom_196 u_236 (in_0 hb) ?_
    refine r_iload_n C 2 dX0_copyFrom_199 rfl rfl ?_
    refine r_aald (t0 := 5) (ty := .array .int) C dX0_copyFrom_200 (in_11 hb) (contW_11 g _ _ _ _ _) rfl rfl (fun h14 => ?_)
    refine r_iconst (v := 0) C dX0_copyFrom_201 (by decide) ?_
    refine r_iconst (v := 5) C dX0_copyFrom_202 (by decide) ?_
    refine r_copy (L := 5) C u_548 u_550 u_549 u_141 dX0_copyFrom_203 (in_12 hb1 (inb_lt h13)) (in_12 hb (inb_lt h14)) (contW_12 g _ _) (contW_12 g _ _) (by decide) (by decide) (by decide) (by decide) (by decide) (Nat.le_of_ble_eq_true rfl) (fun M15 => ?_)
    refine r_iinc (c := 1) (lv' := fun v16 => [(2, .int v16), (0, .ref (gA g 0 b 0)), (1, .ref (gA g 0 b1 0))]) C 2 dX0_copyFrom_206 rfl (by decide) (by decide) (fun _ => rfl) (fun v16 => ?_)
    refine r_goto (tgt := 182) C dX0_copyFrom_209 (by decide) ?_
    refine r_lv [1, 2, 0] rfl ?_
    exact hk182 v16 M15
set_option maxRecDepth 100000 in
set_option maxHeartbeats 4000000 in
theorem tl_X0_copyFrom_182 {g : Gw} {x : Xw} (C : Cw g x cX0_copyFrom RX0 3 none 2) (hm : x.2.2.2.2.2.2.2.2.2.2.2 = (0, 0)) {b : Nat} (hb : b < 8) {b1 : Nat} (hb1 : b1 < 8) (n : Nat) : ∀ (l2 : Int32) (M : Mw), Sw g x (fun M : Mw => (none, M)) M 0 0 182 [(0, .ref (gA g 0 b 0)), (1, .ref (gA g 0 b1 0)), (2, .int l2)] [] (it (fun _ _ => none) (B_X0_copyFrom_182 b b1) n l2 M) := by
  induction n with
  | zero =>
    intro l2 M
    exact r_none
  | succ n ih =>
    intro l2 M
    exact t_X0_copyFrom_182 C hm hb hb1 _ ih l2 M
set_option maxRecDepth 100000 in
set_option maxHeartbeats 4000000 in
theorem t_X0_copyFrom_94 {g : Gw} {x : Xw} (C : Cw g x cX0_copyFrom RX0 3 none 2) (hm : x.2.2.2.2.2.2.2.2.2.2.2 = (0, 0)) {b : Nat} (hb : b < 8) {b1 : Nat} (hb1 : b1 < 8) (k94 : Int32 → Mw → Option (Mw)) (hk94 : ∀ (l2 : Int32) (M : Mw), Sw g x (fun M : Mw => (none, M)) M 0 0 94 [(0, .ref (gA g 0 b 0)), (1, .ref (gA g 0 b1 0)), (2, .int l2)] [] (k94 l2 M)) (l2 : Int32) (M : Mw) : Sw g x (fun M : Mw => (none, M)) M 0 0 94 [(0, .ref (gA g 0 b 0)), (1, .ref (gA g 0 b1 0)), (2, .int l2)] [] (B_X0_copyFrom_94 b b1 k94 l2 M) := by
  unfold B_X0_copyFrom_94
  refine r_iload_n C 2 dX0_copyFrom_94 rfl rfl ?_
  refine r_iconst (v := 5) C dX0_copyFrom_95 (by decide) ?_
  refine r_icmp_ge (tgt := 180) C dX0_copyFrom_96 (by decide) (fun h11 => ?_) (fun h11 => ?_)
  · refine r_iconst (v := 0) C dX0_copyFrom_180 (by decide) ?_
    refine r_istore_n0 (lv' := [(2, .int 0), (0, .ref (gA g 0 b 0)), (1, .ref (gA g 0 b1 0))]) C dX0_copyFrom_181 rfl (by decide) rfl ?_
    refine r_lv [1, 2, 0] rfl ?_
    exact tl_X0_copyFrom_182 C hm hb hb1 FU 0 M
  · refine r_aload_n C 1 dX0_copyFrom_99 rfl rfl ?_
    refine gf_0_10 C dX0_copyFrom_100 u_218 (in_0 hb1) ?_
    refine r_iload_n C 2 dX0_copyFrom_103 rfl rfl ?_
    refine r_aald (t0 := 5) (ty := .array .int) C dX0_copyFrom_104 (in_3 hb1) (contW_3 g _ _ _ _ _) rfl rfl (fun h17 => ?_)
    refine r_iconst (v := 0) C dX0_copyFrom_105 (by decide) ?_
    refine r_aload_n C 0 dX0_copyFrom_106 rfl rfl ?_
    refine gf_0_10 C dX0_copyFrom_107 u_218 (in_0 hb) ?_
    refine r_iload_n C 2 dX0_copyFrom_110 rfl rfl ?_
    refine r_aald (t0 := 5) (ty := .array .int) C dX0_copyFrom_111 (in_3 hb) (contW_3 g _ _ _ _ _) rfl rfl (fun h18 => ?_)
    refine r_iconst (v := 0) C dX0_copyFrom_112 (by decide) ?_
    refine r_bipush (v := 7) C dX0_copyFrom_113 (by decide) ?_
    refine r_copy (L := 7) C u_548 u_550 u_549 u_141 dX0_copyFrom_115 (in_4 hb1 (inb_lt h17)) (in_4 hb (inb_lt h18)) (contW_4 g _ _) (contW_4 g _ _) (by decide) (by decide) (by decide) (by decide) (by decide) (Nat.le_of_ble_eq_true rfl) (fun M19 => ?_)
    refine r_aload_n C 1 dX0_copyFrom_118 rfl rfl ?_
    refine gf_0_11 C dX0_copyFrom_119 u_225 (in_0 hb1) ?_
    refine r_iload_n C 2 dX0_copyFrom_122 rfl rfl ?_
    refine r_aald (t0 := 5) (ty := .array .int) C dX0_copyFrom_123 (in_5 hb1) (contW_5 g _ _ _ _ _) rfl rfl (fun h20 => ?_)
    refine r_iconst (v := 0) C dX0_copyFrom_124 (by decide) ?_
    refine r_aload_n C 0 dX0_copyFrom_125 rfl rfl ?_
    refine gf_0_11 C dX0_copyFrom_126 u_225 (in_0 hb) ?_
    refine r_iload_n C 2 dX0_copyFrom_129 rfl rfl ?_
    refine r_aald (t0 := 5) (ty := .array .int) C dX0_copyFrom_130 (in_5 hb) (contW_5 g _ _ _ _ _) rfl rfl (fun h21 => ?_)
    refine r_iconst (v := 0) C dX0_copyFrom_131 (by decide) ?_
    refine r_bipush (v := 6) C dX0_copyFrom_132 (by decide) ?_
    refine r_copy (L := 6) C u_548 u_550 u_549 u_141 dX0_copyFrom_134 (in_6 hb1 (inb_lt h20)) (in_6 hb (inb_lt h21)) (contW_6 g _ _) (contW_6 g _ _) (by decide) (by decide) (by decide) (by decide) (by decide) (Nat.le_of_ble_eq_true rfl) (fun M22 => ?_)
    refine r_aload_n C 1 dX0_copyFrom_137 rfl rfl ?_
    refine gf_0_12 C dX0_copyFrom_138 u_229 (in_0 hb1) ?_
    refine r_iload_n C 2 dX0_copyFrom_141 rfl rfl ?_
    refine r_aald (t0 := 5) (ty := .array .int) C dX0_copyFrom_142 (in_7 hb1) (contW_7 g _ _ _ _ _) rfl rfl (fun h23 => ?_)
    refine r_iconst (v := 0) C dX0_copyFrom_143 (by decide) ?_
    refine r_aload_n C 0 dX0_copyFrom_144 rfl rfl ?_
    refine gf_0_12 C dX0_copyFrom_145 u_229 (in_0 hb) ?_
    refine r_iload_n C 2 dX0_copyFrom_148 rfl rfl ?_
    refine r_aald (t0 := 5) (ty := .array .int) C dX0_copyFrom_149 (in_7 hb) (contW_7 g _ _ _ _ _) rfl rfl (fun h24 => ?_)
    refine r_iconst (v := 0) C dX0_copyFrom_150 (by decide) ?_
    refine r_bipush (v := 6) C dX0_copyFrom_151 (by decide) ?_
    refine r_copy (L := 6) C u_548 u_550 u_549 u_141 dX0_copyFrom_153 (in_8 hb1 (inb_lt h23)) (in_8 hb (inb_lt h24)) (contW_8 g _ _) (contW_8 g _ _) (by decide) (by decide) (by decide) (by decide) (by decide) (Nat.le_of_ble_eq_true rfl) (fun M25 => ?_)
    refine r_aload_n C 1 dX0_copyFrom_156 rfl rfl ?_
    refine gf_0_13 C dX0_copyFrom_157 u_233 (in_0 hb1) ?_
    refine r_iload_n C 2 dX0_copyFrom_160 rfl rfl ?_
    refine r_aald (t0 := 5) (ty := .array .int) C dX0_copyFrom_161 (in_9 hb1) (contW_9 g _ _ _ _ _) rfl rfl (fun h26 => ?_)
    refine r_iconst (v := 0) C dX0_copyFrom_162 (by decide) ?_
    refine r_aload_n C 0 dX0_copyFrom_163 rfl rfl ?_
    refine gf_0_13 C dX0_copyFrom_164 u_233 (in_0 hb) ?_
    refine r_iload_n C 2 dX0_copyFrom_167 rfl rfl ?_
    refine r_aald (t0 := 5) (ty := .array .int) C dX0_copyFrom_168 (in_9 hb) (contW_9 g _ _ _ _ _) rfl rfl (fun h27 => ?_)
    refine r_iconst (v := 0) C dX0_copyFrom_169 (by decide) ?_
    refine r_iconst (v := 2) C dX0_copyFrom_170 (by decide) ?_
    refine r_copy (L := 2) C u_548 u_550 u_549 u_141 dX0_copyFrom_171 (in_10 hb1 (inb_lt h26)) (in_10 hb (inb_lt h27)) (contW_10 g _ _) (contW_10 g _ _) (by decide) (by decide) (by decide) (by decide) (by decide) (Nat.le_of_ble_eq_true rfl) (fun M28 => ?_)
    refine r_iinc (c := 1) (lv' := fun v29 => [(2, .int v29), (0, .ref (gA g 0 b 0)), (1, .ref (gA g 0 b1 0))]) C 2 dX0_copyFrom_174 rfl (by decide) (by decide) (fun _ => rfl) (fun v29 => ?_)
    refine r_goto (tgt := 94) C dX0_copyFrom_177 (by decide) ?_
    refine r_lv [1, 2, 0] rfl ?_
    exact hk94 v29 M28
set_option maxRecDepth 100000 in
set_option maxHeartbeats 4000000 in
theorem tl_X0_copyFrom_94 {g : Gw} {x : Xw} (C : Cw g x cX0_copyFrom RX0 3 none 2) (hm : x.2.2.2.2.2.2.2.2.2.2.2 = (0, 0)) {b : Nat} (hb : b < 8) {b1 : Nat} (hb1 : b1 < 8) (n : Nat) : ∀ (l2 : Int32) (M : Mw), Sw g x (fun M : Mw => (none, M)) M 0 0 94 [(0, .ref (gA g 0 b 0)), (1, .ref (gA g 0 b1 0)), (2, .int l2)] [] (it (fun _ _ => none) (B_X0_copyFrom_94 b b1) n l2 M) := by
  induction n with
  | zero =>
    intro l2 M
    exact r_none
  | succ n ih =>
    intro l2 M
    exact t_X0_copyFrom_94 C hm hb hb1 _ ih l2 M
set_option maxRecDepth 100000 in
set_option maxHeartbeats 4000000 in
theorem c_X0_copyFrom {g : Gw} {l : Launch} {b : Nat} (hb : b < 8) {b1 : Nat} (hb1 : b1 < 8) (M : Mw) : Kw g l yX0_copyFrom cX0_copyFrom 3 none 2 0 0 [.ref (gA g 0 b 0), .ref (gA g 0 b1 0)] M (fun M : Mw => (none, M)) (F_X0_copyFrom b b1 M) := by
  refine Kw.of (own := RX0) (lv0 := [(0, .ref (gA g 0 b 0)), (1, .ref (gA g 0 b1 0))]) (by decide +kernel) rfl (Nat.le_of_ble_eq_true rfl) rfl (fun x C hl hm => ?_)
  subst hl
  unfold F_X0_copyFrom
  refine r_aload_n C 0 dX0_copyFrom_0 rfl rfl ?_
  refine r_aload_n C 1 dX0_copyFrom_1 rfl rfl ?_
  refine gf_0_0 C dX0_copyFrom_2 u_180 (in_0 hb1) ?_
  refine pf_0_0 C dX0_copyFrom_5 u_180 (in_0 hb) (fun M1 => ?_)
  refine r_aload_n C 0 dX0_copyFrom_8 rfl rfl ?_
  refine r_aload_n C 1 dX0_copyFrom_9 rfl rfl ?_
  refine gf_0_1 C dX0_copyFrom_10 u_184 (in_0 hb1) ?_
  refine pf_0_1 C dX0_copyFrom_13 u_184 (in_0 hb) (fun M2 => ?_)
  refine r_aload_n C 0 dX0_copyFrom_16 rfl rfl ?_
  refine r_aload_n C 1 dX0_copyFrom_17 rfl rfl ?_
  refine gf_0_2 C dX0_copyFrom_18 u_189 (in_0 hb1) ?_
  refine pf_0_2 C dX0_copyFrom_21 u_189 (in_0 hb) (fun M3 => ?_)
  refine r_aload_n C 0 dX0_copyFrom_24 rfl rfl ?_
  refine r_aload_n C 1 dX0_copyFrom_25 rfl rfl ?_
  refine gf_0_3 C dX0_copyFrom_26 u_193 (in_0 hb1) ?_
  refine pf_0_3 C dX0_copyFrom_29 u_193 (in_0 hb) (fun M4 => ?_)
  refine r_aload_n C 0 dX0_copyFrom_32 rfl rfl ?_
  refine r_aload_n C 1 dX0_copyFrom_33 rfl rfl ?_
  refine gf_0_4 C dX0_copyFrom_34 u_196 (in_0 hb1) ?_
  refine pf_0_4 C dX0_copyFrom_37 u_196 (in_0 hb) (fun M5 => ?_)
  refine r_aload_n C 0 dX0_copyFrom_40 rfl rfl ?_
  refine r_aload_n C 1 dX0_copyFrom_41 rfl rfl ?_
  refine gf_0_5 C dX0_copyFrom_42 u_200 (in_0 hb1) ?_
  refine pf_0_5 C dX0_copyFrom_45 u_200 (in_0 hb) (fun M6 => ?_)
  refine r_aload_n C 0 dX0_copyFrom_48 rfl rfl ?_
  refine r_aload_n C 1 dX0_copyFrom_49 rfl rfl ?_
  refine gf_0_6 C dX0_copyFrom_50 u_205 (in_0 hb1) ?_
  refine pf_0_6 C dX0_copyFrom_53 u_205 (in_0 hb) (fun M7 => ?_)
  refine r_aload_n C 0 dX0_copyFrom_56 rfl rfl ?_
  refine r_aload_n C 1 dX0_copyFrom_57 rfl rfl ?_
  refine gf_0_7 C dX0_copyFrom_58 u_210 (in_0 hb1) ?_
  refine pf_0_7 C dX0_copyFrom_61 u_210 (in_0 hb) (fun M8 => ?_)
  refine r_aload_n C 1 dX0_copyFrom_64 rfl rfl ?_
  refine gf_0_8 C dX0_copyFrom_65 u_214 (in_0 hb1) ?_
  refine r_iconst (v := 0) C dX0_copyFrom_68 (by decide) ?_
  refine r_aload_n C 0 dX0_copyFrom_69 rfl rfl ?_
  refine gf_0_8 C dX0_copyFrom_70 u_214 (in_0 hb) ?_
  refine r_iconst (v := 0) C dX0_copyFrom_73 (by decide) ?_
  refine r_iconst (v := 3) C dX0_copyFrom_74 (by decide) ?_
  refine r_copy (L := 3) C u_548 u_550 u_549 u_141 dX0_copyFrom_75 (in_1 hb1) (in_1 hb) (contW_1 g _ _) (contW_1 g _ _) (by decide) (by decide) (by decide) (by decide) (by decide) (Nat.le_of_ble_eq_true rfl) (fun M9 => ?_)
  refine r_aload_n C 1 dX0_copyFrom_78 rfl rfl ?_
  refine gf_0_9 C dX0_copyFrom_79 u_217 (in_0 hb1) ?_
  refine r_iconst (v := 0) C dX0_copyFrom_82 (by decide) ?_
  refine r_aload_n C 0 dX0_copyFrom_83 rfl rfl ?_
  refine gf_0_9 C dX0_copyFrom_84 u_217 (in_0 hb) ?_
  refine r_iconst (v := 0) C dX0_copyFrom_87 (by decide) ?_
  refine r_iconst (v := 3) C dX0_copyFrom_88 (by decide) ?_
  refine r_copy (L := 3) C u_548 u_550 u_549 u_141 dX0_copyFrom_89 (in_2 hb1) (in_2 hb) (contW_2 g _ _) (contW_2 g _ _) (by decide) (by decide) (by decide) (by decide) (by decide) (Nat.le_of_ble_eq_true rfl) (fun M10 => ?_)
  refine r_iconst (v := 0) C dX0_copyFrom_92 (by decide) ?_
  refine r_istore_n0 (lv' := [(2, .int 0), (0, .ref (gA g 0 b 0)), (1, .ref (gA g 0 b1 0))]) C dX0_copyFrom_93 rfl (by decide) rfl ?_
  refine r_lv [1, 2, 0] rfl ?_
  exact tl_X0_copyFrom_94 C hm hb hb1 FU 0 M10
def F_X7_forgetCycle (b : Nat) (i : Nat) (M : Mw) : Option (Mw) :=
  (bd (uIw M 25 b i 9 0) (fun M1 => (bd (uIw M1 25 b i 10 0) (fun M2 => some M2))))
set_option maxRecDepth 100000 in
set_option maxHeartbeats 4000000 in
theorem c_X7_forgetCycle {g : Gw} {l : Launch} {b : Nat} (hb : b < 3) {i : Nat} (hi : i < 5) (M : Mw) : Kw g l yX7_forgetCycle cX7_forgetCycle 1 none 1 0 0 [.ref (gA g 25 b i)] M (fun M : Mw => (none, M)) (F_X7_forgetCycle b i M) := by
  refine Kw.of (own := RX7) (lv0 := [(0, .ref (gA g 25 b i))]) (by decide +kernel) rfl (Nat.le_of_ble_eq_true rfl) rfl (fun x C hl hm => ?_)
  subst hl
  unfold F_X7_forgetCycle
  refine r_aload_n C 0 dX7_forgetCycle_0 rfl rfl ?_
  refine r_iconst (v := 0) C dX7_forgetCycle_1 (by decide) ?_
  refine pc_25_9 C dX7_forgetCycle_2 u_312 (in_25 hb hi) (by decide) (fun M1 => ?_)
  refine r_aload_n C 0 dX7_forgetCycle_5 rfl rfl ?_
  refine r_iconst (v := 0) C dX7_forgetCycle_6 (by decide) ?_
  refine pf_25_10 C dX7_forgetCycle_7 u_313 (in_25 hb hi) (fun M2 => ?_)
  exact r_vret C dX7_forgetCycle_10 rfl rfl (xk0 hm) (xn0 hm)
def F_X7_restartAt (b : Nat) (i : Nat) (p1 : Int32) (M : Mw) : Option (Mw) :=
  (bd (uIw M 25 b i 0 p1) (fun M1 => (bd (uIw M1 25 b i 2 (-1)) (fun M2 => (bd (uIw M2 25 b i 3 0) (fun M3 => (bd (uIw M3 25 b i 4 (-1)) (fun M4 => (bd (uIw M4 25 b i 5 (-1)) (fun M5 => (bd (uIw M5 25 b i 6 1) (fun M6 => some M6))))))))))))
set_option maxRecDepth 100000 in
set_option maxHeartbeats 4000000 in
theorem c_X7_restartAt {g : Gw} {l : Launch} {b : Nat} (hb : b < 3) {i : Nat} (hi : i < 5) (p1 : Int32) (M : Mw) : Kw g l yX7_restartAt cX7_restartAt 2 none 1 0 0 [.ref (gA g 25 b i), .int p1] M (fun M : Mw => (none, M)) (F_X7_restartAt b i p1 M) := by
  refine Kw.of (own := RX7) (lv0 := [(0, .ref (gA g 25 b i)), (1, .int p1)]) (by decide +kernel) rfl (Nat.le_of_ble_eq_true rfl) rfl (fun x C hl hm => ?_)
  subst hl
  unfold F_X7_restartAt
  refine r_aload_n C 0 dX7_restartAt_0 rfl rfl ?_
  refine r_iload_n C 1 dX7_restartAt_1 rfl rfl ?_
  refine pf_25_0 C dX7_restartAt_2 u_291 (in_25 hb hi) (fun M1 => ?_)
  refine r_aload_n C 0 dX7_restartAt_5 rfl rfl ?_
  refine r_iconst (v := (-1)) C dX7_restartAt_6 (by decide) ?_
  refine pf_25_2 C dX7_restartAt_7 u_297 (in_25 hb hi) (fun M2 => ?_)
  refine r_aload_n C 0 dX7_restartAt_10 rfl rfl ?_
  refine r_iconst (v := 0) C dX7_restartAt_11 (by decide) ?_
  refine pf_25_3 C dX7_restartAt_12 u_300 (in_25 hb hi) (fun M3 => ?_)
  refine r_aload_n C 0 dX7_restartAt_15 rfl rfl ?_
  refine r_iconst (v := (-1)) C dX7_restartAt_16 (by decide) ?_
  refine pf_25_4 C dX7_restartAt_17 u_302 (in_25 hb hi) (fun M4 => ?_)
  refine r_aload_n C 0 dX7_restartAt_20 rfl rfl ?_
  refine r_iconst (v := (-1)) C dX7_restartAt_21 (by decide) ?_
  refine pf_25_5 C dX7_restartAt_22 u_304 (in_25 hb hi) (fun M5 => ?_)
  refine r_aload_n C 0 dX7_restartAt_25 rfl rfl ?_
  refine r_iconst (v := 1) C dX7_restartAt_26 (by decide) ?_
  refine pf_25_6 C dX7_restartAt_27 u_306 (in_25 hb hi) (fun M6 => ?_)
  exact r_vret C dX7_restartAt_30 rfl rfl (xk0 hm) (xn0 hm)
def F_X7_reset (b : Nat) (i : Nat) (M : Mw) : Option (Mw) :=
  (bd (uIw M 25 b i 1 0) (fun M1 => (bd (uIw M1 25 b i 7 0) (fun M2 => (bd (uIw M2 25 b i 8 0) (fun M3 => (bd (uFw M3 25 b i 11 FP.fconst1) (fun M4 => (bd (uIw M4 25 b i 12 0) (fun M5 => (bd (uIw M5 25 b i 13 (-1)) (fun M6 => (bd (uIw M6 25 b i 14 0) (fun M7 => (bd (uFw M7 25 b i 15 FP.fconst0) (fun M8 => (bd (uDw M8 25 b i 16 FP.dconst0) (fun M9 => ((F_X7_forgetCycle b i M9).bind (fun M10 => ((F_X7_restartAt b i 0 M10).bind (fun M12 => some M12))))))))))))))))))))))
set_option maxRecDepth 100000 in
set_option maxHeartbeats 4000000 in
theorem c_X7_reset {g : Gw} {l : Launch} {b : Nat} (hb : b < 3) {i : Nat} (hi : i < 5) (M : Mw) : Kw g l yX7_reset cX7_reset 1 none 2 0 0 [.ref (gA g 25 b i)] M (fun M : Mw => (none, M)) (F_X7_reset b i M) := by
  refine Kw.of (own := RX7) (lv0 := [(0, .ref (gA g 25 b i))]) (by decide +kernel) rfl (Nat.le_of_ble_eq_true rfl) rfl (fun x C hl hm => ?_)
  subst hl
  unfold F_X7_reset
  refine r_aload_n C 0 dX7_reset_0 rfl rfl ?_
  refine r_iconst (v := 0) C dX7_reset_1 (by decide) ?_
  refine pf_25_1 C dX7_reset_2 u_294 (in_25 hb hi) (fun M1 => ?_)
  refine r_aload_n C 0 dX7_reset_5 rfl rfl ?_
  refine r_iconst (v := 0) C dX7_reset_6 (by decide) ?_
  refine pf_25_7 C dX7_reset_7 u_308 (in_25 hb hi) (fun M2 => ?_)
  refine r_aload_n C 0 dX7_reset_10 rfl rfl ?_
  refine r_iconst (v := 0) C dX7_reset_11 (by decide) ?_
  refine pf_25_8 C dX7_reset_12 u_311 (in_25 hb hi) (fun M3 => ?_)
  refine r_aload_n C 0 dX7_reset_15 rfl rfl ?_
  refine r_fconst1 C dX7_reset_16 ?_
  refine pf_25_11 C dX7_reset_17 u_315 (in_25 hb hi) (fun M4 => ?_)
  refine r_aload_n C 0 dX7_reset_20 rfl rfl ?_
  refine r_iconst (v := 0) C dX7_reset_21 (by decide) ?_
  refine pf_25_12 C dX7_reset_22 u_318 (in_25 hb hi) (fun M5 => ?_)
  refine r_aload_n C 0 dX7_reset_25 rfl rfl ?_
  refine r_iconst (v := (-1)) C dX7_reset_26 (by decide) ?_
  refine pf_25_13 C dX7_reset_27 u_320 (in_25 hb hi) (fun M6 => ?_)
  refine r_aload_n C 0 dX7_reset_30 rfl rfl ?_
  refine r_iconst (v := 0) C dX7_reset_31 (by decide) ?_
  refine pf_25_14 C dX7_reset_32 u_322 (in_25 hb hi) (fun M7 => ?_)
  refine r_aload_n C 0 dX7_reset_35 rfl rfl ?_
  refine r_fconst0 C dX7_reset_36 ?_
  refine pf_25_15 C dX7_reset_37 u_324 (in_25 hb hi) (fun M8 => ?_)
  refine r_aload_n C 0 dX7_reset_40 rfl rfl ?_
  refine r_dconst0 C dX7_reset_41 ?_
  refine pf_25_16 C dX7_reset_42 u_326 (in_25 hb hi) (fun M9 => ?_)
  refine r_aload_n C 0 dX7_reset_45 rfl rfl ?_
  refine r_callVU (rest := []) C (c_X7_forgetCycle hb hi M9) dX7_reset_46 u_562 (in_25 hb hi) (contW_25 g _ _ _ _ _) rfl u_563 u_564 mi_X7_forgetCycle (by decide) rfl rfl (Nat.le_of_ble_eq_true rfl) (xk1 hm (by decide)) (xn1 hm (by decide)) (fun M10 h11 => ?_)
  refine r_aload_n C 0 dX7_reset_49 rfl rfl ?_
  refine r_iconst (v := 0) C dX7_reset_50 (by decide) ?_
  refine r_callVU (rest := []) C (c_X7_restartAt hb hi 0 M10) dX7_reset_51 u_566 (in_25 hb hi) (contW_25 g _ _ _ _ _) rfl u_567 u_568 mi_X7_restartAt (by decide) rfl rfl (Nat.le_of_ble_eq_true rfl) (xk1 hm (by decide)) (xn1 hm (by decide)) (fun M12 h13 => ?_)
  exact r_vret C dX7_reset_54 rfl rfl (xk0 hm) (xn0 hm)
def B_X5_reset_62 (b : Nat) (k62 : Int32 → Mw → Option (Mw)) (l1 : Int32) (M : Mw) : Option (Mw) :=
  (if 3 ≤ l1 then some M else (if inb l1 3 then (bd (uIw M 33 b 0 l1.toNatClampNeg (-1)) (fun M10 => (if inb l1 3 then (bd (uIw M10 34 b 0 l1.toNatClampNeg (vp_nar .boolean 0)) (fun M12 => (bd (l1 + 1) (fun v14 => (k62 v14 M12))))) else none))) else none))
def B_X5_reset_40 (b : Nat) (k40 : Int32 → Mw → Option (Mw)) (l1 : Int32) (M : Mw) : Option (Mw) :=
  (if 5 ≤ l1 then (it (fun _ _ => none) (B_X5_reset_62 b) FU 0 M) else (if inb l1 5 then ((F_X7_reset b l1.toNatClampNeg M).bind (fun M16 => (bd (l1 + 1) (fun v18 => (k40 v18 M16))))) else none))
def F_X5_reset (b : Nat) (M : Mw) : Option (Mw) :=
  (bd (uIw M 23 b 0 6 0) (fun M1 => (bd (uIw M1 23 b 0 3 (-1)) (fun M2 => (bd (uIw M2 23 b 0 4 0) (fun M3 => (bd (uIw M3 23 b 0 5 (-1)) (fun M4 => (bd (uIw M4 23 b 0 7 0) (fun M5 => (bd (uIw M5 23 b 0 12 0) (fun M6 => (bd (uIw M6 26 b 0 1 0) (fun M7 => (it (fun _ _ => none) (B_X5_reset_40 b) FU 0 M7)))))))))))))))
set_option maxRecDepth 100000 in
set_option maxHeartbeats 4000000 in
theorem t_X5_reset_62 {g : Gw} {x : Xw} (C : Cw g x cX5_reset RX5 2 none 3) (hm : x.2.2.2.2.2.2.2.2.2.2.2 = (0, 0)) {b : Nat} (hb : b < 3) (k62 : Int32 → Mw → Option (Mw)) (hk62 : ∀ (l1 : Int32) (M : Mw), Sw g x (fun M : Mw => (none, M)) M 0 0 62 [(0, .ref (gA g 23 b 0)), (1, .int l1)] [] (k62 l1 M)) (l1 : Int32) (M : Mw) : Sw g x (fun M : Mw => (none, M)) M 0 0 62 [(0, .ref (gA g 23 b 0)), (1, .int l1)] [] (B_X5_reset_62 b k62 l1 M) := by
  unfold B_X5_reset_62
  refine r_iload_n C 1 dX5_reset_62 rfl rfl ?_
  refine r_iconst (v := 3) C dX5_reset_63 (by decide) ?_
  refine r_icmp_ge (tgt := 87) C dX5_reset_64 (by decide) (fun h9 => ?_) (fun h9 => ?_)
  · exact r_vret C dX5_reset_87 rfl rfl (xk0 hm) (xn0 hm)
  · refine r_aload_n C 0 dX5_reset_67 rfl rfl ?_
    refine gf_23_13 C dX5_reset_68 u_348 (in_23 hb) ?_
    refine r_iload_n C 1 dX5_reset_71 rfl rfl ?_
    refine r_iconst (v := (-1)) C dX5_reset_72 (by decide) ?_
    refine r_iast C dX5_reset_73 (in_33 hb) (contW_33 g _ _) (fun M10 h11 => ?_)
    refine r_aload_n C 0 dX5_reset_74 rfl rfl ?_
    refine gf_23_14 C dX5_reset_75 u_349 (in_23 hb) ?_
    refine r_iload_n C 1 dX5_reset_78 rfl rfl ?_
    refine r_iconst (v := 0) C dX5_reset_79 (by decide) ?_
    refine r_zast C dX5_reset_80 (in_34 hb) (contW_34 g _ _) (fun M12 h13 => ?_)
    refine r_iinc (c := 1) (lv' := fun v14 => [(1, .int v14), (0, .ref (gA g 23 b 0))]) C 1 dX5_reset_81 rfl (by decide) (by decide) (fun _ => rfl) (fun v14 => ?_)
    refine r_goto (tgt := 62) C dX5_reset_84 (by decide) ?_
    refine r_lv [1, 0] rfl ?_
    exact hk62 v14 M12
set_option maxRecDepth 100000 in
set_option maxHeartbeats 4000000 in
theorem tl_X5_reset_62 {g : Gw} {x : Xw} (C : Cw g x cX5_reset RX5 2 none 3) (hm : x.2.2.2.2.2.2.2.2.2.2.2 = (0, 0)) {b : Nat} (hb : b < 3) (n : Nat) : ∀ (l1 : Int32) (M : Mw), Sw g x (fun M : Mw => (none, M)) M 0 0 62 [(0, .ref (gA g 23 b 0)), (1, .int l1)] [] (it (fun _ _ => none) (B_X5_reset_62 b) n l1 M) := by
  induction n with
  | zero =>
    intro l1 M
    exact r_none
  | succ n ih =>
    intro l1 M
    exact t_X5_reset_62 C hm hb _ ih l1 M
set_option maxRecDepth 100000 in
set_option maxHeartbeats 4000000 in
theorem t_X5_reset_40 {g : Gw} {x : Xw} (C : Cw g x cX5_reset RX5 2 none 3) (hm : x.2.2.2.2.2.2.2.2.2.2.2 = (0, 0)) {b : Nat} (hb : b < 3) (k40 : Int32 → Mw → Option (Mw)) (hk40 : ∀ (l1 : Int32) (M : Mw), Sw g x (fun M : Mw => (none, M)) M 0 0 40 [(0, .ref (gA g 23 b 0)), (1, .int l1)] [] (k40 l1 M)) (l1 : Int32) (M : Mw) : Sw g x (fun M : Mw => (none, M)) M 0 0 40 [(0, .ref (gA g 23 b 0)), (1, .int l1)] [] (B_X5_reset_40 b k40 l1 M) := by
  unfold B_X5_reset_40
  refine r_iload_n C 1 dX5_reset_40 rfl rfl ?_
  refine r_iconst (v := 5) C dX5_reset_41 (by decide) ?_
  refine r_icmp_ge (tgt := 60) C dX5_reset_42 (by decide) (fun h8 => ?_) (fun h8 => ?_)
  · refine r_iconst (v := 0) C dX5_reset_60 (by decide) ?_
    refine r_istore_n0 (lv' := [(1, .int 0), (0, .ref (gA g 23 b 0))]) C dX5_reset_61 rfl (by decide) rfl ?_
    refine r_lv [1, 0] rfl ?_
    exact tl_X5_reset_62 C hm hb FU 0 M
  · refine r_aload_n C 0 dX5_reset_45 rfl rfl ?_
    refine gf_23_1 C dX5_reset_46 u_331 (in_23 hb) ?_
    refine r_iload_n C 1 dX5_reset_49 rfl rfl ?_
    refine r_aald (t0 := 7) (ty := .object "WatchStack$TaskState") C dX5_reset_50 (in_24 hb) (contW_24 g _ _ _ _ _) rfl rfl (fun h15 => ?_)
    refine r_callVU (rest := []) C (c_X7_reset hb (inb_lt h15) M) dX5_reset_51 u_558 (in_25 hb (inb_lt h15)) (contW_25 g _ _ _ _ _) rfl u_559 u_560 mi_X7_reset (by decide) rfl rfl (Nat.le_of_ble_eq_true rfl) (xk1 hm (by decide)) (xn1 hm (by decide)) (fun M16 h17 => ?_)
    refine r_iinc (c := 1) (lv' := fun v18 => [(1, .int v18), (0, .ref (gA g 23 b 0))]) C 1 dX5_reset_54 rfl (by decide) (by decide) (fun _ => rfl) (fun v18 => ?_)
    refine r_goto (tgt := 40) C dX5_reset_57 (by decide) ?_
    refine r_lv [1, 0] rfl ?_
    exact hk40 v18 M16
set_option maxRecDepth 100000 in
set_option maxHeartbeats 4000000 in
theorem tl_X5_reset_40 {g : Gw} {x : Xw} (C : Cw g x cX5_reset RX5 2 none 3) (hm : x.2.2.2.2.2.2.2.2.2.2.2 = (0, 0)) {b : Nat} (hb : b < 3) (n : Nat) : ∀ (l1 : Int32) (M : Mw), Sw g x (fun M : Mw => (none, M)) M 0 0 40 [(0, .ref (gA g 23 b 0)), (1, .int l1)] [] (it (fun _ _ => none) (B_X5_reset_40 b) n l1 M) := by
  induction n with
  | zero =>
    intro l1 M
    exact r_none
  | succ n ih =>
    intro l1 M
    exact t_X5_reset_40 C hm hb _ ih l1 M
set_option maxRecDepth 100000 in
set_option maxHeartbeats 4000000 in
theorem c_X5_reset {g : Gw} {l : Launch} {b : Nat} (hb : b < 3) (M : Mw) : Kw g l yX5_reset cX5_reset 2 none 3 0 0 [.ref (gA g 23 b 0)] M (fun M : Mw => (none, M)) (F_X5_reset b M) := by
  refine Kw.of (own := RX5) (lv0 := [(0, .ref (gA g 23 b 0))]) (by decide +kernel) rfl (Nat.le_of_ble_eq_true rfl) rfl (fun x C hl hm => ?_)
  subst hl
  unfold F_X5_reset
  refine r_aload_n C 0 dX5_reset_0 rfl rfl ?_
  refine r_iconst (v := 0) C dX5_reset_1 (by decide) ?_
  refine pf_23_6 C dX5_reset_2 u_341 (in_23 hb) (fun M1 => ?_)
  refine r_aload_n C 0 dX5_reset_5 rfl rfl ?_
  refine r_iconst (v := (-1)) C dX5_reset_6 (by decide) ?_
  refine pf_23_3 C dX5_reset_7 u_335 (in_23 hb) (fun M2 => ?_)
  refine r_aload_n C 0 dX5_reset_10 rfl rfl ?_
  refine r_iconst (v := 0) C dX5_reset_11 (by decide) ?_
  refine pf_23_4 C dX5_reset_12 u_337 (in_23 hb) (fun M3 => ?_)
  refine r_aload_n C 0 dX5_reset_15 rfl rfl ?_
  refine r_iconst (v := (-1)) C dX5_reset_16 (by decide) ?_
  refine pf_23_5 C dX5_reset_17 u_339 (in_23 hb) (fun M4 => ?_)
  refine r_aload_n C 0 dX5_reset_20 rfl rfl ?_
  refine r_iconst (v := 0) C dX5_reset_21 (by decide) ?_
  refine pf_23_7 C dX5_reset_22 u_342 (in_23 hb) (fun M5 => ?_)
  refine r_aload_n C 0 dX5_reset_25 rfl rfl ?_
  refine r_iconst (v := 0) C dX5_reset_26 (by decide) ?_
  refine pf_23_12 C dX5_reset_27 u_347 (in_23 hb) (fun M6 => ?_)
  refine r_aload_n C 0 dX5_reset_30 rfl rfl ?_
  refine gf_23_2 C dX5_reset_31 u_333 (in_23 hb) ?_
  refine r_iconst (v := 0) C dX5_reset_34 (by decide) ?_
  refine pf_26_1 C dX5_reset_35 u_284 (in_26 hb) (fun M7 => ?_)
  refine r_iconst (v := 0) C dX5_reset_38 (by decide) ?_
  refine r_istore_n0 (lv' := [(1, .int 0), (0, .ref (gA g 23 b 0))]) C dX5_reset_39 rfl (by decide) rfl ?_
  refine r_lv [1, 0] rfl ?_
  exact tl_X5_reset_40 C hm hb FU 0 M7
def F_X9_divides (p1 : Int32) (p2 : Int32) (M : Mw) : Option (Int32) :=
  (if p1 ≤ 0 then some 0 else (if p1 = 0 then none else (if (p2 - p2 / p1 * p1) = 0 then some 1 else some 0)))
set_option maxRecDepth 100000 in
set_option maxHeartbeats 4000000 in
theorem c_X9_divides {g : Gw} {l : Launch} (p1 : Int32) (p2 : Int32) (M : Mw) : Kw g l yX9_divides cX9_divides 2 (some .boolean) 1 0 0 [.int p1, .int p2] M (fun v : Int32 => (some (.int v), M)) (F_X9_divides p1 p2 M) := by
  refine Kw.of (own := RX9) (lv0 := [(0, .int p1), (1, .int p2)]) (by decide +kernel) rfl (Nat.le_of_ble_eq_true rfl) rfl (fun x C hl hm => ?_)
  subst hl
  unfold F_X9_divides
  refine r_iload_n C 0 dX9_divides_0 rfl rfl ?_
  refine r_if_le (tgt := 14) C dX9_divides_1 (by decide) (fun h1 => ?_) (fun h1 => ?_)
  · refine r_iconst (v := 0) C dX9_divides_14 (by decide) ?_
    exact r_zretc C dX9_divides_15 rfl bz0 rfl (xk0 hm) (xn0 hm)
  · refine r_iload_n C 1 dX9_divides_4 rfl rfl ?_
    refine r_iload_n C 0 dX9_divides_5 rfl rfl ?_
    refine r_irem C dX9_divides_6 (fun h2 => ?_)
    refine r_if_ne (tgt := 14) C dX9_divides_7 (by decide) (fun h3 => ?_) (fun h3 => ?_)
    · refine r_iconst (v := 1) C dX9_divides_10 (by decide) ?_
      refine r_goto (tgt := 15) C dX9_divides_11 (by decide) ?_
      exact r_zretc C dX9_divides_15 rfl bz1 rfl (xk0 hm) (xn0 hm)
    · refine r_iconst (v := 0) C dX9_divides_14 (by decide) ?_
      exact r_zretc C dX9_divides_15 rfl bz0 rfl (xk0 hm) (xn0 hm)
def F_X7_job (b : Nat) (i : Nat) (M : Mw) : Option (Int32) :=
  some ((M.1 25 b i 1) - 1)
set_option maxRecDepth 100000 in
set_option maxHeartbeats 4000000 in
theorem c_X7_job {g : Gw} {l : Launch} {b : Nat} (hb : b < 3) {i : Nat} (hi : i < 5) (M : Mw) : Kw g l yX7_job cX7_job 1 (some .int) 1 0 0 [.ref (gA g 25 b i)] M (fun v : Int32 => (some (.int v), M)) (F_X7_job b i M) := by
  refine Kw.of (own := RX7) (lv0 := [(0, .ref (gA g 25 b i))]) (by decide +kernel) rfl (Nat.le_of_ble_eq_true rfl) rfl (fun x C hl hm => ?_)
  subst hl
  unfold F_X7_job
  refine r_aload_n C 0 dX7_job_0 rfl rfl ?_
  refine gf_25_1 C dX7_job_1 u_294 (in_25 hb hi) ?_
  refine r_iconst (v := 1) C dX7_job_4 (by decide) ?_
  refine r_isub C dX7_job_5 ?_
  exact r_iret C dX7_job_6 rfl rfl (xk0 hm) (xn0 hm)
def B_X0_changeAt_3 (b : Nat) (l1 : Int32) (l2 : Int32) (l3 : Int32) (M : Mw) (k3 : Int32 → Option (Int32)) (l4 : Int32) : Option (Int32) :=
  (if ((M.1 0 b 0 6) + (M.1 0 b 0 7)) ≤ l4 then some (-1) else (if inb l4 19 then (if (M.1 12 b l4.toNatClampNeg 0) = 5 then (bd (l4 + 1) (fun v4 => (k3 v4))) else (if (M.1 12 b l4.toNatClampNeg 1) = l1 then (if (M.1 12 b l4.toNatClampNeg 3) = l3 then (if l2 < (M.1 12 b l4.toNatClampNeg 2) then (bd (l4 + 1) (fun v10 => (k3 v10))) else (if ((M.1 12 b l4.toNatClampNeg 2) + (M.1 12 b l4.toNatClampNeg 4)) ≤ l2 then (bd (l4 + 1) (fun v12 => (k3 v12))) else some (M.1 12 b l4.toNatClampNeg 0))) else (bd (l4 + 1) (fun v8 => (k3 v8)))) else (bd (l4 + 1) (fun v6 => (k3 v6))))) else none))
def F_X0_changeAt (b : Nat) (p1 : Int32) (p2 : Int32) (p3 : Int32) (M : Mw) : Option (Int32) :=
  (it (fun _ => none) (B_X0_changeAt_3 b p1 p2 p3 M) FU 0)
set_option maxRecDepth 100000 in
set_option maxHeartbeats 4000000 in
theorem t_X0_changeAt_3 {g : Gw} {x : Xw} (C : Cw g x cX0_changeAt RX0 6 (some .int) 1) (hm : x.2.2.2.2.2.2.2.2.2.2.2 = (0, 0)) {b : Nat} (hb : b < 8) (M : Mw) (l1 : Int32) (l2 : Int32) (l3 : Int32) (k3 : Int32 → Option (Int32)) (hk3 : ∀ (l4 : Int32), Sw g x (fun v : Int32 => (some (.int v), M)) M 0 0 3 [(0, .ref (gA g 0 b 0)), (1, .int l1), (2, .int l2), (3, .int l3), (4, .int l4)] [] (k3 l4)) (l4 : Int32) : Sw g x (fun v : Int32 => (some (.int v), M)) M 0 0 3 [(0, .ref (gA g 0 b 0)), (1, .int l1), (2, .int l2), (3, .int l3), (4, .int l4)] [] (B_X0_changeAt_3 b l1 l2 l3 M k3 l4) := by
  unfold B_X0_changeAt_3
  refine r_iload C 4 dX0_changeAt_3 rfl ?_
  refine r_aload_n C 0 dX0_changeAt_5 rfl rfl ?_
  refine gf_0_6 C dX0_changeAt_6 u_205 (in_0 hb) ?_
  refine r_aload_n C 0 dX0_changeAt_9 rfl rfl ?_
  refine gf_0_7 C dX0_changeAt_10 u_210 (in_0 hb) ?_
  refine r_iadd C dX0_changeAt_13 ?_
  refine r_icmp_ge (tgt := 82) C dX0_changeAt_14 (by decide) (fun h1 => ?_) (fun h1 => ?_)
  · refine r_iconst (v := (-1)) C dX0_changeAt_82 (by decide) ?_
    exact r_iret C dX0_changeAt_83 rfl rfl (xk0 hm) (xn0 hm)
  · refine r_aload_n C 0 dX0_changeAt_17 rfl rfl ?_
    refine gf_0_14 C dX0_changeAt_18 u_236 (in_0 hb) ?_
    refine r_iload C 4 dX0_changeAt_21 rfl ?_
    refine r_aald (t0 := 5) (ty := .array .int) C dX0_changeAt_23 (in_11 hb) (contW_11 g _ _ _ _ _) rfl rfl (fun h2 => ?_)
    refine r_astore (lv' := [(5, .ref (gA g 12 b l4.toNatClampNeg)), (0, .ref (gA g 0 b 0)), (1, .int l1), (2, .int l2), (3, .int l3), (4, .int l4)]) C dX0_changeAt_24 (by decide) rfl ?_
    refine r_aload C 0 dX0_changeAt_26 rfl ?_
    refine r_iconst (v := 0) C dX0_changeAt_28 (by decide) ?_
    refine r_ialdc C dX0_changeAt_29 (in_12 hb (inb_lt h2)) (contW_12 g _ _ _ _ _) (by decide) (j := 0) (by decide) ?_
    refine r_iconst (v := 5) C dX0_changeAt_30 (by decide) ?_
    refine r_icmp_eq (tgt := 76) C dX0_changeAt_31 (by decide) (fun h3 => ?_) (fun h3 => ?_)
    · refine r_iinc (c := 1) (lv' := fun v4 => [(4, .int v4), (5, .ref (gA g 12 b l4.toNatClampNeg)), (0, .ref (gA g 0 b 0)), (1, .int l1), (2, .int l2), (3, .int l3)]) C 5 dX0_changeAt_76 rfl (by decide) (by decide) (fun _ => rfl) (fun v4 => ?_)
      refine r_goto (tgt := 3) C dX0_changeAt_79 (by decide) ?_
      refine r_lv [2, 3, 4, 5, 0] rfl ?_
      exact hk3 v4
    · refine r_aload C 0 dX0_changeAt_34 rfl ?_
      refine r_iconst (v := 1) C dX0_changeAt_36 (by decide) ?_
      refine r_ialdc C dX0_changeAt_37 (in_12 hb (inb_lt h2)) (contW_12 g _ _ _ _ _) (by decide) (j := 1) (by decide) ?_
      refine r_iload_n C 2 dX0_changeAt_38 rfl rfl ?_
      refine r_icmp_ne (tgt := 76) C dX0_changeAt_39 (by decide) (fun h5 => ?_) (fun h5 => ?_)
      · refine r_aload C 0 dX0_changeAt_42 rfl ?_
        refine r_iconst (v := 3) C dX0_changeAt_44 (by decide) ?_
        refine r_ialdc C dX0_changeAt_45 (in_12 hb (inb_lt h2)) (contW_12 g _ _ _ _ _) (by decide) (j := 3) (by decide) ?_
        refine r_iload_n C 4 dX0_changeAt_46 rfl rfl ?_
        refine r_icmp_ne (tgt := 76) C dX0_changeAt_47 (by decide) (fun h7 => ?_) (fun h7 => ?_)
        · refine r_iload_n C 3 dX0_changeAt_50 rfl rfl ?_
          refine r_aload C 0 dX0_changeAt_51 rfl ?_
          refine r_iconst (v := 2) C dX0_changeAt_53 (by decide) ?_
          refine r_ialdc C dX0_changeAt_54 (in_12 hb (inb_lt h2)) (contW_12 g _ _ _ _ _) (by decide) (j := 2) (by decide) ?_
          refine r_icmp_lt (tgt := 76) C dX0_changeAt_55 (by decide) (fun h9 => ?_) (fun h9 => ?_)
          · refine r_iinc (c := 1) (lv' := fun v10 => [(4, .int v10), (5, .ref (gA g 12 b l4.toNatClampNeg)), (0, .ref (gA g 0 b 0)), (1, .int l1), (2, .int l2), (3, .int l3)]) C 5 dX0_changeAt_76 rfl (by decide) (by decide) (fun _ => rfl) (fun v10 => ?_)
            refine r_goto (tgt := 3) C dX0_changeAt_79 (by decide) ?_
            refine r_lv [2, 3, 4, 5, 0] rfl ?_
            exact hk3 v10
          · refine r_iload_n C 3 dX0_changeAt_58 rfl rfl ?_
            refine r_aload C 0 dX0_changeAt_59 rfl ?_
            refine r_iconst (v := 2) C dX0_changeAt_61 (by decide) ?_
            refine r_ialdc C dX0_changeAt_62 (in_12 hb (inb_lt h2)) (contW_12 g _ _ _ _ _) (by decide) (j := 2) (by decide) ?_
            refine r_aload C 0 dX0_changeAt_63 rfl ?_
            refine r_iconst (v := 4) C dX0_changeAt_65 (by decide) ?_
            refine r_ialdc C dX0_changeAt_66 (in_12 hb (inb_lt h2)) (contW_12 g _ _ _ _ _) (by decide) (j := 4) (by decide) ?_
            refine r_iadd C dX0_changeAt_67 ?_
            refine r_icmp_ge (tgt := 76) C dX0_changeAt_68 (by decide) (fun h11 => ?_) (fun h11 => ?_)
            · refine r_iinc (c := 1) (lv' := fun v12 => [(4, .int v12), (5, .ref (gA g 12 b l4.toNatClampNeg)), (0, .ref (gA g 0 b 0)), (1, .int l1), (2, .int l2), (3, .int l3)]) C 5 dX0_changeAt_76 rfl (by decide) (by decide) (fun _ => rfl) (fun v12 => ?_)
              refine r_goto (tgt := 3) C dX0_changeAt_79 (by decide) ?_
              refine r_lv [2, 3, 4, 5, 0] rfl ?_
              exact hk3 v12
            · refine r_aload C 0 dX0_changeAt_71 rfl ?_
              refine r_iconst (v := 0) C dX0_changeAt_73 (by decide) ?_
              refine r_ialdc C dX0_changeAt_74 (in_12 hb (inb_lt h2)) (contW_12 g _ _ _ _ _) (by decide) (j := 0) (by decide) ?_
              exact r_iret C dX0_changeAt_75 rfl rfl (xk0 hm) (xn0 hm)
        · refine r_iinc (c := 1) (lv' := fun v8 => [(4, .int v8), (5, .ref (gA g 12 b l4.toNatClampNeg)), (0, .ref (gA g 0 b 0)), (1, .int l1), (2, .int l2), (3, .int l3)]) C 5 dX0_changeAt_76 rfl (by decide) (by decide) (fun _ => rfl) (fun v8 => ?_)
          refine r_goto (tgt := 3) C dX0_changeAt_79 (by decide) ?_
          refine r_lv [2, 3, 4, 5, 0] rfl ?_
          exact hk3 v8
      · refine r_iinc (c := 1) (lv' := fun v6 => [(4, .int v6), (5, .ref (gA g 12 b l4.toNatClampNeg)), (0, .ref (gA g 0 b 0)), (1, .int l1), (2, .int l2), (3, .int l3)]) C 5 dX0_changeAt_76 rfl (by decide) (by decide) (fun _ => rfl) (fun v6 => ?_)
        refine r_goto (tgt := 3) C dX0_changeAt_79 (by decide) ?_
        refine r_lv [2, 3, 4, 5, 0] rfl ?_
        exact hk3 v6
set_option maxRecDepth 100000 in
set_option maxHeartbeats 4000000 in
theorem tl_X0_changeAt_3 {g : Gw} {x : Xw} (C : Cw g x cX0_changeAt RX0 6 (some .int) 1) (hm : x.2.2.2.2.2.2.2.2.2.2.2 = (0, 0)) {b : Nat} (hb : b < 8) (M : Mw) (l1 : Int32) (l2 : Int32) (l3 : Int32) (n : Nat) : ∀ (l4 : Int32), Sw g x (fun v : Int32 => (some (.int v), M)) M 0 0 3 [(0, .ref (gA g 0 b 0)), (1, .int l1), (2, .int l2), (3, .int l3), (4, .int l4)] [] (it (fun _ => none) (B_X0_changeAt_3 b l1 l2 l3 M) n l4) := by
  induction n with
  | zero =>
    intro l4
    exact r_none
  | succ n ih =>
    intro l4
    exact t_X0_changeAt_3 C hm hb M l1 l2 l3 _ ih l4
set_option maxRecDepth 100000 in
set_option maxHeartbeats 4000000 in
theorem c_X0_changeAt {g : Gw} {l : Launch} {b : Nat} (hb : b < 8) (p1 : Int32) (p2 : Int32) (p3 : Int32) (M : Mw) : Kw g l yX0_changeAt cX0_changeAt 6 (some .int) 1 0 0 [.ref (gA g 0 b 0), .int p1, .int p2, .int p3] M (fun v : Int32 => (some (.int v), M)) (F_X0_changeAt b p1 p2 p3 M) := by
  refine Kw.of (own := RX0) (lv0 := [(0, .ref (gA g 0 b 0)), (1, .int p1), (2, .int p2), (3, .int p3)]) (by decide +kernel) rfl (Nat.le_of_ble_eq_true rfl) rfl (fun x C hl hm => ?_)
  subst hl
  unfold F_X0_changeAt
  refine r_iconst (v := 0) C dX0_changeAt_0 (by decide) ?_
  refine r_istore0 (lv' := [(4, .int 0), (0, .ref (gA g 0 b 0)), (1, .int p1), (2, .int p2), (3, .int p3)]) C dX0_changeAt_1 (by decide) rfl ?_
  refine r_lv [1, 2, 3, 4, 0] rfl ?_
  exact tl_X0_changeAt_3 C hm hb M p1 p2 p3 FU 0
def F_X5_enterNode (b : Nat) (p1 : Int32) (p2 : Int32) (M : Mw) : Option (Mw) :=
  (if inb p1 5 then (bd (uIw M 25 b p1.toNatClampNeg 2 p2) (fun M2 => ((F_X7_job b p1.toNatClampNeg M2).bind (fun v3 => ((F_X0_changeAt (b + 5) p1 v3 p2 M2).bind (fun v5 => (bd (uIw M2 25 b p1.toNatClampNeg 4 v5) (fun M7 => (if inb p1 5 then (if inb p2 6 then (if (M7.1 25 b p1.toNatClampNeg 4) = 3 then (bd (uIw M7 25 b p1.toNatClampNeg 3 ((M7.1 6 (b + 5) p1.toNatClampNeg p2.toNatClampNeg) * 2)) (fun M12 => some M12)) else (bd (uIw M7 25 b p1.toNatClampNeg 3 ((M7.1 6 (b + 5) p1.toNatClampNeg p2.toNatClampNeg) * 1)) (fun M11 => some M11))) else none) else none))))))))) else none)
set_option maxRecDepth 100000 in
set_option maxHeartbeats 4000000 in
theorem c_X5_enterNode {g : Gw} {l : Launch} {b : Nat} (hb : b < 3) (p1 : Int32) (p2 : Int32) (M : Mw) : Kw g l yX5_enterNode cX5_enterNode 4 none 2 0 0 [.ref (gA g 23 b 0), .int p1, .int p2] M (fun M : Mw => (none, M)) (F_X5_enterNode b p1 p2 M) := by
  refine Kw.of (own := RX5) (lv0 := [(0, .ref (gA g 23 b 0)), (1, .int p1), (2, .int p2)]) (by decide +kernel) rfl (Nat.le_of_ble_eq_true rfl) rfl (fun x C hl hm => ?_)
  subst hl
  unfold F_X5_enterNode
  refine r_aload_n C 0 dX5_enterNode_0 rfl rfl ?_
  refine gf_23_1 C dX5_enterNode_1 u_331 (in_23 hb) ?_
  refine r_iload_n C 1 dX5_enterNode_4 rfl rfl ?_
  refine r_aald (t0 := 7) (ty := .object "WatchStack$TaskState") C dX5_enterNode_5 (in_24 hb) (contW_24 g _ _ _ _ _) rfl rfl (fun h1 => ?_)
  refine r_astore_n (lv' := [(3, .ref (gA g 25 b p1.toNatClampNeg)), (0, .ref (gA g 23 b 0)), (1, .int p1), (2, .int p2)]) C dX5_enterNode_6 rfl (by decide) rfl ?_
  refine r_aload_n C 0 dX5_enterNode_7 rfl rfl ?_
  refine r_iload_n C 3 dX5_enterNode_8 rfl rfl ?_
  refine pf_25_2 C dX5_enterNode_9 u_298 (in_25 hb (inb_lt h1)) (fun M2 => ?_)
  refine r_aload_n C 0 dX5_enterNode_12 rfl rfl ?_
  refine r_aload_n C 1 dX5_enterNode_13 rfl rfl ?_
  refine gf_23_0 C dX5_enterNode_14 u_328 (in_23 hb) ?_
  refine r_iload_n C 2 dX5_enterNode_17 rfl rfl ?_
  refine r_aload_n C 0 dX5_enterNode_18 rfl rfl ?_
  refine r_callVRi (rest := [.int p1, .ref (gA g 0 (b + 5) 0), .ref (gA g 25 b p1.toNatClampNeg)]) C (c_X7_job hb (inb_lt h1) M2) dX5_enterNode_19 u_587 (in_25 hb (inb_lt h1)) (contW_25 g _ _ _ _ _) rfl u_588 u_589 mi_X7_job (by decide) rfl rfl (Nat.le_of_ble_eq_true rfl) (xk1 hm (by decide)) (xn1 hm (by decide)) (fun v3 h4 => ?_)
  refine r_iload_n C 3 dX5_enterNode_22 rfl rfl ?_
  refine r_callVRi (rest := [.ref (gA g 25 b p1.toNatClampNeg)]) C (c_X0_changeAt (lt85 hb) p1 v3 p2 M2) dX5_enterNode_23 u_591 (in_0 (lt85 hb)) (contW_0 g _ _ _ _ _) rfl u_592 u_593 mi_X0_changeAt (by decide) rfl rfl (Nat.le_of_ble_eq_true rfl) (xk1 hm (by decide)) (xn1 hm (by decide)) (fun v5 h6 => ?_)
  refine pf_25_4 C dX5_enterNode_26 u_303 (in_25 hb (inb_lt h1)) (fun M7 => ?_)
  refine r_aload_n C 0 dX5_enterNode_29 rfl rfl ?_
  refine r_aload_n C 1 dX5_enterNode_30 rfl rfl ?_
  refine gf_23_0 C dX5_enterNode_31 u_328 (in_23 hb) ?_
  refine gf_0_11 C dX5_enterNode_34 u_227 (in_0 (lt85 hb)) ?_
  refine r_iload_n C 2 dX5_enterNode_37 rfl rfl ?_
  refine r_aald (t0 := 5) (ty := .array .int) C dX5_enterNode_38 (in_5 (lt85 hb)) (contW_5 g _ _ _ _ _) rfl rfl (fun h8 => ?_)
  refine r_iload_n C 3 dX5_enterNode_39 rfl rfl ?_
  refine r_iald C dX5_enterNode_40 (in_6 (lt85 hb) (inb_lt h8)) (contW_6 g _ _ _ _ _) (fun h9 => ?_)
  refine r_aload_n C 0 dX5_enterNode_41 rfl rfl ?_
  refine gf_25_4 C dX5_enterNode_42 u_303 (in_25 hb (inb_lt h1)) ?_
  refine r_iconst (v := 3) C dX5_enterNode_45 (by decide) ?_
  refine r_icmp_ne (tgt := 53) C dX5_enterNode_46 (by decide) (fun h10 => ?_) (fun h10 => ?_)
  · refine r_iconst (v := 2) C dX5_enterNode_49 (by decide) ?_
    refine r_goto (tgt := 54) C dX5_enterNode_50 (by decide) ?_
    refine r_imul C dX5_enterNode_54 ?_
    refine pf_25_3 C dX5_enterNode_55 u_301 (in_25 hb (inb_lt h1)) (fun M12 => ?_)
    exact r_vret C dX5_enterNode_58 rfl rfl (xk0 hm) (xn0 hm)
  · refine r_iconst (v := 1) C dX5_enterNode_53 (by decide) ?_
    refine r_imul C dX5_enterNode_54 ?_
    refine pf_25_3 C dX5_enterNode_55 u_301 (in_25 hb (inb_lt h1)) (fun M11 => ?_)
    exact r_vret C dX5_enterNode_58 rfl rfl (xk0 hm) (xn0 hm)
def B_X5_beginTick_107 (b : Nat) (k17 : Int32 → Mw → Option (Mw)) (l1 : Int32) (l2 : Int32) (l3i : Nat) (M : Mw) : Option (Mw) :=
  (bd (uIw M 25 b l3i 1 ((M.1 25 b l3i 1) + 1)) (fun M16 => ((F_X5_enterNode b l2 0 M16).bind (fun M17 => (bd (l2 + 1) (fun v19 => (k17 v19 M17)))))))
def B_X5_beginTick_43 (b : Nat) (k17 : Int32 → Mw → Option (Mw)) (l1 : Int32) (l2 : Int32) (l3i : Nat) (M : Mw) : Option (Mw) :=
  (if (M.1 25 b l3i 2) = (-1) then (if (M.1 23 b 0 6) < (M.1 25 b l3i 0) then (bd (l2 + 1) (fun v9 => (k17 v9 M))) else (if inb l2 5 then ((F_X9_divides (M.1 4 (b + 5) l2.toNatClampNeg 1) (M.1 23 b 0 6) M).bind (fun v11 => (if v11 = 0 then (bd (l2 + 1) (fun v14 => (k17 v14 M))) else (if 50 < (M.1 25 b l3i 1) then (B_X5_beginTick_107 b k17 l1 l2 l3i M) else (if inb l2 5 then (if inb (M.1 25 b l3i 1) 51 then (bd (uIw M 30 b l2.toNatClampNeg (M.1 25 b l3i 1).toNatClampNeg (M.1 23 b 0 6)) (fun M21 => (B_X5_beginTick_107 b k17 l1 l2 l3i M21))) else none) else none))))) else none)) else (bd (l2 + 1) (fun v7 => (k17 v7 M))))
def B_X5_beginTick_17 (b : Nat) (l1 : Int32) (k17 : Int32 → Mw → Option (Mw)) (l2 : Int32) (M : Mw) : Option (Mw) :=
  (if (M.1 0 (b + 5) 0 5) ≤ l2 then some M else (if inb l2 5 then (if l1 = 0 then (B_X5_beginTick_43 b k17 l1 l2 l2.toNatClampNeg M) else ((F_X7_forgetCycle b l2.toNatClampNeg M).bind (fun M23 => (B_X5_beginTick_43 b k17 l1 l2 l2.toNatClampNeg M23)))) else none))
def F_X5_beginTick (b : Nat) (M : Mw) : Option (Mw) :=
  ((F_X9_divides (M.1 0 (b + 5) 0 1) (M.1 23 b 0 6) M).bind (fun v1 => (it (fun _ _ => none) (B_X5_beginTick_17 b v1) FU 0 M)))
set_option maxRecDepth 100000 in
set_option maxHeartbeats 4000000 in
theorem t_X5_beginTick_107 {g : Gw} {x : Xw} (C : Cw g x cX5_beginTick RX5 4 none 3) (hm : x.2.2.2.2.2.2.2.2.2.2.2 = (0, 0)) {b : Nat} (hb : b < 3) (k17 : Int32 → Mw → Option (Mw)) (l1 : Int32) (l2 : Int32) (l3i : Nat) (hl3i : l3i < 5) (hk17 : ∀ (l2 : Int32) (M : Mw), Sw g x (fun M : Mw => (none, M)) M 0 0 17 [(0, .ref (gA g 23 b 0)), (1, .int l1), (2, .int l2)] [] (k17 l2 M)) (M : Mw) : Sw g x (fun M : Mw => (none, M)) M 0 0 107 [(0, .ref (gA g 23 b 0)), (1, .int l1), (2, .int l2), (3, .ref (gA g 25 b l3i))] [] (B_X5_beginTick_107 b k17 l1 l2 l3i M) := by
  unfold B_X5_beginTick_107
  refine r_aload_n C 3 dX5_beginTick_107 rfl rfl ?_
  refine r_dup C rfl dX5_beginTick_108 ?_
  refine gf_25_1 C dX5_beginTick_109 u_295 (in_25 hb hl3i) ?_
  refine r_iconst (v := 1) C dX5_beginTick_112 (by decide) ?_
  refine r_iadd C dX5_beginTick_113 ?_
  refine pf_25_1 C dX5_beginTick_114 u_295 (in_25 hb hl3i) (fun M16 => ?_)
  refine r_aload_n C 0 dX5_beginTick_117 rfl rfl ?_
  refine r_iload_n C 2 dX5_beginTick_118 rfl rfl ?_
  refine r_iconst (v := 0) C dX5_beginTick_119 (by decide) ?_
  refine r_callVU (rest := []) C (c_X5_enterNode hb l2 0 M16) dX5_beginTick_120 u_584 (in_23 hb) (contW_23 g _ _ _ _ _) rfl u_585 u_21 mi_X5_enterNode (by decide) rfl rfl (Nat.le_of_ble_eq_true rfl) (xk1 hm (by decide)) (xn1 hm (by decide)) (fun M17 h18 => ?_)
  refine r_iinc (c := 1) (lv' := fun v19 => [(2, .int v19), (0, .ref (gA g 23 b 0)), (1, .int l1), (3, .ref (gA g 25 b l3i))]) C 2 dX5_beginTick_123 rfl (by decide) (by decide) (fun _ => rfl) (fun v19 => ?_)
  refine r_goto (tgt := 17) C dX5_beginTick_126 (by decide) ?_
  refine r_lv [1, 2, 0] rfl ?_
  exact hk17 v19 M17
set_option maxRecDepth 100000 in
set_option maxHeartbeats 4000000 in
theorem t_X5_beginTick_43 {g : Gw} {x : Xw} (C : Cw g x cX5_beginTick RX5 4 none 3) (hm : x.2.2.2.2.2.2.2.2.2.2.2 = (0, 0)) {b : Nat} (hb : b < 3) (k17 : Int32 → Mw → Option (Mw)) (l1 : Int32) (l2 : Int32) (l3i : Nat) (hl3i : l3i < 5) (hk17 : ∀ (l2 : Int32) (M : Mw), Sw g x (fun M : Mw => (none, M)) M 0 0 17 [(0, .ref (gA g 23 b 0)), (1, .int l1), (2, .int l2)] [] (k17 l2 M)) (M : Mw) : Sw g x (fun M : Mw => (none, M)) M 0 0 43 [(0, .ref (gA g 23 b 0)), (1, .int l1), (2, .int l2), (3, .ref (gA g 25 b l3i))] [] (B_X5_beginTick_43 b k17 l1 l2 l3i M) := by
  unfold B_X5_beginTick_43
  refine r_aload_n C 3 dX5_beginTick_43 rfl rfl ?_
  refine gf_25_2 C dX5_beginTick_44 u_298 (in_25 hb hl3i) ?_
  refine r_iconst (v := (-1)) C dX5_beginTick_47 (by decide) ?_
  refine r_icmp_ne (tgt := 123) C dX5_beginTick_48 (by decide) (fun h6 => ?_) (fun h6 => ?_)
  · refine r_aload_n C 0 dX5_beginTick_51 rfl rfl ?_
    refine gf_23_6 C dX5_beginTick_52 u_341 (in_23 hb) ?_
    refine r_aload_n C 3 dX5_beginTick_55 rfl rfl ?_
    refine gf_25_0 C dX5_beginTick_56 u_292 (in_25 hb hl3i) ?_
    refine r_icmp_lt (tgt := 123) C dX5_beginTick_59 (by decide) (fun h8 => ?_) (fun h8 => ?_)
    · refine r_iinc (c := 1) (lv' := fun v9 => [(2, .int v9), (0, .ref (gA g 23 b 0)), (1, .int l1), (3, .ref (gA g 25 b l3i))]) C 2 dX5_beginTick_123 rfl (by decide) (by decide) (fun _ => rfl) (fun v9 => ?_)
      refine r_goto (tgt := 17) C dX5_beginTick_126 (by decide) ?_
      refine r_lv [1, 2, 0] rfl ?_
      exact hk17 v9 M
    · refine r_aload_n C 0 dX5_beginTick_62 rfl rfl ?_
      refine gf_23_0 C dX5_beginTick_63 u_328 (in_23 hb) ?_
      refine gf_0_10 C dX5_beginTick_66 u_223 (in_0 (lt85 hb)) ?_
      refine r_iload_n C 2 dX5_beginTick_69 rfl rfl ?_
      refine r_aald (t0 := 5) (ty := .array .int) C dX5_beginTick_70 (in_3 (lt85 hb)) (contW_3 g _ _ _ _ _) rfl rfl (fun h10 => ?_)
      refine r_iconst (v := 1) C dX5_beginTick_71 (by decide) ?_
      refine r_ialdc C dX5_beginTick_72 (in_4 (lt85 hb) (inb_lt h10)) (contW_4 g _ _ _ _ _) (by decide) (j := 1) (by decide) ?_
      refine r_aload_n C 0 dX5_beginTick_73 rfl rfl ?_
      refine gf_23_6 C dX5_beginTick_74 u_341 (in_23 hb) ?_
      refine r_callNRi (host := "WatchStack") (rest := []) C (c_X9_divides (M.1 4 (b + 5) l2.toNatClampNeg 1) (M.1 23 b 0 6) M) dX5_beginTick_77 (by decide +kernel) u_581 mi_X9_divides (by decide) rfl rfl (Nat.le_of_ble_eq_true rfl) (xk1 hm (by decide)) (xn1 hm (by decide)) (fun v11 h12 => ?_)
      refine r_if_eq (tgt := 123) C dX5_beginTick_80 (by decide) (fun h13 => ?_) (fun h13 => ?_)
      · refine r_iinc (c := 1) (lv' := fun v14 => [(2, .int v14), (0, .ref (gA g 23 b 0)), (1, .int l1), (3, .ref (gA g 25 b l3i))]) C 2 dX5_beginTick_123 rfl (by decide) (by decide) (fun _ => rfl) (fun v14 => ?_)
        refine r_goto (tgt := 17) C dX5_beginTick_126 (by decide) ?_
        refine r_lv [1, 2, 0] rfl ?_
        exact hk17 v14 M
      · refine r_aload_n C 3 dX5_beginTick_83 rfl rfl ?_
        refine gf_25_1 C dX5_beginTick_84 u_295 (in_25 hb hl3i) ?_
        refine r_bipush (v := 50) C dX5_beginTick_87 (by decide) ?_
        refine r_icmp_gt (tgt := 107) C dX5_beginTick_89 (by decide) (fun h15 => ?_) (fun h15 => ?_)
        · exact t_X5_beginTick_107 C hm hb k17 l1 l2 l3i hl3i hk17 M
        · refine r_aload_n C 0 dX5_beginTick_92 rfl rfl ?_
          refine gf_23_9 C dX5_beginTick_93 u_344 (in_23 hb) ?_
          refine r_iload_n C 2 dX5_beginTick_96 rfl rfl ?_
          refine r_aald (t0 := 5) (ty := .array .int) C dX5_beginTick_97 (in_29 hb) (contW_29 g _ _ _ _ _) rfl rfl (fun h20 => ?_)
          refine r_aload_n C 3 dX5_beginTick_98 rfl rfl ?_
          refine gf_25_1 C dX5_beginTick_99 u_295 (in_25 hb hl3i) ?_
          refine r_aload_n C 0 dX5_beginTick_102 rfl rfl ?_
          refine gf_23_6 C dX5_beginTick_103 u_341 (in_23 hb) ?_
          refine r_iast C dX5_beginTick_106 (in_30 hb (inb_lt h20)) (contW_30 g _ _) (fun M21 h22 => ?_)
          exact t_X5_beginTick_107 C hm hb k17 l1 l2 l3i hl3i hk17 M21
  · refine r_iinc (c := 1) (lv' := fun v7 => [(2, .int v7), (0, .ref (gA g 23 b 0)), (1, .int l1), (3, .ref (gA g 25 b l3i))]) C 2 dX5_beginTick_123 rfl (by decide) (by decide) (fun _ => rfl) (fun v7 => ?_)
    refine r_goto (tgt := 17) C dX5_beginTick_126 (by decide) ?_
    refine r_lv [1, 2, 0] rfl ?_
    exact hk17 v7 M
set_option maxRecDepth 100000 in
set_option maxHeartbeats 4000000 in
theorem t_X5_beginTick_17 {g : Gw} {x : Xw} (C : Cw g x cX5_beginTick RX5 4 none 3) (hm : x.2.2.2.2.2.2.2.2.2.2.2 = (0, 0)) {b : Nat} (hb : b < 3) (l1 : Int32) (k17 : Int32 → Mw → Option (Mw)) (hk17 : ∀ (l2 : Int32) (M : Mw), Sw g x (fun M : Mw => (none, M)) M 0 0 17 [(0, .ref (gA g 23 b 0)), (1, .int l1), (2, .int l2)] [] (k17 l2 M)) (l2 : Int32) (M : Mw) : Sw g x (fun M : Mw => (none, M)) M 0 0 17 [(0, .ref (gA g 23 b 0)), (1, .int l1), (2, .int l2)] [] (B_X5_beginTick_17 b l1 k17 l2 M) := by
  unfold B_X5_beginTick_17
  refine r_iload_n C 2 dX5_beginTick_17 rfl rfl ?_
  refine r_aload_n C 0 dX5_beginTick_18 rfl rfl ?_
  refine gf_23_0 C dX5_beginTick_19 u_328 (in_23 hb) ?_
  refine gf_0_5 C dX5_beginTick_22 u_202 (in_0 (lt85 hb)) ?_
  refine r_icmp_ge (tgt := 129) C dX5_beginTick_25 (by decide) (fun h3 => ?_) (fun h3 => ?_)
  · exact r_vret C dX5_beginTick_129 rfl rfl (xk0 hm) (xn0 hm)
  · refine r_aload_n C 0 dX5_beginTick_28 rfl rfl ?_
    refine gf_23_1 C dX5_beginTick_29 u_331 (in_23 hb) ?_
    refine r_iload_n C 2 dX5_beginTick_32 rfl rfl ?_
    refine r_aald (t0 := 7) (ty := .object "WatchStack$TaskState") C dX5_beginTick_33 (in_24 hb) (contW_24 g _ _ _ _ _) rfl rfl (fun h4 => ?_)
    refine r_astore_n (lv' := [(3, .ref (gA g 25 b l2.toNatClampNeg)), (0, .ref (gA g 23 b 0)), (1, .int l1), (2, .int l2)]) C dX5_beginTick_34 rfl (by decide) rfl ?_
    refine r_iload_n C 2 dX5_beginTick_35 rfl rfl ?_
    refine r_if_eq (tgt := 43) C dX5_beginTick_36 (by decide) (fun h5 => ?_) (fun h5 => ?_)
    · refine r_lv [1, 2, 3, 0] rfl ?_
      exact t_X5_beginTick_43 C hm hb k17 l1 l2 l2.toNatClampNeg (inb_lt h4) hk17 M
    · refine r_aload_n C 0 dX5_beginTick_39 rfl rfl ?_
      refine r_callVU (rest := []) C (c_X7_forgetCycle hb (inb_lt h4) M) dX5_beginTick_40 u_583 (in_25 hb (inb_lt h4)) (contW_25 g _ _ _ _ _) rfl u_563 u_564 mi_X7_forgetCycle (by decide) rfl rfl (Nat.le_of_ble_eq_true rfl) (xk1 hm (by decide)) (xn1 hm (by decide)) (fun M23 h24 => ?_)
      refine r_lv [1, 2, 3, 0] rfl ?_
      exact t_X5_beginTick_43 C hm hb k17 l1 l2 l2.toNatClampNeg (inb_lt h4) hk17 M23
set_option maxRecDepth 100000 in
set_option maxHeartbeats 4000000 in
theorem tl_X5_beginTick_17 {g : Gw} {x : Xw} (C : Cw g x cX5_beginTick RX5 4 none 3) (hm : x.2.2.2.2.2.2.2.2.2.2.2 = (0, 0)) {b : Nat} (hb : b < 3) (l1 : Int32) (n : Nat) : ∀ (l2 : Int32) (M : Mw), Sw g x (fun M : Mw => (none, M)) M 0 0 17 [(0, .ref (gA g 23 b 0)), (1, .int l1), (2, .int l2)] [] (it (fun _ _ => none) (B_X5_beginTick_17 b l1) n l2 M) := by
  induction n with
  | zero =>
    intro l2 M
    exact r_none
  | succ n ih =>
    intro l2 M
    exact t_X5_beginTick_17 C hm hb l1 _ ih l2 M
set_option maxRecDepth 100000 in
set_option maxHeartbeats 4000000 in
theorem c_X5_beginTick {g : Gw} {l : Launch} {b : Nat} (hb : b < 3) (M : Mw) : Kw g l yX5_beginTick cX5_beginTick 4 none 3 0 0 [.ref (gA g 23 b 0)] M (fun M : Mw => (none, M)) (F_X5_beginTick b M) := by
  refine Kw.of (own := RX5) (lv0 := [(0, .ref (gA g 23 b 0))]) (by decide +kernel) rfl (Nat.le_of_ble_eq_true rfl) rfl (fun x C hl hm => ?_)
  subst hl
  unfold F_X5_beginTick
  refine r_aload_n C 0 dX5_beginTick_0 rfl rfl ?_
  refine gf_23_0 C dX5_beginTick_1 u_328 (in_23 hb) ?_
  refine gf_0_1 C dX5_beginTick_4 u_186 (in_0 (lt85 hb)) ?_
  refine r_aload_n C 0 dX5_beginTick_7 rfl rfl ?_
  refine gf_23_6 C dX5_beginTick_8 u_341 (in_23 hb) ?_
  refine r_callNRi (host := "WatchStack") (rest := []) C (c_X9_divides (M.1 0 (b + 5) 0 1) (M.1 23 b 0 6) M) dX5_beginTick_11 (by decide +kernel) u_581 mi_X9_divides (by decide) rfl rfl (Nat.le_of_ble_eq_true rfl) (xk1 hm (by decide)) (xn1 hm (by decide)) (fun v1 h2 => ?_)
  refine r_istore_n0 (lv' := [(1, .int v1), (0, .ref (gA g 23 b 0))]) C dX5_beginTick_14 rfl (by decide) rfl ?_
  refine r_iconst (v := 0) C dX5_beginTick_15 (by decide) ?_
  refine r_istore_n0 (lv' := [(2, .int 0), (1, .int v1), (0, .ref (gA g 23 b 0))]) C dX5_beginTick_16 rfl (by decide) rfl ?_
  refine r_lv [2, 1, 0] rfl ?_
  exact tl_X5_beginTick_17 C hm hb v1 FU 0 M
def F_X7_wantsTick (b : Nat) (i : Nat) (M : Mw) : Option (Int32) :=
  (if (M.1 25 b i 2) = (-1) then some 0 else (if (M.1 25 b i 4) = 1 then some 0 else some 1))
set_option maxRecDepth 100000 in
set_option maxHeartbeats 4000000 in
theorem c_X7_wantsTick {g : Gw} {l : Launch} {b : Nat} (hb : b < 3) {i : Nat} (hi : i < 5) (M : Mw) : Kw g l yX7_wantsTick cX7_wantsTick 1 (some .boolean) 1 0 0 [.ref (gA g 25 b i)] M (fun v : Int32 => (some (.int v), M)) (F_X7_wantsTick b i M) := by
  refine Kw.of (own := RX7) (lv0 := [(0, .ref (gA g 25 b i))]) (by decide +kernel) rfl (Nat.le_of_ble_eq_true rfl) rfl (fun x C hl hm => ?_)
  subst hl
  unfold F_X7_wantsTick
  refine r_aload_n C 0 dX7_wantsTick_0 rfl rfl ?_
  refine gf_25_2 C dX7_wantsTick_1 u_297 (in_25 hb hi) ?_
  refine r_iconst (v := (-1)) C dX7_wantsTick_4 (by decide) ?_
  refine r_icmp_eq (tgt := 20) C dX7_wantsTick_5 (by decide) (fun h1 => ?_) (fun h1 => ?_)
  · refine r_iconst (v := 0) C dX7_wantsTick_20 (by decide) ?_
    exact r_zretc C dX7_wantsTick_21 rfl bz0 rfl (xk0 hm) (xn0 hm)
  · refine r_aload_n C 0 dX7_wantsTick_8 rfl rfl ?_
    refine gf_25_4 C dX7_wantsTick_9 u_302 (in_25 hb hi) ?_
    refine r_iconst (v := 1) C dX7_wantsTick_12 (by decide) ?_
    refine r_icmp_eq (tgt := 20) C dX7_wantsTick_13 (by decide) (fun h2 => ?_) (fun h2 => ?_)
    · refine r_iconst (v := 0) C dX7_wantsTick_20 (by decide) ?_
      exact r_zretc C dX7_wantsTick_21 rfl bz0 rfl (xk0 hm) (xn0 hm)
    · refine r_iconst (v := 1) C dX7_wantsTick_16 (by decide) ?_
      refine r_goto (tgt := 21) C dX7_wantsTick_17 (by decide) ?_
      exact r_zretc C dX7_wantsTick_21 rfl bz1 rfl (xk0 hm) (xn0 hm)
def B_X5_nextOwner_2 (b : Nat) (M : Mw) (k2 : Int32 → Option (Int32)) (l1 : Int32) : Option (Int32) :=
  (if (M.1 0 (b + 5) 0 5) ≤ l1 then some (-1) else (if inb l1 5 then ((F_X7_wantsTick b l1.toNatClampNeg M).bind (fun v3 => (if v3 = 0 then (bd (l1 + 1) (fun v6 => (k2 v6))) else some l1))) else none))
def F_X5_nextOwner (b : Nat) (M : Mw) : Option (Int32) :=
  (it (fun _ => none) (B_X5_nextOwner_2 b M) FU 0)
set_option maxRecDepth 100000 in
set_option maxHeartbeats 4000000 in
theorem t_X5_nextOwner_2 {g : Gw} {x : Xw} (C : Cw g x cX5_nextOwner RX5 2 (some .int) 2) (hm : x.2.2.2.2.2.2.2.2.2.2.2 = (0, 0)) {b : Nat} (hb : b < 3) (M : Mw) (k2 : Int32 → Option (Int32)) (hk2 : ∀ (l1 : Int32), Sw g x (fun v : Int32 => (some (.int v), M)) M 0 0 2 [(0, .ref (gA g 23 b 0)), (1, .int l1)] [] (k2 l1)) (l1 : Int32) : Sw g x (fun v : Int32 => (some (.int v), M)) M 0 0 2 [(0, .ref (gA g 23 b 0)), (1, .int l1)] [] (B_X5_nextOwner_2 b M k2 l1) := by
  unfold B_X5_nextOwner_2
  refine r_iload_n C 1 dX5_nextOwner_2 rfl rfl ?_
  refine r_aload_n C 0 dX5_nextOwner_3 rfl rfl ?_
  refine gf_23_0 C dX5_nextOwner_4 u_328 (in_23 hb) ?_
  refine gf_0_5 C dX5_nextOwner_7 u_202 (in_0 (lt85 hb)) ?_
  refine r_icmp_ge (tgt := 33) C dX5_nextOwner_10 (by decide) (fun h1 => ?_) (fun h1 => ?_)
  · refine r_iconst (v := (-1)) C dX5_nextOwner_33 (by decide) ?_
    exact r_iret C dX5_nextOwner_34 rfl rfl (xk0 hm) (xn0 hm)
  · refine r_aload_n C 0 dX5_nextOwner_13 rfl rfl ?_
    refine gf_23_1 C dX5_nextOwner_14 u_331 (in_23 hb) ?_
    refine r_iload_n C 1 dX5_nextOwner_17 rfl rfl ?_
    refine r_aald (t0 := 7) (ty := .object "WatchStack$TaskState") C dX5_nextOwner_18 (in_24 hb) (contW_24 g _ _ _ _ _) rfl rfl (fun h2 => ?_)
    refine r_callVRi (rest := []) C (c_X7_wantsTick hb (inb_lt h2) M) dX5_nextOwner_19 u_598 (in_25 hb (inb_lt h2)) (contW_25 g _ _ _ _ _) rfl u_599 u_600 mi_X7_wantsTick (by decide) rfl rfl (Nat.le_of_ble_eq_true rfl) (xk1 hm (by decide)) (xn1 hm (by decide)) (fun v3 h4 => ?_)
    refine r_if_eq (tgt := 27) C dX5_nextOwner_22 (by decide) (fun h5 => ?_) (fun h5 => ?_)
    · refine r_iinc (c := 1) (lv' := fun v6 => [(1, .int v6), (0, .ref (gA g 23 b 0))]) C 1 dX5_nextOwner_27 rfl (by decide) (by decide) (fun _ => rfl) (fun v6 => ?_)
      refine r_goto (tgt := 2) C dX5_nextOwner_30 (by decide) ?_
      refine r_lv [1, 0] rfl ?_
      exact hk2 v6
    · refine r_iload_n C 1 dX5_nextOwner_25 rfl rfl ?_
      exact r_iret C dX5_nextOwner_26 rfl rfl (xk0 hm) (xn0 hm)
set_option maxRecDepth 100000 in
set_option maxHeartbeats 4000000 in
theorem tl_X5_nextOwner_2 {g : Gw} {x : Xw} (C : Cw g x cX5_nextOwner RX5 2 (some .int) 2) (hm : x.2.2.2.2.2.2.2.2.2.2.2 = (0, 0)) {b : Nat} (hb : b < 3) (M : Mw) (n : Nat) : ∀ (l1 : Int32), Sw g x (fun v : Int32 => (some (.int v), M)) M 0 0 2 [(0, .ref (gA g 23 b 0)), (1, .int l1)] [] (it (fun _ => none) (B_X5_nextOwner_2 b M) n l1) := by
  induction n with
  | zero =>
    intro l1
    exact r_none
  | succ n ih =>
    intro l1
    exact t_X5_nextOwner_2 C hm hb M _ ih l1
set_option maxRecDepth 100000 in
set_option maxHeartbeats 4000000 in
theorem c_X5_nextOwner {g : Gw} {l : Launch} {b : Nat} (hb : b < 3) (M : Mw) : Kw g l yX5_nextOwner cX5_nextOwner 2 (some .int) 2 0 0 [.ref (gA g 23 b 0)] M (fun v : Int32 => (some (.int v), M)) (F_X5_nextOwner b M) := by
  refine Kw.of (own := RX5) (lv0 := [(0, .ref (gA g 23 b 0))]) (by decide +kernel) rfl (Nat.le_of_ble_eq_true rfl) rfl (fun x C hl hm => ?_)
  subst hl
  unfold F_X5_nextOwner
  refine r_iconst (v := 0) C dX5_nextOwner_0 (by decide) ?_
  refine r_istore_n0 (lv' := [(1, .int 0), (0, .ref (gA g 23 b 0))]) C dX5_nextOwner_1 rfl (by decide) rfl ?_
  refine r_lv [1, 0] rfl ?_
  exact tl_X5_nextOwner_2 C hm hb M FU 0
