def B_X10_caughtIn_153 (k65 : Int32 → Option (Int32)) (l2 : Int32) (l3 : Int32) (l4 : Int32) (l5 : Int32) (s0 : Int32) (M : Mw) : Option (Int32) :=
  (if s0 = 0 then (bd (l5 + 1) (fun v16 => (k65 v16))) else (if inb l5 4000 then (if (M.1 88 0 0 l5.toNatClampNeg) < l4 then (bd (l5 + 1) (fun v19 => (k65 v19))) else (if inb l5 4000 then some ((M.1 88 0 0 l5.toNatClampNeg) - l4) else none)) else none))
def B_X10_caughtIn_152 (k65 : Int32 → Option (Int32)) (l2 : Int32) (l3 : Int32) (l4 : Int32) (l5 : Int32) (M : Mw) : Option (Int32) :=
  (B_X10_caughtIn_153 k65 l2 l3 l4 l5 0 M)
def B_X10_caughtIn_121 (k65 : Int32 → Option (Int32)) (l2 : Int32) (l3 : Int32) (l4 : Int32) (l5 : Int32) (M : Mw) : Option (Int32) :=
  (B_X10_caughtIn_153 k65 l2 l3 l4 l5 0 M)
def B_X10_caughtIn_117 (k65 : Int32 → Option (Int32)) (l2 : Int32) (l3 : Int32) (l4 : Int32) (l5 : Int32) (M : Mw) : Option (Int32) :=
  (B_X10_caughtIn_153 k65 l2 l3 l4 l5 1 M)
def B_X10_caughtIn_101 (k65 : Int32 → Option (Int32)) (l2 : Int32) (l3 : Int32) (l4 : Int32) (l5 : Int32) (M : Mw) : Option (Int32) :=
  (if inb l5 4000 then (if (M.1 89 0 0 l5.toNatClampNeg) = 7 then (if l2 = 0 then (B_X10_caughtIn_117 k65 l2 l3 l4 l5 M) else (B_X10_caughtIn_121 k65 l2 l3 l4 l5 M)) else (B_X10_caughtIn_121 k65 l2 l3 l4 l5 M)) else none)
def B_X10_caughtIn_65 (l2 : Int32) (l3 : Int32) (l4 : Int32) (M : Mw) (k65 : Int32 → Option (Int32)) (l5 : Int32) : Option (Int32) :=
  (if (M.1 50 0 0 56) ≤ l5 then some (-1) else (if l3 = 0 then (if inb l5 4000 then (if 6 ≤ (M.1 89 0 0 l5.toNatClampNeg) then (B_X10_caughtIn_152 k65 l2 l3 l4 l5 M) else (if inb l5 4000 then (if (M.1 90 0 0 l5.toNatClampNeg) = l2 then (B_X10_caughtIn_153 k65 l2 l3 l4 l5 1 M) else (B_X10_caughtIn_152 k65 l2 l3 l4 l5 M)) else none)) else none) else (if inb l5 4000 then (if (M.1 89 0 0 l5.toNatClampNeg) = 6 then (if inb l5 4000 then (if (M.1 90 0 0 l5.toNatClampNeg) = l2 then (B_X10_caughtIn_117 k65 l2 l3 l4 l5 M) else (B_X10_caughtIn_101 k65 l2 l3 l4 l5 M)) else none) else (B_X10_caughtIn_101 k65 l2 l3 l4 l5 M)) else none)))
def B_X10_caughtIn_52 (l2 : Int32) (l3 : Int32) (s0 : Int32) (M : Mw) : Option (Int32) :=
  (if s0 = (-1) then some (-1) else (it (fun _ => none) (B_X10_caughtIn_65 l2 l3 s0 M) FU 0))
def B_X10_caughtIn_22 (l1 : Int32) (l2 : Int32) (s0 : Int32) (M : Mw) : Option (Int32) :=
  (if s0 = 0 then ((F_X10_of l1 2 M).bind (fun v7 => (if inb ((51 * l2) + v7) 255 then (B_X10_caughtIn_52 l2 s0 (M.1 83 0 0 ((51 * l2) + v7).toNatClampNeg) M) else none))) else ((F_X10_of l1 2 M).bind (fun v30 => (B_X10_caughtIn_52 l2 s0 v30 M))))
def F_X10_caughtIn (p1 : Int32) (M : Mw) : Option (Int32) :=
  ((F_X10_of p1 1 M).bind (fun v1 => ((F_X10_of p1 0 M).bind (fun v3 => (if v3 = 5 then (B_X10_caughtIn_22 p1 v1 1 M) else (B_X10_caughtIn_22 p1 v1 0 M))))))
set_option maxRecDepth 100000 in
set_option maxHeartbeats 4000000 in
theorem t_X10_caughtIn_153 {g : Gw} {x : Xw} (C : Cw g x cX10_caughtIn RX10 7 (some .int) 2) (hm : x.2.2.2.2.2.2.2.2.2.2.2 = (0, 0)) (M : Mw) (k65 : Int32 → Option (Int32)) (l2 : Int32) (l3 : Int32) (l4 : Int32) (l5 : Int32) (s0 : Int32) (hk65 : ∀ (l5 : Int32), Sw g x (fun v : Int32 => (some (.int v), M)) M 0 0 65 [(0, .ref (gA g 50 0 0)), (2, .int l2), (3, .int l3), (4, .int l4), (5, .int l5)] [] (k65 l5)) : Sw g x (fun v : Int32 => (some (.int v), M)) M 0 0 153 [(0, .ref (gA g 50 0 0)), (2, .int l2), (3, .int l3), (4, .int l4), (5, .int l5)] [.int s0] (B_X10_caughtIn_153 k65 l2 l3 l4 l5 s0 M) := by
  unfold B_X10_caughtIn_153
  refine r_istore0 (lv' := [(6, .int s0), (0, .ref (gA g 50 0 0)), (2, .int l2), (3, .int l3), (4, .int l4), (5, .int l5)]) C dX10_caughtIn_153 (by decide) rfl ?_
  refine r_iload C 0 dX10_caughtIn_155 rfl ?_
  refine r_if_eq (tgt := 183) C dX10_caughtIn_157 (by decide) (fun h15 => ?_) (fun h15 => ?_)
  · refine r_iinc (c := 1) (lv' := fun v16 => [(5, .int v16), (6, .int s0), (0, .ref (gA g 50 0 0)), (2, .int l2), (3, .int l3), (4, .int l4)]) C 5 dX10_caughtIn_183 rfl (by decide) (by decide) (fun _ => rfl) (fun v16 => ?_)
    refine r_goto (tgt := 65) C dX10_caughtIn_186 (by decide) ?_
    refine r_lv [2, 3, 4, 5, 0] rfl ?_
    exact hk65 v16
  · refine r_aload_n C 1 dX10_caughtIn_160 rfl rfl ?_
    refine gf_50_52 C dX10_caughtIn_161 u_1157 in_50 ?_
    refine r_iload C 5 dX10_caughtIn_164 rfl ?_
    refine r_iald C dX10_caughtIn_166 in_88 (contW_88 g _ _ _ _ _) (fun h17 => ?_)
    refine r_iload C 4 dX10_caughtIn_167 rfl ?_
    refine r_icmp_lt (tgt := 183) C dX10_caughtIn_169 (by decide) (fun h18 => ?_) (fun h18 => ?_)
    · refine r_iinc (c := 1) (lv' := fun v19 => [(5, .int v19), (6, .int s0), (0, .ref (gA g 50 0 0)), (2, .int l2), (3, .int l3), (4, .int l4)]) C 5 dX10_caughtIn_183 rfl (by decide) (by decide) (fun _ => rfl) (fun v19 => ?_)
      refine r_goto (tgt := 65) C dX10_caughtIn_186 (by decide) ?_
      refine r_lv [2, 3, 4, 5, 0] rfl ?_
      exact hk65 v19
    · refine r_aload_n C 1 dX10_caughtIn_172 rfl rfl ?_
      refine gf_50_52 C dX10_caughtIn_173 u_1157 in_50 ?_
      refine r_iload C 5 dX10_caughtIn_176 rfl ?_
      refine r_iald C dX10_caughtIn_178 in_88 (contW_88 g _ _ _ _ _) (fun h20 => ?_)
      refine r_iload C 4 dX10_caughtIn_179 rfl ?_
      refine r_isub C dX10_caughtIn_181 ?_
      exact r_iret C dX10_caughtIn_182 rfl rfl (xk0 hm) (xn0 hm)
set_option maxRecDepth 100000 in
set_option maxHeartbeats 4000000 in
theorem t_X10_caughtIn_152 {g : Gw} {x : Xw} (C : Cw g x cX10_caughtIn RX10 7 (some .int) 2) (hm : x.2.2.2.2.2.2.2.2.2.2.2 = (0, 0)) (M : Mw) (k65 : Int32 → Option (Int32)) (l2 : Int32) (l3 : Int32) (l4 : Int32) (l5 : Int32) (hk65 : ∀ (l5 : Int32), Sw g x (fun v : Int32 => (some (.int v), M)) M 0 0 65 [(0, .ref (gA g 50 0 0)), (2, .int l2), (3, .int l3), (4, .int l4), (5, .int l5)] [] (k65 l5)) : Sw g x (fun v : Int32 => (some (.int v), M)) M 0 0 152 [(0, .ref (gA g 50 0 0)), (2, .int l2), (3, .int l3), (4, .int l4), (5, .int l5)] [] (B_X10_caughtIn_152 k65 l2 l3 l4 l5 M) := by
  unfold B_X10_caughtIn_152
  refine r_iconst (v := 0) C dX10_caughtIn_152 (by decide) ?_
  exact t_X10_caughtIn_153 C hm M k65 l2 l3 l4 l5 0 hk65
set_option maxRecDepth 100000 in
set_option maxHeartbeats 4000000 in
theorem t_X10_caughtIn_121 {g : Gw} {x : Xw} (C : Cw g x cX10_caughtIn RX10 7 (some .int) 2) (hm : x.2.2.2.2.2.2.2.2.2.2.2 = (0, 0)) (M : Mw) (k65 : Int32 → Option (Int32)) (l2 : Int32) (l3 : Int32) (l4 : Int32) (l5 : Int32) (hk65 : ∀ (l5 : Int32), Sw g x (fun v : Int32 => (some (.int v), M)) M 0 0 65 [(0, .ref (gA g 50 0 0)), (2, .int l2), (3, .int l3), (4, .int l4), (5, .int l5)] [] (k65 l5)) : Sw g x (fun v : Int32 => (some (.int v), M)) M 0 0 121 [(0, .ref (gA g 50 0 0)), (2, .int l2), (3, .int l3), (4, .int l4), (5, .int l5)] [] (B_X10_caughtIn_121 k65 l2 l3 l4 l5 M) := by
  unfold B_X10_caughtIn_121
  refine r_iconst (v := 0) C dX10_caughtIn_121 (by decide) ?_
  refine r_goto (tgt := 153) C dX10_caughtIn_122 (by decide) ?_
  exact t_X10_caughtIn_153 C hm M k65 l2 l3 l4 l5 0 hk65
set_option maxRecDepth 100000 in
set_option maxHeartbeats 4000000 in
theorem t_X10_caughtIn_117 {g : Gw} {x : Xw} (C : Cw g x cX10_caughtIn RX10 7 (some .int) 2) (hm : x.2.2.2.2.2.2.2.2.2.2.2 = (0, 0)) (M : Mw) (k65 : Int32 → Option (Int32)) (l2 : Int32) (l3 : Int32) (l4 : Int32) (l5 : Int32) (hk65 : ∀ (l5 : Int32), Sw g x (fun v : Int32 => (some (.int v), M)) M 0 0 65 [(0, .ref (gA g 50 0 0)), (2, .int l2), (3, .int l3), (4, .int l4), (5, .int l5)] [] (k65 l5)) : Sw g x (fun v : Int32 => (some (.int v), M)) M 0 0 117 [(0, .ref (gA g 50 0 0)), (2, .int l2), (3, .int l3), (4, .int l4), (5, .int l5)] [] (B_X10_caughtIn_117 k65 l2 l3 l4 l5 M) := by
  unfold B_X10_caughtIn_117
  refine r_iconst (v := 1) C dX10_caughtIn_117 (by decide) ?_
  refine r_goto (tgt := 153) C dX10_caughtIn_118 (by decide) ?_
  exact t_X10_caughtIn_153 C hm M k65 l2 l3 l4 l5 1 hk65
set_option maxRecDepth 100000 in
set_option maxHeartbeats 4000000 in
theorem t_X10_caughtIn_101 {g : Gw} {x : Xw} (C : Cw g x cX10_caughtIn RX10 7 (some .int) 2) (hm : x.2.2.2.2.2.2.2.2.2.2.2 = (0, 0)) (M : Mw) (k65 : Int32 → Option (Int32)) (l2 : Int32) (l3 : Int32) (l4 : Int32) (l5 : Int32) (hk65 : ∀ (l5 : Int32), Sw g x (fun v : Int32 => (some (.int v), M)) M 0 0 65 [(0, .ref (gA g 50 0 0)), (2, .int l2), (3, .int l3), (4, .int l4), (5, .int l5)] [] (k65 l5)) : Sw g x (fun v : Int32 => (some (.int v), M)) M 0 0 101 [(0, .ref (gA g 50 0 0)), (2, .int l2), (3, .int l3), (4, .int l4), (5, .int l5)] [] (B_X10_caughtIn_101 k65 l2 l3 l4 l5 M) := by
  unfold B_X10_caughtIn_101
  refine r_aload_n C 0 dX10_caughtIn_101 rfl rfl ?_
  refine gf_50_53 C dX10_caughtIn_102 u_1158 in_50 ?_
  refine r_iload C 4 dX10_caughtIn_105 rfl ?_
  refine r_iald C dX10_caughtIn_107 in_89 (contW_89 g _ _ _ _ _) (fun h25 => ?_)
  refine r_bipush (v := 7) C dX10_caughtIn_108 (by decide) ?_
  refine r_icmp_ne (tgt := 121) C dX10_caughtIn_110 (by decide) (fun h26 => ?_) (fun h26 => ?_)
  · refine r_iload_n C 1 dX10_caughtIn_113 rfl rfl ?_
    refine r_if_ne (tgt := 121) C dX10_caughtIn_114 (by decide) (fun h27 => ?_) (fun h27 => ?_)
    · exact t_X10_caughtIn_117 C hm M k65 l2 l3 l4 l5 hk65
    · exact t_X10_caughtIn_121 C hm M k65 l2 l3 l4 l5 hk65
  · exact t_X10_caughtIn_121 C hm M k65 l2 l3 l4 l5 hk65
set_option maxRecDepth 100000 in
set_option maxHeartbeats 4000000 in
theorem t_X10_caughtIn_65 {g : Gw} {x : Xw} (C : Cw g x cX10_caughtIn RX10 7 (some .int) 2) (hm : x.2.2.2.2.2.2.2.2.2.2.2 = (0, 0)) (M : Mw) (l2 : Int32) (l3 : Int32) (l4 : Int32) (k65 : Int32 → Option (Int32)) (hk65 : ∀ (l5 : Int32), Sw g x (fun v : Int32 => (some (.int v), M)) M 0 0 65 [(0, .ref (gA g 50 0 0)), (2, .int l2), (3, .int l3), (4, .int l4), (5, .int l5)] [] (k65 l5)) (l5 : Int32) : Sw g x (fun v : Int32 => (some (.int v), M)) M 0 0 65 [(0, .ref (gA g 50 0 0)), (2, .int l2), (3, .int l3), (4, .int l4), (5, .int l5)] [] (B_X10_caughtIn_65 l2 l3 l4 M k65 l5) := by
  unfold B_X10_caughtIn_65
  refine r_iload C 4 dX10_caughtIn_65 rfl ?_
  refine r_aload_n C 0 dX10_caughtIn_67 rfl rfl ?_
  refine gf_50_56 C dX10_caughtIn_68 u_1161 in_50 ?_
  refine r_icmp_ge (tgt := 189) C dX10_caughtIn_71 (by decide) (fun h11 => ?_) (fun h11 => ?_)
  · refine r_iconst (v := (-1)) C dX10_caughtIn_189 (by decide) ?_
    exact r_iret C dX10_caughtIn_190 rfl rfl (xk0 hm) (xn0 hm)
  · refine r_iload_n C 2 dX10_caughtIn_74 rfl rfl ?_
    refine r_if_eq (tgt := 125) C dX10_caughtIn_75 (by decide) (fun h12 => ?_) (fun h12 => ?_)
    · refine r_aload_n C 0 dX10_caughtIn_125 rfl rfl ?_
      refine gf_50_53 C dX10_caughtIn_126 u_1158 in_50 ?_
      refine r_iload C 4 dX10_caughtIn_129 rfl ?_
      refine r_iald C dX10_caughtIn_131 in_89 (contW_89 g _ _ _ _ _) (fun h13 => ?_)
      refine r_bipush (v := 6) C dX10_caughtIn_132 (by decide) ?_
      refine r_icmp_ge (tgt := 152) C dX10_caughtIn_134 (by decide) (fun h14 => ?_) (fun h14 => ?_)
      · exact t_X10_caughtIn_152 C hm M k65 l2 l3 l4 l5 hk65
      · refine r_aload_n C 0 dX10_caughtIn_137 rfl rfl ?_
        refine gf_50_54 C dX10_caughtIn_138 u_1159 in_50 ?_
        refine r_iload C 4 dX10_caughtIn_141 rfl ?_
        refine r_iald C dX10_caughtIn_143 in_90 (contW_90 g _ _ _ _ _) (fun h21 => ?_)
        refine r_iload_n C 1 dX10_caughtIn_144 rfl rfl ?_
        refine r_icmp_ne (tgt := 152) C dX10_caughtIn_145 (by decide) (fun h22 => ?_) (fun h22 => ?_)
        · refine r_iconst (v := 1) C dX10_caughtIn_148 (by decide) ?_
          refine r_goto (tgt := 153) C dX10_caughtIn_149 (by decide) ?_
          exact t_X10_caughtIn_153 C hm M k65 l2 l3 l4 l5 1 hk65
        · exact t_X10_caughtIn_152 C hm M k65 l2 l3 l4 l5 hk65
    · refine r_aload_n C 0 dX10_caughtIn_78 rfl rfl ?_
      refine gf_50_53 C dX10_caughtIn_79 u_1158 in_50 ?_
      refine r_iload C 4 dX10_caughtIn_82 rfl ?_
      refine r_iald C dX10_caughtIn_84 in_89 (contW_89 g _ _ _ _ _) (fun h23 => ?_)
      refine r_bipush (v := 6) C dX10_caughtIn_85 (by decide) ?_
      refine r_icmp_ne (tgt := 101) C dX10_caughtIn_87 (by decide) (fun h24 => ?_) (fun h24 => ?_)
      · refine r_aload_n C 0 dX10_caughtIn_90 rfl rfl ?_
        refine gf_50_54 C dX10_caughtIn_91 u_1159 in_50 ?_
        refine r_iload C 4 dX10_caughtIn_94 rfl ?_
        refine r_iald C dX10_caughtIn_96 in_90 (contW_90 g _ _ _ _ _) (fun h28 => ?_)
        refine r_iload_n C 1 dX10_caughtIn_97 rfl rfl ?_
        refine r_icmp_eq (tgt := 117) C dX10_caughtIn_98 (by decide) (fun h29 => ?_) (fun h29 => ?_)
        · exact t_X10_caughtIn_117 C hm M k65 l2 l3 l4 l5 hk65
        · exact t_X10_caughtIn_101 C hm M k65 l2 l3 l4 l5 hk65
      · exact t_X10_caughtIn_101 C hm M k65 l2 l3 l4 l5 hk65
set_option maxRecDepth 100000 in
set_option maxHeartbeats 4000000 in
theorem tl_X10_caughtIn_65 {g : Gw} {x : Xw} (C : Cw g x cX10_caughtIn RX10 7 (some .int) 2) (hm : x.2.2.2.2.2.2.2.2.2.2.2 = (0, 0)) (M : Mw) (l2 : Int32) (l3 : Int32) (l4 : Int32) (n : Nat) : ∀ (l5 : Int32), Sw g x (fun v : Int32 => (some (.int v), M)) M 0 0 65 [(0, .ref (gA g 50 0 0)), (2, .int l2), (3, .int l3), (4, .int l4), (5, .int l5)] [] (it (fun _ => none) (B_X10_caughtIn_65 l2 l3 l4 M) n l5) := by
  induction n with
  | zero =>
    intro l5
    exact r_none
  | succ n ih =>
    intro l5
    exact t_X10_caughtIn_65 C hm M l2 l3 l4 _ ih l5
set_option maxRecDepth 100000 in
set_option maxHeartbeats 4000000 in
theorem t_X10_caughtIn_52 {g : Gw} {x : Xw} (C : Cw g x cX10_caughtIn RX10 7 (some .int) 2) (hm : x.2.2.2.2.2.2.2.2.2.2.2 = (0, 0)) (M : Mw) (l2 : Int32) (l3 : Int32) (s0 : Int32) : Sw g x (fun v : Int32 => (some (.int v), M)) M 0 0 52 [(0, .ref (gA g 50 0 0)), (2, .int l2), (3, .int l3)] [.int s0] (B_X10_caughtIn_52 l2 l3 s0 M) := by
  unfold B_X10_caughtIn_52
  refine r_istore0 (lv' := [(4, .int s0), (0, .ref (gA g 50 0 0)), (2, .int l2), (3, .int l3)]) C dX10_caughtIn_52 (by decide) rfl ?_
  refine r_iload C 0 dX10_caughtIn_54 rfl ?_
  refine r_iconst (v := (-1)) C dX10_caughtIn_56 (by decide) ?_
  refine r_icmp_ne (tgt := 62) C dX10_caughtIn_57 (by decide) (fun h10 => ?_) (fun h10 => ?_)
  · refine r_iconst (v := (-1)) C dX10_caughtIn_60 (by decide) ?_
    exact r_iret C dX10_caughtIn_61 rfl rfl (xk0 hm) (xn0 hm)
  · refine r_iconst (v := 0) C dX10_caughtIn_62 (by decide) ?_
    refine r_istore0 (lv' := [(5, .int 0), (4, .int s0), (0, .ref (gA g 50 0 0)), (2, .int l2), (3, .int l3)]) C dX10_caughtIn_63 (by decide) rfl ?_
    refine r_lv [2, 3, 4, 1, 0] rfl ?_
    exact tl_X10_caughtIn_65 C hm M l2 l3 s0 FU 0
set_option maxRecDepth 100000 in
set_option maxHeartbeats 4000000 in
theorem t_X10_caughtIn_22 {g : Gw} {x : Xw} (C : Cw g x cX10_caughtIn RX10 7 (some .int) 2) (hm : x.2.2.2.2.2.2.2.2.2.2.2 = (0, 0)) (M : Mw) (l1 : Int32) (l2 : Int32) (s0 : Int32) : Sw g x (fun v : Int32 => (some (.int v), M)) M 0 0 22 [(0, .ref (gA g 50 0 0)), (1, .int l1), (2, .int l2)] [.int s0] (B_X10_caughtIn_22 l1 l2 s0 M) := by
  unfold B_X10_caughtIn_22
  refine r_istore_n0 (lv' := [(3, .int s0), (0, .ref (gA g 50 0 0)), (1, .int l1), (2, .int l2)]) C dX10_caughtIn_22 rfl (by decide) rfl ?_
  refine r_iload_n C 0 dX10_caughtIn_23 rfl rfl ?_
  refine r_if_eq (tgt := 36) C dX10_caughtIn_24 (by decide) (fun h6 => ?_) (fun h6 => ?_)
  · refine r_aload_n C 1 dX10_caughtIn_36 rfl rfl ?_
    refine gf_50_47 C dX10_caughtIn_37 u_1152 in_50 ?_
    refine r_bipush (v := 51) C dX10_caughtIn_40 (by decide) ?_
    refine r_iload_n C 3 dX10_caughtIn_42 rfl rfl ?_
    refine r_imul C dX10_caughtIn_43 ?_
    refine r_aload_n C 1 dX10_caughtIn_44 rfl rfl ?_
    refine r_iload_n C 2 dX10_caughtIn_45 rfl rfl ?_
    refine r_iconst (v := 2) C dX10_caughtIn_46 (by decide) ?_
    refine r_callVRi (rest := [.int (51 * l2), .ref (gA g 83 0 0)]) C (c_X10_of l1 2 M) dX10_caughtIn_47 u_1304 in_50 (contW_50 g _ _ _ _ _) rfl u_1305 u_74 mi_X10_of (by decide) rfl rfl (Nat.le_of_ble_eq_true rfl) (xk1 hm (by decide)) (xn1 hm (by decide)) (fun v7 h8 => ?_)
    refine r_iadd C dX10_caughtIn_50 ?_
    refine r_iald C dX10_caughtIn_51 in_83 (contW_83 g _ _ _ _ _) (fun h9 => ?_)
    refine r_lv [1, 3, 0] rfl ?_
    exact t_X10_caughtIn_52 C hm M l2 s0 (M.1 83 0 0 ((51 * l2) + v7).toNatClampNeg)
  · refine r_aload_n C 1 dX10_caughtIn_27 rfl rfl ?_
    refine r_iload_n C 2 dX10_caughtIn_28 rfl rfl ?_
    refine r_iconst (v := 2) C dX10_caughtIn_29 (by decide) ?_
    refine r_callVRi (rest := []) C (c_X10_of l1 2 M) dX10_caughtIn_30 u_1304 in_50 (contW_50 g _ _ _ _ _) rfl u_1305 u_74 mi_X10_of (by decide) rfl rfl (Nat.le_of_ble_eq_true rfl) (xk1 hm (by decide)) (xn1 hm (by decide)) (fun v30 h31 => ?_)
    refine r_goto (tgt := 52) C dX10_caughtIn_33 (by decide) ?_
    refine r_lv [1, 3, 0] rfl ?_
    exact t_X10_caughtIn_52 C hm M l2 s0 v30
set_option maxRecDepth 100000 in
set_option maxHeartbeats 4000000 in
theorem c_X10_caughtIn {g : Gw} {l : Launch} (p1 : Int32) (M : Mw) : Kw g l yX10_caughtIn cX10_caughtIn 7 (some .int) 2 0 0 [.ref (gA g 50 0 0), .int p1] M (fun v : Int32 => (some (.int v), M)) (F_X10_caughtIn p1 M) := by
  refine Kw.of (own := RX10) (lv0 := [(0, .ref (gA g 50 0 0)), (1, .int p1)]) (by decide +kernel) rfl (Nat.le_of_ble_eq_true rfl) rfl (fun x C hl hm => ?_)
  subst hl
  unfold F_X10_caughtIn
  refine r_aload_n C 0 dX10_caughtIn_0 rfl rfl ?_
  refine r_iload_n C 1 dX10_caughtIn_1 rfl rfl ?_
  refine r_iconst (v := 1) C dX10_caughtIn_2 (by decide) ?_
  refine r_callVRi (rest := []) C (c_X10_of p1 1 M) dX10_caughtIn_3 u_1304 in_50 (contW_50 g _ _ _ _ _) rfl u_1305 u_74 mi_X10_of (by decide) rfl rfl (Nat.le_of_ble_eq_true rfl) (xk1 hm (by decide)) (xn1 hm (by decide)) (fun v1 h2 => ?_)
  refine r_istore_n0 (lv' := [(2, .int v1), (0, .ref (gA g 50 0 0)), (1, .int p1)]) C dX10_caughtIn_6 rfl (by decide) rfl ?_
  refine r_aload_n C 1 dX10_caughtIn_7 rfl rfl ?_
  refine r_iload_n C 2 dX10_caughtIn_8 rfl rfl ?_
  refine r_iconst (v := 0) C dX10_caughtIn_9 (by decide) ?_
  refine r_callVRi (rest := []) C (c_X10_of p1 0 M) dX10_caughtIn_10 u_1304 in_50 (contW_50 g _ _ _ _ _) rfl u_1305 u_74 mi_X10_of (by decide) rfl rfl (Nat.le_of_ble_eq_true rfl) (xk1 hm (by decide)) (xn1 hm (by decide)) (fun v3 h4 => ?_)
  refine r_iconst (v := 5) C dX10_caughtIn_13 (by decide) ?_
  refine r_icmp_ne (tgt := 21) C dX10_caughtIn_14 (by decide) (fun h5 => ?_) (fun h5 => ?_)
  · refine r_iconst (v := 1) C dX10_caughtIn_17 (by decide) ?_
    refine r_goto (tgt := 22) C dX10_caughtIn_18 (by decide) ?_
    refine r_lv [1, 2, 0] rfl ?_
    exact t_X10_caughtIn_22 C hm M p1 v1 1
  · refine r_iconst (v := 0) C dX10_caughtIn_21 (by decide) ?_
    refine r_lv [1, 2, 0] rfl ?_
    exact t_X10_caughtIn_22 C hm M p1 v1 0
def F_X10_caught (p1 : Int32) (M : Mw) : Option (Int32 × Mw) :=
  ((F_X10_isInjection p1 M).bind (fun v1 => (if v1 = 0 then some ((-2), M) else ((F_X10_asks M).bind (fun q4 => (if q4.1 = 0 then some ((-2), q4.2) else ((F_X10_caughtIn p1 q4.2).bind (fun v7 => some (v7, q4.2)))))))))
set_option maxRecDepth 100000 in
set_option maxHeartbeats 4000000 in
theorem c_X10_caught {g : Gw} {l : Launch} (p1 : Int32) (M : Mw) : Kw g l yX10_caught cX10_caught 2 (some .int) 12 0 0 [.ref (gA g 50 0 0), .int p1] M (fun q : Int32 × Mw => (some (.int q.1), q.2)) (F_X10_caught p1 M) := by
  refine Kw.of (own := RX10) (lv0 := [(0, .ref (gA g 50 0 0)), (1, .int p1)]) (by decide +kernel) rfl (Nat.le_of_ble_eq_true rfl) rfl (fun x C hl hm => ?_)
  subst hl
  unfold F_X10_caught
  refine r_aload_n C 0 dX10_caught_0 rfl rfl ?_
  refine r_iload_n C 1 dX10_caught_1 rfl rfl ?_
  refine r_callVRi (rest := []) C (c_X10_isInjection p1 M) dX10_caught_2 u_1601 in_50 (contW_50 g _ _ _ _ _) rfl u_1602 u_117 mi_X10_isInjection (by decide) rfl rfl (Nat.le_of_ble_eq_true rfl) (xk1 hm (by decide)) (xn1 hm (by decide)) (fun v1 h2 => ?_)
  refine r_if_eq (tgt := 23) C dX10_caught_5 (by decide) (fun h3 => ?_) (fun h3 => ?_)
  · refine r_bipush (v := (-2)) C dX10_caught_23 (by decide) ?_
    exact r_iret C dX10_caught_25 rfl rfl (xk0 hm) (xn0 hm)
  · refine r_aload_n C 0 dX10_caught_8 rfl rfl ?_
    refine r_callVWi (rest := []) C (c_X10_asks M) dX10_caught_9 u_1415 in_50 (contW_50 g _ _ _ _ _) rfl u_1416 u_88 mi_X10_asks (by decide) rfl rfl (Nat.le_of_ble_eq_true rfl) (xk1 hm (by decide)) (xn1 hm (by decide)) (fun q4 h5 => ?_)
    refine r_if_eq (tgt := 23) C dX10_caught_12 (by decide) (fun h6 => ?_) (fun h6 => ?_)
    · refine r_bipush (v := (-2)) C dX10_caught_23 (by decide) ?_
      exact r_iret C dX10_caught_25 rfl rfl (xk0 hm) (xn0 hm)
    · refine r_aload_n C 0 dX10_caught_15 rfl rfl ?_
      refine r_iload_n C 1 dX10_caught_16 rfl rfl ?_
      refine r_callVRi (rest := []) C (c_X10_caughtIn p1 q4.2) dX10_caught_17 u_1604 in_50 (contW_50 g _ _ _ _ _) rfl u_1605 u_118 mi_X10_caughtIn (by decide) rfl rfl (Nat.le_of_ble_eq_true rfl) (xk1 hm (by decide)) (xn1 hm (by decide)) (fun v7 h8 => ?_)
      refine r_goto (tgt := 25) C dX10_caught_20 (by decide) ?_
      exact r_iret C dX10_caught_25 rfl rfl (xk0 hm) (xn0 hm)
def F_X10_recordsWithout (p1 : Int32) (M : Mw) : Option (Int32 × Mw) :=
  ((F_X10_asTold M).bind (fun M1 => (bd (uIw M1 50 0 0 23 p1) (fun M3 => ((F_X10_runs (M3.1 51 0 0 0) M3).bind (fun M4 => some ((M4.1 50 0 0 56), M4)))))))
set_option maxRecDepth 100000 in
set_option maxHeartbeats 4000000 in
theorem c_X10_recordsWithout {g : Gw} {l : Launch} (p1 : Int32) (M : Mw) : Kw g l yX10_recordsWithout cX10_recordsWithout 2 (some .int) 11 0 0 [.ref (gA g 50 0 0), .int p1] M (fun q : Int32 × Mw => (some (.int q.1), q.2)) (F_X10_recordsWithout p1 M) := by
  refine Kw.of (own := RX10) (lv0 := [(0, .ref (gA g 50 0 0)), (1, .int p1)]) (by decide +kernel) rfl (Nat.le_of_ble_eq_true rfl) rfl (fun x C hl hm => ?_)
  subst hl
  unfold F_X10_recordsWithout
  refine r_aload_n C 0 dX10_recordsWithout_0 rfl rfl ?_
  refine r_callVU (rest := []) C (c_X10_asTold M) dX10_recordsWithout_1 u_1418 in_50 (contW_50 g _ _ _ _ _) rfl u_1419 u_89 mi_X10_asTold (by decide) rfl rfl (Nat.le_of_ble_eq_true rfl) (xk1 hm (by decide)) (xn1 hm (by decide)) (fun M1 h2 => ?_)
  refine r_aload_n C 0 dX10_recordsWithout_4 rfl rfl ?_
  refine r_iload_n C 1 dX10_recordsWithout_5 rfl rfl ?_
  refine pf_50_23 C dX10_recordsWithout_6 u_1128 in_50 (fun M3 => ?_)
  refine r_aload_n C 0 dX10_recordsWithout_9 rfl rfl ?_
  refine r_aload_n C 0 dX10_recordsWithout_10 rfl rfl ?_
  refine gf_50_1 C dX10_recordsWithout_11 u_1106 in_50 ?_
  refine r_iconst (v := 0) C dX10_recordsWithout_14 (by decide) ?_
  refine r_ialdc C dX10_recordsWithout_15 in_51 (contW_51 g _ _ _ _ _) (by decide) (j := 0) (by decide) ?_
  refine r_callVU (rest := []) C (c_X10_runs (M3.1 51 0 0 0) M3) dX10_recordsWithout_16 u_1421 in_50 (contW_50 g _ _ _ _ _) rfl u_1422 u_90 mi_X10_runs (by decide) rfl rfl (Nat.le_of_ble_eq_true rfl) (xk1 hm (by decide)) (xn1 hm (by decide)) (fun M4 h5 => ?_)
  refine r_aload_n C 0 dX10_recordsWithout_19 rfl rfl ?_
  refine gf_50_56 C dX10_recordsWithout_20 u_1161 in_50 ?_
  exact r_iret C dX10_recordsWithout_23 rfl rfl (xk0 hm) (xn0 hm)
def F_X10_without (p1 : Int32) (M : Mw) : Option (Int32 × Mw) :=
  ((F_X10_isInjection p1 M).bind (fun v1 => (if v1 = 0 then some ((-2), M) else ((F_X10_recordsWithout p1 M).bind (fun q4 => some (q4.1, q4.2))))))
set_option maxRecDepth 100000 in
set_option maxHeartbeats 4000000 in
theorem c_X10_without {g : Gw} {l : Launch} (p1 : Int32) (M : Mw) : Kw g l yX10_without cX10_without 2 (some .int) 12 0 0 [.ref (gA g 50 0 0), .int p1] M (fun q : Int32 × Mw => (some (.int q.1), q.2)) (F_X10_without p1 M) := by
  refine Kw.of (own := RX10) (lv0 := [(0, .ref (gA g 50 0 0)), (1, .int p1)]) (by decide +kernel) rfl (Nat.le_of_ble_eq_true rfl) rfl (fun x C hl hm => ?_)
  subst hl
  unfold F_X10_without
  refine r_aload_n C 0 dX10_without_0 rfl rfl ?_
  refine r_iload_n C 1 dX10_without_1 rfl rfl ?_
  refine r_callVRi (rest := []) C (c_X10_isInjection p1 M) dX10_without_2 u_1601 in_50 (contW_50 g _ _ _ _ _) rfl u_1602 u_117 mi_X10_isInjection (by decide) rfl rfl (Nat.le_of_ble_eq_true rfl) (xk1 hm (by decide)) (xn1 hm (by decide)) (fun v1 h2 => ?_)
  refine r_if_eq (tgt := 16) C dX10_without_5 (by decide) (fun h3 => ?_) (fun h3 => ?_)
  · refine r_bipush (v := (-2)) C dX10_without_16 (by decide) ?_
    exact r_iret C dX10_without_18 rfl rfl (xk0 hm) (xn0 hm)
  · refine r_aload_n C 0 dX10_without_8 rfl rfl ?_
    refine r_iload_n C 1 dX10_without_9 rfl rfl ?_
    refine r_callVWi (rest := []) C (c_X10_recordsWithout p1 M) dX10_without_10 u_1611 in_50 (contW_50 g _ _ _ _ _) rfl u_1612 u_119 mi_X10_recordsWithout (by decide) rfl rfl (Nat.le_of_ble_eq_true rfl) (xk1 hm (by decide)) (xn1 hm (by decide)) (fun q4 h5 => ?_)
    refine r_goto (tgt := 18) C dX10_without_13 (by decide) ?_
    exact r_iret C dX10_without_18 rfl rfl (xk0 hm) (xn0 hm)
def B_X10_blame_19 (k19 : Int32 → Int32 → Int32 → Mw → Option (Int32 × Mw)) (l1 : Int32) (l2 : Int32) (l3 : Int32) (M : Mw) : Option (Int32 × Mw) :=
  ((F_X10_many M).bind (fun v5 => (if v5 ≤ l3 then some (l1, M) else ((F_X10_recordsWithout l3 M).bind (fun q8 => (bd q8.1 (fun v10 => (if v10 < l2 then (bd (l3 + 1) (fun v12 => (k19 l3 v10 v12 q8.2))) else (bd (l3 + 1) (fun v13 => (k19 l1 l2 v13 q8.2)))))))))))
def F_X10_blame (M : Mw) : Option (Int32 × Mw) :=
  ((F_X10_asks M).bind (fun q1 => (if q1.1 = 0 then some ((-2), q1.2) else (bd (q1.2.1 50 0 0 56) (fun v4 => (it (fun _ _ _ _ => none) (B_X10_blame_19) FU (-1) v4 0 q1.2))))))
set_option maxRecDepth 100000 in
set_option maxHeartbeats 4000000 in
theorem t_X10_blame_19 {g : Gw} {x : Xw} (C : Cw g x cX10_blame RX10 5 (some .int) 12) (hm : x.2.2.2.2.2.2.2.2.2.2.2 = (0, 0)) (k19 : Int32 → Int32 → Int32 → Mw → Option (Int32 × Mw)) (hk19 : ∀ (l1 : Int32) (l2 : Int32) (l3 : Int32) (M : Mw), Sw g x (fun q : Int32 × Mw => (some (.int q.1), q.2)) M 0 0 19 [(0, .ref (gA g 50 0 0)), (1, .int l1), (2, .int l2), (3, .int l3)] [] (k19 l1 l2 l3 M)) (l1 : Int32) (l2 : Int32) (l3 : Int32) (M : Mw) : Sw g x (fun q : Int32 × Mw => (some (.int q.1), q.2)) M 0 0 19 [(0, .ref (gA g 50 0 0)), (1, .int l1), (2, .int l2), (3, .int l3)] [] (B_X10_blame_19 k19 l1 l2 l3 M) := by
  unfold B_X10_blame_19
  refine r_iload_n C 3 dX10_blame_19 rfl rfl ?_
  refine r_aload_n C 0 dX10_blame_20 rfl rfl ?_
  refine r_callVRi (rest := [.int l3]) C (c_X10_many M) dX10_blame_21 u_1300 in_50 (contW_50 g _ _ _ _ _) rfl u_1301 u_73 mi_X10_many (by decide) rfl rfl (Nat.le_of_ble_eq_true rfl) (xk1 hm (by decide)) (xn1 hm (by decide)) (fun v5 h6 => ?_)
  refine r_icmp_ge (tgt := 54) C dX10_blame_24 (by decide) (fun h7 => ?_) (fun h7 => ?_)
  · refine r_iload_n C 1 dX10_blame_54 rfl rfl ?_
    exact r_iret C dX10_blame_55 rfl rfl (xk0 hm) (xn0 hm)
  · refine r_aload_n C 0 dX10_blame_27 rfl rfl ?_
    refine r_iload_n C 3 dX10_blame_28 rfl rfl ?_
    refine r_callVWi (rest := []) C (c_X10_recordsWithout l3 M) dX10_blame_29 u_1611 in_50 (contW_50 g _ _ _ _ _) rfl u_1612 u_119 mi_X10_recordsWithout (by decide) rfl rfl (Nat.le_of_ble_eq_true rfl) (xk1 hm (by decide)) (xn1 hm (by decide)) (fun q8 h9 => ?_)
    refine r_istore (lv' := fun v10 => [(4, .int v10), (0, .ref (gA g 50 0 0)), (1, .int l1), (2, .int l2), (3, .int l3)]) C dX10_blame_32 (by decide) (fun _ => rfl) (fun v10 => ?_)
    refine r_iload C 0 dX10_blame_34 rfl ?_
    refine r_iload_n C 3 dX10_blame_36 rfl rfl ?_
    refine r_icmp_lt (tgt := 43) C dX10_blame_37 (by decide) (fun h11 => ?_) (fun h11 => ?_)
    · refine r_iload C 0 dX10_blame_43 rfl ?_
      refine r_istore_n0 (lv' := [(2, .int v10), (4, .int v10), (0, .ref (gA g 50 0 0)), (1, .int l1), (3, .int l3)]) C dX10_blame_45 rfl (by decide) rfl ?_
      refine r_iload_n C 4 dX10_blame_46 rfl rfl ?_
      refine r_istore_n0 (lv' := [(1, .int l3), (2, .int v10), (4, .int v10), (0, .ref (gA g 50 0 0)), (3, .int l3)]) C dX10_blame_47 rfl (by decide) rfl ?_
      refine r_iinc (c := 1) (lv' := fun v12 => [(3, .int v12), (1, .int l3), (2, .int v10), (4, .int v10), (0, .ref (gA g 50 0 0))]) C 4 dX10_blame_48 rfl (by decide) (by decide) (fun _ => rfl) (fun v12 => ?_)
      refine r_goto (tgt := 19) C dX10_blame_51 (by decide) ?_
      refine r_lv [4, 1, 2, 0] rfl ?_
      exact hk19 l3 v10 v12 q8.2
    · refine r_goto (tgt := 48) C dX10_blame_40 (by decide) ?_
      refine r_iinc (c := 1) (lv' := fun v13 => [(3, .int v13), (4, .int v10), (0, .ref (gA g 50 0 0)), (1, .int l1), (2, .int l2)]) C 4 dX10_blame_48 rfl (by decide) (by decide) (fun _ => rfl) (fun v13 => ?_)
      refine r_goto (tgt := 19) C dX10_blame_51 (by decide) ?_
      refine r_lv [2, 3, 4, 0] rfl ?_
      exact hk19 l1 l2 v13 q8.2
set_option maxRecDepth 100000 in
set_option maxHeartbeats 4000000 in
theorem tl_X10_blame_19 {g : Gw} {x : Xw} (C : Cw g x cX10_blame RX10 5 (some .int) 12) (hm : x.2.2.2.2.2.2.2.2.2.2.2 = (0, 0)) (n : Nat) : ∀ (l1 : Int32) (l2 : Int32) (l3 : Int32) (M : Mw), Sw g x (fun q : Int32 × Mw => (some (.int q.1), q.2)) M 0 0 19 [(0, .ref (gA g 50 0 0)), (1, .int l1), (2, .int l2), (3, .int l3)] [] (it (fun _ _ _ _ => none) (B_X10_blame_19) n l1 l2 l3 M) := by
  induction n with
  | zero =>
    intro l1 l2 l3 M
    exact r_none
  | succ n ih =>
    intro l1 l2 l3 M
    exact t_X10_blame_19 C hm _ ih l1 l2 l3 M
set_option maxRecDepth 100000 in
set_option maxHeartbeats 4000000 in
theorem c_X10_blame {g : Gw} {l : Launch} (M : Mw) : Kw g l yX10_blame cX10_blame 5 (some .int) 12 0 0 [.ref (gA g 50 0 0)] M (fun q : Int32 × Mw => (some (.int q.1), q.2)) (F_X10_blame M) := by
  refine Kw.of (own := RX10) (lv0 := [(0, .ref (gA g 50 0 0))]) (by decide +kernel) rfl (Nat.le_of_ble_eq_true rfl) rfl (fun x C hl hm => ?_)
  subst hl
  unfold F_X10_blame
  refine r_aload_n C 0 dX10_blame_0 rfl rfl ?_
  refine r_callVWi (rest := []) C (c_X10_asks M) dX10_blame_1 u_1415 in_50 (contW_50 g _ _ _ _ _) rfl u_1416 u_88 mi_X10_asks (by decide) rfl rfl (Nat.le_of_ble_eq_true rfl) (xk1 hm (by decide)) (xn1 hm (by decide)) (fun q1 h2 => ?_)
  refine r_if_ne (tgt := 10) C dX10_blame_4 (by decide) (fun h3 => ?_) (fun h3 => ?_)
  · refine r_bipush (v := (-2)) C dX10_blame_7 (by decide) ?_
    exact r_iret C dX10_blame_9 rfl rfl (xk0 hm) (xn0 hm)
  · refine r_iconst (v := (-1)) C dX10_blame_10 (by decide) ?_
    refine r_istore_n0 (lv' := [(1, .int (-1)), (0, .ref (gA g 50 0 0))]) C dX10_blame_11 rfl (by decide) rfl ?_
    refine r_aload_n C 1 dX10_blame_12 rfl rfl ?_
    refine gf_50_56 C dX10_blame_13 u_1161 in_50 ?_
    refine r_istore_n (lv' := fun v4 => [(2, .int v4), (1, .int (-1)), (0, .ref (gA g 50 0 0))]) C dX10_blame_16 rfl (by decide) (fun _ => rfl) (fun v4 => ?_)
    refine r_iconst (v := 0) C dX10_blame_17 (by decide) ?_
    refine r_istore_n0 (lv' := [(3, .int 0), (2, .int v4), (1, .int (-1)), (0, .ref (gA g 50 0 0))]) C dX10_blame_18 rfl (by decide) rfl ?_
    refine r_lv [3, 2, 1, 0] rfl ?_
    exact tl_X10_blame_19 C hm FU (-1) v4 0 q1.2
def F_X10_recordsWith (p1 : Int32) (p2 : Int32) (p3 : Int32) (M : Mw) : Option (Int32 × Mw) :=
  ((F_X10_asTold M).bind (fun M1 => (bd (uIw M1 50 0 0 24 p1) (fun M3 => (bd (uIw M3 50 0 0 25 p2) (fun M4 => (bd (uIw M4 50 0 0 26 p3) (fun M5 => ((F_X10_runs (M5.1 51 0 0 0) M5).bind (fun M6 => some ((M6.1 50 0 0 56), M6)))))))))))
set_option maxRecDepth 100000 in
set_option maxHeartbeats 4000000 in
theorem c_X10_recordsWith {g : Gw} {l : Launch} (p1 : Int32) (p2 : Int32) (p3 : Int32) (M : Mw) : Kw g l yX10_recordsWith cX10_recordsWith 4 (some .int) 11 0 0 [.ref (gA g 50 0 0), .int p1, .int p2, .int p3] M (fun q : Int32 × Mw => (some (.int q.1), q.2)) (F_X10_recordsWith p1 p2 p3 M) := by
  refine Kw.of (own := RX10) (lv0 := [(0, .ref (gA g 50 0 0)), (1, .int p1), (2, .int p2), (3, .int p3)]) (by decide +kernel) rfl (Nat.le_of_ble_eq_true rfl) rfl (fun x C hl hm => ?_)
  subst hl
  unfold F_X10_recordsWith
  refine r_aload_n C 0 dX10_recordsWith_0 rfl rfl ?_
  refine r_callVU (rest := []) C (c_X10_asTold M) dX10_recordsWith_1 u_1418 in_50 (contW_50 g _ _ _ _ _) rfl u_1419 u_89 mi_X10_asTold (by decide) rfl rfl (Nat.le_of_ble_eq_true rfl) (xk1 hm (by decide)) (xn1 hm (by decide)) (fun M1 h2 => ?_)
  refine r_aload_n C 0 dX10_recordsWith_4 rfl rfl ?_
  refine r_iload_n C 1 dX10_recordsWith_5 rfl rfl ?_
  refine pf_50_24 C dX10_recordsWith_6 u_1129 in_50 (fun M3 => ?_)
  refine r_aload_n C 0 dX10_recordsWith_9 rfl rfl ?_
  refine r_iload_n C 2 dX10_recordsWith_10 rfl rfl ?_
  refine pf_50_25 C dX10_recordsWith_11 u_1130 in_50 (fun M4 => ?_)
  refine r_aload_n C 0 dX10_recordsWith_14 rfl rfl ?_
  refine r_iload_n C 3 dX10_recordsWith_15 rfl rfl ?_
  refine pf_50_26 C dX10_recordsWith_16 u_1131 in_50 (fun M5 => ?_)
  refine r_aload_n C 0 dX10_recordsWith_19 rfl rfl ?_
  refine r_aload_n C 0 dX10_recordsWith_20 rfl rfl ?_
  refine gf_50_1 C dX10_recordsWith_21 u_1106 in_50 ?_
  refine r_iconst (v := 0) C dX10_recordsWith_24 (by decide) ?_
  refine r_ialdc C dX10_recordsWith_25 in_51 (contW_51 g _ _ _ _ _) (by decide) (j := 0) (by decide) ?_
  refine r_callVU (rest := []) C (c_X10_runs (M5.1 51 0 0 0) M5) dX10_recordsWith_26 u_1421 in_50 (contW_50 g _ _ _ _ _) rfl u_1422 u_90 mi_X10_runs (by decide) rfl rfl (Nat.le_of_ble_eq_true rfl) (xk1 hm (by decide)) (xn1 hm (by decide)) (fun M6 h7 => ?_)
  refine r_aload_n C 0 dX10_recordsWith_29 rfl rfl ?_
  refine gf_50_56 C dX10_recordsWith_30 u_1161 in_50 ?_
  exact r_iret C dX10_recordsWith_33 rfl rfl (xk0 hm) (xn0 hm)
def F_X10_with (p1 : Int32) (p2 : Int32) (p3 : Int32) (M : Mw) : Option (Int32 × Mw) :=
  ((F_X10_isTask p1 M).bind (fun v1 => (if v1 = 0 then some ((-2), M) else ((F_X10_in ((p2).toInt64) 0 99 M).bind (fun v4 => (if v4 = 0 then some ((-2), M) else ((F_X10_in ((p3).toInt64) (((p2 + 1)).toInt64) 120 M).bind (fun v7 => (if v7 = 0 then some ((-2), M) else ((F_X10_recordsWith p1 p2 p3 M).bind (fun q10 => some (q10.1, q10.2))))))))))))
set_option maxRecDepth 100000 in
set_option maxHeartbeats 4000000 in
theorem c_X10_with {g : Gw} {l : Launch} (p1 : Int32) (p2 : Int32) (p3 : Int32) (M : Mw) : Kw g l yX10_with cX10_with 4 (some .int) 12 0 0 [.ref (gA g 50 0 0), .int p1, .int p2, .int p3] M (fun q : Int32 × Mw => (some (.int q.1), q.2)) (F_X10_with p1 p2 p3 M) := by
  refine Kw.of (own := RX10) (lv0 := [(0, .ref (gA g 50 0 0)), (1, .int p1), (2, .int p2), (3, .int p3)]) (by decide +kernel) rfl (Nat.le_of_ble_eq_true rfl) rfl (fun x C hl hm => ?_)
  subst hl
  unfold F_X10_with
  refine r_aload_n C 0 dX10_with_0 rfl rfl ?_
  refine r_iload_n C 1 dX10_with_1 rfl rfl ?_
  refine r_callVRi (rest := []) C (c_X10_isTask p1 M) dX10_with_2 u_1266 in_50 (contW_50 g _ _ _ _ _) rfl u_1267 u_66 mi_X10_isTask (by decide) rfl rfl (Nat.le_of_ble_eq_true rfl) (xk1 hm (by decide)) (xn1 hm (by decide)) (fun v1 h2 => ?_)
  refine r_if_eq (tgt := 45) C dX10_with_5 (by decide) (fun h3 => ?_) (fun h3 => ?_)
  · refine r_bipush (v := (-2)) C dX10_with_45 (by decide) ?_
    exact r_iret C dX10_with_47 rfl rfl (xk0 hm) (xn0 hm)
  · refine r_iload_n C 2 dX10_with_8 rfl rfl ?_
    refine r_i2l C dX10_with_9 ?_
    refine r_lconst (v := 0) C dX10_with_10 (by decide) ?_
    refine r_ldc2 (v := 99) C u_1622 dX10_with_11 ?_
    refine r_callSRi (rest := []) C (c_X10_in ((p2).toInt64) 0 99 M) dX10_with_14 u_1174 u_1175 mi_X10_in (by decide) rfl rfl (Nat.le_of_ble_eq_true rfl) (xk1 hm (by decide)) (xn1 hm (by decide)) (fun v4 h5 => ?_)
    refine r_if_eq (tgt := 45) C dX10_with_17 (by decide) (fun h6 => ?_) (fun h6 => ?_)
    · refine r_bipush (v := (-2)) C dX10_with_45 (by decide) ?_
      exact r_iret C dX10_with_47 rfl rfl (xk0 hm) (xn0 hm)
    · refine r_iload_n C 3 dX10_with_20 rfl rfl ?_
      refine r_i2l C dX10_with_21 ?_
      refine r_iload_n C 2 dX10_with_22 rfl rfl ?_
      refine r_iconst (v := 1) C dX10_with_23 (by decide) ?_
      refine r_iadd C dX10_with_24 ?_
      refine r_i2l C dX10_with_25 ?_
      refine r_ldc2 (v := 120) C u_1623 dX10_with_26 ?_
      refine r_callSRi (rest := []) C (c_X10_in ((p3).toInt64) (((p2 + 1)).toInt64) 120 M) dX10_with_29 u_1174 u_1175 mi_X10_in (by decide) rfl rfl (Nat.le_of_ble_eq_true rfl) (xk1 hm (by decide)) (xn1 hm (by decide)) (fun v7 h8 => ?_)
      refine r_if_eq (tgt := 45) C dX10_with_32 (by decide) (fun h9 => ?_) (fun h9 => ?_)
      · refine r_bipush (v := (-2)) C dX10_with_45 (by decide) ?_
        exact r_iret C dX10_with_47 rfl rfl (xk0 hm) (xn0 hm)
      · refine r_aload_n C 0 dX10_with_35 rfl rfl ?_
        refine r_iload_n C 1 dX10_with_36 rfl rfl ?_
        refine r_iload_n C 2 dX10_with_37 rfl rfl ?_
        refine r_iload_n C 3 dX10_with_38 rfl rfl ?_
        refine r_callVWi (rest := []) C (c_X10_recordsWith p1 p2 p3 M) dX10_with_39 u_1624 in_50 (contW_50 g _ _ _ _ _) rfl u_1625 u_120 mi_X10_recordsWith (by decide) rfl rfl (Nat.le_of_ble_eq_true rfl) (xk1 hm (by decide)) (xn1 hm (by decide)) (fun q10 h11 => ?_)
        refine r_goto (tgt := 47) C dX10_with_42 (by decide) ?_
        exact r_iret C dX10_with_47 rfl rfl (xk0 hm) (xn0 hm)
def B_X10_tight_32 (l1 : Int32) (l2 : Int32) (k32 : Int32 → Mw → Option (Int32 × Mw)) (l3 : Int32) (M : Mw) : Option (Int32 × Mw) :=
  ((F_X10_toldOf l1 2 M).bind (fun v11 => ((F_X10_recordsWith l1 v11 l3 M).bind (fun q13 => (if q13.1 ≤ l2 then some (l3, q13.2) else (bd (l3 + 1) (fun v16 => (k32 v16 q13.2))))))))
def F_X10_tight (p1 : Int32) (M : Mw) : Option (Int32 × Mw) :=
  ((F_X10_isTask p1 M).bind (fun v1 => (if v1 = 0 then some ((-2), M) else ((F_X10_asks M).bind (fun q4 => (if q4.1 = 0 then some ((-2), q4.2) else (bd (q4.2.1 50 0 0 56) (fun v7 => ((F_X10_toldOf p1 2 q4.2).bind (fun v8 => (bd (v8 + 1) (fun v10 => (it (fun _ _ => none) (B_X10_tight_32 p1 v7) FU v10 q4.2)))))))))))))
set_option maxRecDepth 100000 in
set_option maxHeartbeats 4000000 in
theorem t_X10_tight_32 {g : Gw} {x : Xw} (C : Cw g x cX10_tight RX10 4 (some .int) 12) (hm : x.2.2.2.2.2.2.2.2.2.2.2 = (0, 0)) (l1 : Int32) (l2 : Int32) (k32 : Int32 → Mw → Option (Int32 × Mw)) (hk32 : ∀ (l3 : Int32) (M : Mw), Sw g x (fun q : Int32 × Mw => (some (.int q.1), q.2)) M 0 0 32 [(0, .ref (gA g 50 0 0)), (1, .int l1), (2, .int l2), (3, .int l3)] [] (k32 l3 M)) (l3 : Int32) (M : Mw) : Sw g x (fun q : Int32 × Mw => (some (.int q.1), q.2)) M 0 0 32 [(0, .ref (gA g 50 0 0)), (1, .int l1), (2, .int l2), (3, .int l3)] [] (B_X10_tight_32 l1 l2 k32 l3 M) := by
  unfold B_X10_tight_32
  refine r_aload_n C 0 dX10_tight_32 rfl rfl ?_
  refine r_iload_n C 1 dX10_tight_33 rfl rfl ?_
  refine r_aload_n C 0 dX10_tight_34 rfl rfl ?_
  refine r_iload_n C 1 dX10_tight_35 rfl rfl ?_
  refine r_iconst (v := 2) C dX10_tight_36 (by decide) ?_
  refine r_callVRi (rest := [.int l1, .ref (gA g 50 0 0)]) C (c_X10_toldOf l1 2 M) dX10_tight_37 u_1270 in_50 (contW_50 g _ _ _ _ _) rfl u_1271 u_67 mi_X10_toldOf (by decide) rfl rfl (Nat.le_of_ble_eq_true rfl) (xk1 hm (by decide)) (xn1 hm (by decide)) (fun v11 h12 => ?_)
  refine r_iload_n C 3 dX10_tight_40 rfl rfl ?_
  refine r_callVWi (rest := []) C (c_X10_recordsWith l1 v11 l3 M) dX10_tight_41 u_1624 in_50 (contW_50 g _ _ _ _ _) rfl u_1625 u_120 mi_X10_recordsWith (by decide) rfl rfl (Nat.le_of_ble_eq_true rfl) (xk1 hm (by decide)) (xn1 hm (by decide)) (fun q13 h14 => ?_)
  refine r_iload_n C 2 dX10_tight_44 rfl rfl ?_
  refine r_icmp_le (tgt := 54) C dX10_tight_45 (by decide) (fun h15 => ?_) (fun h15 => ?_)
  · refine r_iload_n C 3 dX10_tight_54 rfl rfl ?_
    exact r_iret C dX10_tight_55 rfl rfl (xk0 hm) (xn0 hm)
  · refine r_iinc (c := 1) (lv' := fun v16 => [(3, .int v16), (0, .ref (gA g 50 0 0)), (1, .int l1), (2, .int l2)]) C 3 dX10_tight_48 rfl (by decide) (by decide) (fun _ => rfl) (fun v16 => ?_)
    refine r_goto (tgt := 32) C dX10_tight_51 (by decide) ?_
    refine r_lv [1, 2, 3, 0] rfl ?_
    exact hk32 v16 q13.2
set_option maxRecDepth 100000 in
set_option maxHeartbeats 4000000 in
theorem tl_X10_tight_32 {g : Gw} {x : Xw} (C : Cw g x cX10_tight RX10 4 (some .int) 12) (hm : x.2.2.2.2.2.2.2.2.2.2.2 = (0, 0)) (l1 : Int32) (l2 : Int32) (n : Nat) : ∀ (l3 : Int32) (M : Mw), Sw g x (fun q : Int32 × Mw => (some (.int q.1), q.2)) M 0 0 32 [(0, .ref (gA g 50 0 0)), (1, .int l1), (2, .int l2), (3, .int l3)] [] (it (fun _ _ => none) (B_X10_tight_32 l1 l2) n l3 M) := by
  induction n with
  | zero =>
    intro l3 M
    exact r_none
  | succ n ih =>
    intro l3 M
    exact t_X10_tight_32 C hm l1 l2 _ ih l3 M
set_option maxRecDepth 100000 in
set_option maxHeartbeats 4000000 in
theorem c_X10_tight {g : Gw} {l : Launch} (p1 : Int32) (M : Mw) : Kw g l yX10_tight cX10_tight 4 (some .int) 12 0 0 [.ref (gA g 50 0 0), .int p1] M (fun q : Int32 × Mw => (some (.int q.1), q.2)) (F_X10_tight p1 M) := by
  refine Kw.of (own := RX10) (lv0 := [(0, .ref (gA g 50 0 0)), (1, .int p1)]) (by decide +kernel) rfl (Nat.le_of_ble_eq_true rfl) rfl (fun x C hl hm => ?_)
  subst hl
  unfold F_X10_tight
  refine r_aload_n C 0 dX10_tight_0 rfl rfl ?_
  refine r_iload_n C 1 dX10_tight_1 rfl rfl ?_
  refine r_callVRi (rest := []) C (c_X10_isTask p1 M) dX10_tight_2 u_1266 in_50 (contW_50 g _ _ _ _ _) rfl u_1267 u_66 mi_X10_isTask (by decide) rfl rfl (Nat.le_of_ble_eq_true rfl) (xk1 hm (by decide)) (xn1 hm (by decide)) (fun v1 h2 => ?_)
  refine r_if_eq (tgt := 15) C dX10_tight_5 (by decide) (fun h3 => ?_) (fun h3 => ?_)
  · refine r_bipush (v := (-2)) C dX10_tight_15 (by decide) ?_
    exact r_iret C dX10_tight_17 rfl rfl (xk0 hm) (xn0 hm)
  · refine r_aload_n C 0 dX10_tight_8 rfl rfl ?_
    refine r_callVWi (rest := []) C (c_X10_asks M) dX10_tight_9 u_1415 in_50 (contW_50 g _ _ _ _ _) rfl u_1416 u_88 mi_X10_asks (by decide) rfl rfl (Nat.le_of_ble_eq_true rfl) (xk1 hm (by decide)) (xn1 hm (by decide)) (fun q4 h5 => ?_)
    refine r_if_ne (tgt := 18) C dX10_tight_12 (by decide) (fun h6 => ?_) (fun h6 => ?_)
    · refine r_bipush (v := (-2)) C dX10_tight_15 (by decide) ?_
      exact r_iret C dX10_tight_17 rfl rfl (xk0 hm) (xn0 hm)
    · refine r_aload_n C 0 dX10_tight_18 rfl rfl ?_
      refine gf_50_56 C dX10_tight_19 u_1161 in_50 ?_
      refine r_istore_n (lv' := fun v7 => [(2, .int v7), (0, .ref (gA g 50 0 0)), (1, .int p1)]) C dX10_tight_22 rfl (by decide) (fun _ => rfl) (fun v7 => ?_)
      refine r_aload_n C 1 dX10_tight_23 rfl rfl ?_
      refine r_iload_n C 2 dX10_tight_24 rfl rfl ?_
      refine r_iconst (v := 2) C dX10_tight_25 (by decide) ?_
      refine r_callVRi (rest := []) C (c_X10_toldOf p1 2 q4.2) dX10_tight_26 u_1270 in_50 (contW_50 g _ _ _ _ _) rfl u_1271 u_67 mi_X10_toldOf (by decide) rfl rfl (Nat.le_of_ble_eq_true rfl) (xk1 hm (by decide)) (xn1 hm (by decide)) (fun v8 h9 => ?_)
      refine r_iconst (v := 1) C dX10_tight_29 (by decide) ?_
      refine r_iadd C dX10_tight_30 ?_
      refine r_istore_n (lv' := fun v10 => [(3, .int v10), (2, .int v7), (0, .ref (gA g 50 0 0)), (1, .int p1)]) C dX10_tight_31 rfl (by decide) (fun _ => rfl) (fun v10 => ?_)
      refine r_lv [2, 3, 1, 0] rfl ?_
      exact tl_X10_tight_32 C hm p1 v7 FU v10 q4.2
def B_X10_loose_37 (l1 : Int32) (l2 : Int32) (k37 : Int32 → Mw → Option (Int32 × Mw)) (l3 : Int32) (M : Mw) : Option (Int32 × Mw) :=
  ((F_X10_toldOf l1 3 M).bind (fun v11 => ((F_X10_recordsWith l1 l3 v11 M).bind (fun q13 => (if q13.1 ≤ l2 then some (l3, q13.2) else (bd (l3 + (-1)) (fun v16 => (k37 v16 q13.2))))))))
def F_X10_loose (p1 : Int32) (M : Mw) : Option (Int32 × Mw) :=
  ((F_X10_isTask p1 M).bind (fun v1 => (if v1 = 0 then some ((-2), M) else ((F_X10_asks M).bind (fun q4 => (if q4.1 = 0 then some ((-2), q4.2) else (bd (q4.2.1 50 0 0 56) (fun v7 => ((F_X10_toldOf p1 3 q4.2).bind (fun v8 => (bd (if (v8 - 1) < 99 then (v8 - 1) else 99) (fun v10 => (it (fun _ _ => none) (B_X10_loose_37 p1 v7) FU v10 q4.2)))))))))))))
set_option maxRecDepth 100000 in
set_option maxHeartbeats 4000000 in
theorem t_X10_loose_37 {g : Gw} {x : Xw} (C : Cw g x cX10_loose RX10 4 (some .int) 12) (hm : x.2.2.2.2.2.2.2.2.2.2.2 = (0, 0)) (l1 : Int32) (l2 : Int32) (k37 : Int32 → Mw → Option (Int32 × Mw)) (hk37 : ∀ (l3 : Int32) (M : Mw), Sw g x (fun q : Int32 × Mw => (some (.int q.1), q.2)) M 0 0 37 [(0, .ref (gA g 50 0 0)), (1, .int l1), (2, .int l2), (3, .int l3)] [] (k37 l3 M)) (l3 : Int32) (M : Mw) : Sw g x (fun q : Int32 × Mw => (some (.int q.1), q.2)) M 0 0 37 [(0, .ref (gA g 50 0 0)), (1, .int l1), (2, .int l2), (3, .int l3)] [] (B_X10_loose_37 l1 l2 k37 l3 M) := by
  unfold B_X10_loose_37
  refine r_aload_n C 0 dX10_loose_37 rfl rfl ?_
  refine r_iload_n C 1 dX10_loose_38 rfl rfl ?_
  refine r_iload_n C 3 dX10_loose_39 rfl rfl ?_
  refine r_aload_n C 0 dX10_loose_40 rfl rfl ?_
  refine r_iload_n C 1 dX10_loose_41 rfl rfl ?_
  refine r_iconst (v := 3) C dX10_loose_42 (by decide) ?_
  refine r_callVRi (rest := [.int l3, .int l1, .ref (gA g 50 0 0)]) C (c_X10_toldOf l1 3 M) dX10_loose_43 u_1270 in_50 (contW_50 g _ _ _ _ _) rfl u_1271 u_67 mi_X10_toldOf (by decide) rfl rfl (Nat.le_of_ble_eq_true rfl) (xk1 hm (by decide)) (xn1 hm (by decide)) (fun v11 h12 => ?_)
  refine r_callVWi (rest := []) C (c_X10_recordsWith l1 l3 v11 M) dX10_loose_46 u_1624 in_50 (contW_50 g _ _ _ _ _) rfl u_1625 u_120 mi_X10_recordsWith (by decide) rfl rfl (Nat.le_of_ble_eq_true rfl) (xk1 hm (by decide)) (xn1 hm (by decide)) (fun q13 h14 => ?_)
  refine r_iload_n C 2 dX10_loose_49 rfl rfl ?_
  refine r_icmp_le (tgt := 59) C dX10_loose_50 (by decide) (fun h15 => ?_) (fun h15 => ?_)
  · refine r_iload_n C 3 dX10_loose_59 rfl rfl ?_
    exact r_iret C dX10_loose_60 rfl rfl (xk0 hm) (xn0 hm)
  · refine r_iinc (c := (-1)) (lv' := fun v16 => [(3, .int v16), (0, .ref (gA g 50 0 0)), (1, .int l1), (2, .int l2)]) C 3 dX10_loose_53 rfl (by decide) (by decide) (fun _ => rfl) (fun v16 => ?_)
    refine r_goto (tgt := 37) C dX10_loose_56 (by decide) ?_
    refine r_lv [1, 2, 3, 0] rfl ?_
    exact hk37 v16 q13.2
set_option maxRecDepth 100000 in
set_option maxHeartbeats 4000000 in
theorem tl_X10_loose_37 {g : Gw} {x : Xw} (C : Cw g x cX10_loose RX10 4 (some .int) 12) (hm : x.2.2.2.2.2.2.2.2.2.2.2 = (0, 0)) (l1 : Int32) (l2 : Int32) (n : Nat) : ∀ (l3 : Int32) (M : Mw), Sw g x (fun q : Int32 × Mw => (some (.int q.1), q.2)) M 0 0 37 [(0, .ref (gA g 50 0 0)), (1, .int l1), (2, .int l2), (3, .int l3)] [] (it (fun _ _ => none) (B_X10_loose_37 l1 l2) n l3 M) := by
  induction n with
  | zero =>
    intro l3 M
    exact r_none
  | succ n ih =>
    intro l3 M
    exact t_X10_loose_37 C hm l1 l2 _ ih l3 M
set_option maxRecDepth 100000 in
set_option maxHeartbeats 4000000 in
theorem c_X10_loose {g : Gw} {l : Launch} (p1 : Int32) (M : Mw) : Kw g l yX10_loose cX10_loose 4 (some .int) 12 0 0 [.ref (gA g 50 0 0), .int p1] M (fun q : Int32 × Mw => (some (.int q.1), q.2)) (F_X10_loose p1 M) := by
  refine Kw.of (own := RX10) (lv0 := [(0, .ref (gA g 50 0 0)), (1, .int p1)]) (by decide +kernel) rfl (Nat.le_of_ble_eq_true rfl) rfl (fun x C hl hm => ?_)
  subst hl
  unfold F_X10_loose
  refine r_aload_n C 0 dX10_loose_0 rfl rfl ?_
  refine r_iload_n C 1 dX10_loose_1 rfl rfl ?_
  refine r_callVRi (rest := []) C (c_X10_isTask p1 M) dX10_loose_2 u_1266 in_50 (contW_50 g _ _ _ _ _) rfl u_1267 u_66 mi_X10_isTask (by decide) rfl rfl (Nat.le_of_ble_eq_true rfl) (xk1 hm (by decide)) (xn1 hm (by decide)) (fun v1 h2 => ?_)
  refine r_if_eq (tgt := 15) C dX10_loose_5 (by decide) (fun h3 => ?_) (fun h3 => ?_)
  · refine r_bipush (v := (-2)) C dX10_loose_15 (by decide) ?_
    exact r_iret C dX10_loose_17 rfl rfl (xk0 hm) (xn0 hm)
  · refine r_aload_n C 0 dX10_loose_8 rfl rfl ?_
    refine r_callVWi (rest := []) C (c_X10_asks M) dX10_loose_9 u_1415 in_50 (contW_50 g _ _ _ _ _) rfl u_1416 u_88 mi_X10_asks (by decide) rfl rfl (Nat.le_of_ble_eq_true rfl) (xk1 hm (by decide)) (xn1 hm (by decide)) (fun q4 h5 => ?_)
    refine r_if_ne (tgt := 18) C dX10_loose_12 (by decide) (fun h6 => ?_) (fun h6 => ?_)
    · refine r_bipush (v := (-2)) C dX10_loose_15 (by decide) ?_
      exact r_iret C dX10_loose_17 rfl rfl (xk0 hm) (xn0 hm)
    · refine r_aload_n C 0 dX10_loose_18 rfl rfl ?_
      refine gf_50_56 C dX10_loose_19 u_1161 in_50 ?_
      refine r_istore_n (lv' := fun v7 => [(2, .int v7), (0, .ref (gA g 50 0 0)), (1, .int p1)]) C dX10_loose_22 rfl (by decide) (fun _ => rfl) (fun v7 => ?_)
      refine r_bipush (v := 99) C dX10_loose_23 (by decide) ?_
      refine r_aload_n C 1 dX10_loose_25 rfl rfl ?_
      refine r_iload_n C 2 dX10_loose_26 rfl rfl ?_
      refine r_iconst (v := 3) C dX10_loose_27 (by decide) ?_
      refine r_callVRi (rest := [.int 99]) C (c_X10_toldOf p1 3 q4.2) dX10_loose_28 u_1270 in_50 (contW_50 g _ _ _ _ _) rfl u_1271 u_67 mi_X10_toldOf (by decide) rfl rfl (Nat.le_of_ble_eq_true rfl) (xk1 hm (by decide)) (xn1 hm (by decide)) (fun v8 h9 => ?_)
      refine r_iconst (v := 1) C dX10_loose_31 (by decide) ?_
      refine r_isub C dX10_loose_32 ?_
      refine r_mmin C u_1208 u_539 u_140 u_540 dX10_loose_33 (by decide) (Nat.le_of_ble_eq_true rfl) (xk1 hm (by decide)) (xn1 hm (by decide)) ?_
      refine r_istore_n (lv' := fun v10 => [(3, .int v10), (2, .int v7), (0, .ref (gA g 50 0 0)), (1, .int p1)]) C dX10_loose_36 rfl (by decide) (fun _ => rfl) (fun v10 => ?_)
      refine r_lv [2, 3, 1, 0] rfl ?_
      exact tl_X10_loose_37 C hm p1 v7 FU v10 q4.2
def F_X10_extra (p1 : Int32) (p2 : Int32) (p3 : Int32) (p4 : Int32) (M : Mw) : Option (Mw) :=
  ((F_X10_many M).bind (fun v1 => (bd (106 + (5 * v1)) (fun v3 => ((F_X10_asTold M).bind (fun M4 => (bd (uIw M4 50 0 0 27 1) (fun M6 => (if inb v3 201 then (bd (uIw M6 51 0 0 v3.toNatClampNeg p1) (fun M7 => (if inb (v3 + 1) 201 then (bd (uIw M7 51 0 0 (v3 + 1).toNatClampNeg p2) (fun M9 => (if inb (v3 + 2) 201 then (bd (uIw M9 51 0 0 (v3 + 2).toNatClampNeg p3) (fun M11 => (if inb (v3 + 3) 201 then (bd (uIw M11 51 0 0 (v3 + 3).toNatClampNeg p4) (fun M13 => (if inb (v3 + 4) 201 then (bd (uIw M13 51 0 0 (v3 + 4).toNatClampNeg 1) (fun M15 => ((F_X10_runs (M15.1 51 0 0 0) M15).bind (fun M17 => ((F_X10_many M17).bind (fun v19 => ((F_X10_caughtIn v19 M17).bind (fun v21 => (bd (uIw M17 50 0 0 27 0) (fun M23 => (bd (uIw M23 50 0 0 60 (if (M23.1 50 0 0 60) < v21 then v21 else (M23.1 50 0 0 60))) (fun M24 => (if v21 = (-1) then (bd (uIw M24 50 0 0 61 ((M24.1 50 0 0 61) + 1)) (fun M27 => some M27)) else (bd (uIw M24 50 0 0 61 ((M24.1 50 0 0 61) + 0)) (fun M26 => some M26))))))))))))))) else none))) else none))) else none))) else none))) else none)))))))))
set_option maxRecDepth 100000 in
set_option maxHeartbeats 4000000 in
theorem c_X10_extra {g : Gw} {l : Launch} (p1 : Int32) (p2 : Int32) (p3 : Int32) (p4 : Int32) (M : Mw) : Kw g l yX10_extra cX10_extra 7 none 11 0 0 [.ref (gA g 50 0 0), .int p1, .int p2, .int p3, .int p4] M (fun M : Mw => (none, M)) (F_X10_extra p1 p2 p3 p4 M) := by
  refine Kw.of (own := RX10) (lv0 := [(0, .ref (gA g 50 0 0)), (1, .int p1), (2, .int p2), (3, .int p3), (4, .int p4)]) (by decide +kernel) rfl (Nat.le_of_ble_eq_true rfl) rfl (fun x C hl hm => ?_)
  subst hl
  unfold F_X10_extra
  refine r_bipush (v := 106) C dX10_extra_0 (by decide) ?_
  refine r_iconst (v := 5) C dX10_extra_2 (by decide) ?_
  refine r_aload_n C 0 dX10_extra_3 rfl rfl ?_
  refine r_callVRi (rest := [.int 5, .int 106]) C (c_X10_many M) dX10_extra_4 u_1300 in_50 (contW_50 g _ _ _ _ _) rfl u_1301 u_73 mi_X10_many (by decide) rfl rfl (Nat.le_of_ble_eq_true rfl) (xk1 hm (by decide)) (xn1 hm (by decide)) (fun v1 h2 => ?_)
  refine r_imul C dX10_extra_7 ?_
  refine r_iadd C dX10_extra_8 ?_
  refine r_istore (lv' := fun v3 => [(5, .int v3), (0, .ref (gA g 50 0 0)), (1, .int p1), (2, .int p2), (3, .int p3), (4, .int p4)]) C dX10_extra_9 (by decide) (fun _ => rfl) (fun v3 => ?_)
  refine r_aload_n C 1 dX10_extra_11 rfl rfl ?_
  refine r_callVU (rest := []) C (c_X10_asTold M) dX10_extra_12 u_1418 in_50 (contW_50 g _ _ _ _ _) rfl u_1419 u_89 mi_X10_asTold (by decide) rfl rfl (Nat.le_of_ble_eq_true rfl) (xk1 hm (by decide)) (xn1 hm (by decide)) (fun M4 h5 => ?_)
  refine r_aload_n C 1 dX10_extra_15 rfl rfl ?_
  refine r_iconst (v := 1) C dX10_extra_16 (by decide) ?_
  refine pf_50_27 C dX10_extra_17 u_1132 in_50 (fun M6 => ?_)
  refine r_aload_n C 1 dX10_extra_20 rfl rfl ?_
  refine gf_50_1 C dX10_extra_21 u_1106 in_50 ?_
  refine r_iload C 0 dX10_extra_24 rfl ?_
  refine r_iload_n C 2 dX10_extra_26 rfl rfl ?_
  refine r_iast C dX10_extra_27 in_51 (contW_51 g _ _) (fun M7 h8 => ?_)
  refine r_aload_n C 1 dX10_extra_28 rfl rfl ?_
  refine gf_50_1 C dX10_extra_29 u_1106 in_50 ?_
  refine r_iload C 0 dX10_extra_32 rfl ?_
  refine r_iconst (v := 1) C dX10_extra_34 (by decide) ?_
  refine r_iadd C dX10_extra_35 ?_
  refine r_iload_n C 3 dX10_extra_36 rfl rfl ?_
  refine r_iast C dX10_extra_37 in_51 (contW_51 g _ _) (fun M9 h10 => ?_)
  refine r_aload_n C 1 dX10_extra_38 rfl rfl ?_
  refine gf_50_1 C dX10_extra_39 u_1106 in_50 ?_
  refine r_iload C 0 dX10_extra_42 rfl ?_
  refine r_iconst (v := 2) C dX10_extra_44 (by decide) ?_
  refine r_iadd C dX10_extra_45 ?_
  refine r_iload_n C 4 dX10_extra_46 rfl rfl ?_
  refine r_iast C dX10_extra_47 in_51 (contW_51 g _ _) (fun M11 h12 => ?_)
  refine r_aload_n C 1 dX10_extra_48 rfl rfl ?_
  refine gf_50_1 C dX10_extra_49 u_1106 in_50 ?_
  refine r_iload C 0 dX10_extra_52 rfl ?_
  refine r_iconst (v := 3) C dX10_extra_54 (by decide) ?_
  refine r_iadd C dX10_extra_55 ?_
  refine r_iload C 5 dX10_extra_56 rfl ?_
  refine r_iast C dX10_extra_58 in_51 (contW_51 g _ _) (fun M13 h14 => ?_)
  refine r_aload_n C 1 dX10_extra_59 rfl rfl ?_
  refine gf_50_1 C dX10_extra_60 u_1106 in_50 ?_
  refine r_iload C 0 dX10_extra_63 rfl ?_
  refine r_iconst (v := 4) C dX10_extra_65 (by decide) ?_
  refine r_iadd C dX10_extra_66 ?_
  refine r_iconst (v := 1) C dX10_extra_67 (by decide) ?_
  refine r_iast C dX10_extra_68 in_51 (contW_51 g _ _) (fun M15 h16 => ?_)
  refine r_aload_n C 1 dX10_extra_69 rfl rfl ?_
  refine r_aload_n C 1 dX10_extra_70 rfl rfl ?_
  refine gf_50_1 C dX10_extra_71 u_1106 in_50 ?_
  refine r_iconst (v := 0) C dX10_extra_74 (by decide) ?_
  refine r_ialdc C dX10_extra_75 in_51 (contW_51 g _ _ _ _ _) (by decide) (j := 0) (by decide) ?_
  refine r_callVU (rest := []) C (c_X10_runs (M15.1 51 0 0 0) M15) dX10_extra_76 u_1421 in_50 (contW_50 g _ _ _ _ _) rfl u_1422 u_90 mi_X10_runs (by decide) rfl rfl (Nat.le_of_ble_eq_true rfl) (xk1 hm (by decide)) (xn1 hm (by decide)) (fun M17 h18 => ?_)
  refine r_aload_n C 1 dX10_extra_79 rfl rfl ?_
  refine r_aload_n C 1 dX10_extra_80 rfl rfl ?_
  refine r_callVRi (rest := [.ref (gA g 50 0 0)]) C (c_X10_many M17) dX10_extra_81 u_1300 in_50 (contW_50 g _ _ _ _ _) rfl u_1301 u_73 mi_X10_many (by decide) rfl rfl (Nat.le_of_ble_eq_true rfl) (xk1 hm (by decide)) (xn1 hm (by decide)) (fun v19 h20 => ?_)
  refine r_callVRi (rest := []) C (c_X10_caughtIn v19 M17) dX10_extra_84 u_1604 in_50 (contW_50 g _ _ _ _ _) rfl u_1605 u_118 mi_X10_caughtIn (by decide) rfl rfl (Nat.le_of_ble_eq_true rfl) (xk1 hm (by decide)) (xn1 hm (by decide)) (fun v21 h22 => ?_)
  refine r_istore0 (lv' := [(6, .int v21), (5, .int v3), (0, .ref (gA g 50 0 0)), (1, .int p1), (2, .int p2), (3, .int p3), (4, .int p4)]) C dX10_extra_87 (by decide) rfl ?_
  refine r_aload_n C 2 dX10_extra_89 rfl rfl ?_
  refine r_iconst (v := 0) C dX10_extra_90 (by decide) ?_
  refine pf_50_27 C dX10_extra_91 u_1132 in_50 (fun M23 => ?_)
  refine r_aload_n C 2 dX10_extra_94 rfl rfl ?_
  refine r_aload_n C 2 dX10_extra_95 rfl rfl ?_
  refine gf_50_60 C dX10_extra_96 u_1165 in_50 ?_
  refine r_iload C 0 dX10_extra_99 rfl ?_
  refine r_mmax C u_1317 u_542 u_140 u_543 dX10_extra_101 (by decide) (Nat.le_of_ble_eq_true rfl) (xk1 hm (by decide)) (xn1 hm (by decide)) ?_
  refine pf_50_60 C dX10_extra_104 u_1165 in_50 (fun M24 => ?_)
  refine r_aload_n C 2 dX10_extra_107 rfl rfl ?_
  refine r_dup C rfl dX10_extra_108 ?_
  refine gf_50_61 C dX10_extra_109 u_1166 in_50 ?_
  refine r_iload C 0 dX10_extra_112 rfl ?_
  refine r_iconst (v := (-1)) C dX10_extra_114 (by decide) ?_
  refine r_icmp_ne (tgt := 122) C dX10_extra_115 (by decide) (fun h25 => ?_) (fun h25 => ?_)
  · refine r_iconst (v := 1) C dX10_extra_118 (by decide) ?_
    refine r_goto (tgt := 123) C dX10_extra_119 (by decide) ?_
    refine r_iadd C dX10_extra_123 ?_
    refine pf_50_61 C dX10_extra_124 u_1166 in_50 (fun M27 => ?_)
    exact r_vret C dX10_extra_127 rfl rfl (xk0 hm) (xn0 hm)
  · refine r_iconst (v := 0) C dX10_extra_122 (by decide) ?_
    refine r_iadd C dX10_extra_123 ?_
    refine pf_50_61 C dX10_extra_124 u_1166 in_50 (fun M26 => ?_)
    exact r_vret C dX10_extra_127 rfl rfl (xk0 hm) (xn0 hm)
def B_X10_asksExtras_79 (k54 : Int32 → Mw → Option (Int32 × Mw)) (k63 : Int32 → Mw → Option (Int32 × Mw)) (l1 : Int32) (l2 : Int32) (l3 : Int32) (l4 : Int32) (l5 : Int32) (s0 : Int32) (s1 : Int32) (M : Mw) : Option (Int32 × Mw) :=
  (if s0 ≤ s1 then (bd (l4 + 1) (fun v19 => (k54 v19 M))) else (if l2 = 4 then ((F_X10_extra l2 l1 l4 (-1) M).bind (fun M24 => (bd (l5 + 1) (fun v26 => (k63 v26 M24))))) else ((F_X10_extra l2 l1 l4 l5 M).bind (fun M21 => (bd (l5 + 1) (fun v23 => (k63 v23 M21)))))))
def B_X10_asksExtras_63 (k54 : Int32 → Mw → Option (Int32 × Mw)) (l1 : Int32) (l2 : Int32) (l3 : Int32) (l4 : Int32) (k63 : Int32 → Mw → Option (Int32 × Mw)) (l5 : Int32) (M : Mw) : Option (Int32 × Mw) :=
  (if l2 = 4 then (B_X10_asksExtras_79 k54 k63 l1 l2 l3 l4 l5 1 l5 M) else ((F_X10_nodesOf l1 M).bind (fun v16 => (B_X10_asksExtras_79 k54 k63 l1 l2 l3 l4 l5 v16 l5 M))))
def B_X10_asksExtras_54 (l1 : Int32) (l2 : Int32) (l3 : Int32) (k54 : Int32 → Mw → Option (Int32 × Mw)) (l4 : Int32) (M : Mw) : Option (Int32 × Mw) :=
  (if l3 ≤ l4 then some (1, M) else (it (fun _ _ => none) (B_X10_asksExtras_63 k54 l1 l2 l3 l4) FU 0 M))
def F_X10_asksExtras (p1 : Int32) (p2 : Int32) (M : Mw) : Option (Int32 × Mw) :=
  ((F_X10_isTask p1 M).bind (fun v1 => (if v1 = 0 then some (0, M) else ((F_X10_in ((p2).toInt64) 0 4 M).bind (fun v4 => (if v4 = 0 then some (0, M) else ((F_X10_asks M).bind (fun q7 => (if q7.1 = 0 then some (0, q7.2) else (if inb p1 5 then (bd (if (q7.2.1 66 0 0 p1.toNatClampNeg) < 51 then (q7.2.1 66 0 0 p1.toNatClampNeg) else 51) (fun v11 => (bd (uIw q7.2 50 0 0 60 (-1)) (fun M12 => (bd (uIw M12 50 0 0 61 0) (fun M13 => (it (fun _ _ => none) (B_X10_asksExtras_54 p1 p2 v11) FU 0 M13))))))) else none))))))))))
set_option maxRecDepth 100000 in
set_option maxHeartbeats 4000000 in
theorem t_X10_asksExtras_79 {g : Gw} {x : Xw} (C : Cw g x cX10_asksExtras RX10 6 (some .boolean) 12) (hm : x.2.2.2.2.2.2.2.2.2.2.2 = (0, 0)) (k54 : Int32 → Mw → Option (Int32 × Mw)) (k63 : Int32 → Mw → Option (Int32 × Mw)) (l1 : Int32) (l2 : Int32) (l3 : Int32) (l4 : Int32) (l5 : Int32) (s0 : Int32) (s1 : Int32) (hk54 : ∀ (l4 : Int32) (M : Mw), Sw g x (fun q : Int32 × Mw => (some (.int q.1), q.2)) M 0 0 54 [(0, .ref (gA g 50 0 0)), (1, .int l1), (2, .int l2), (3, .int l3), (4, .int l4)] [] (k54 l4 M)) (hk63 : ∀ (l5 : Int32) (M : Mw), Sw g x (fun q : Int32 × Mw => (some (.int q.1), q.2)) M 0 0 63 [(0, .ref (gA g 50 0 0)), (1, .int l1), (2, .int l2), (3, .int l3), (4, .int l4), (5, .int l5)] [] (k63 l5 M)) (M : Mw) : Sw g x (fun q : Int32 × Mw => (some (.int q.1), q.2)) M 0 0 79 [(0, .ref (gA g 50 0 0)), (1, .int l1), (2, .int l2), (3, .int l3), (4, .int l4), (5, .int l5)] [.int s0, .int s1] (B_X10_asksExtras_79 k54 k63 l1 l2 l3 l4 l5 s0 s1 M) := by
  unfold B_X10_asksExtras_79
  refine r_icmp_ge (tgt := 107) C dX10_asksExtras_79 (by decide) (fun h18 => ?_) (fun h18 => ?_)
  · refine r_iinc (c := 1) (lv' := fun v19 => [(4, .int v19), (0, .ref (gA g 50 0 0)), (1, .int l1), (2, .int l2), (3, .int l3), (5, .int l5)]) C 4 dX10_asksExtras_107 rfl (by decide) (by decide) (fun _ => rfl) (fun v19 => ?_)
    refine r_goto (tgt := 54) C dX10_asksExtras_110 (by decide) ?_
    refine r_lv [1, 2, 3, 4, 0] rfl ?_
    exact hk54 v19 M
  · refine r_aload_n C 0 dX10_asksExtras_82 rfl rfl ?_
    refine r_iload_n C 2 dX10_asksExtras_83 rfl rfl ?_
    refine r_iload_n C 1 dX10_asksExtras_84 rfl rfl ?_
    refine r_iload C 4 dX10_asksExtras_85 rfl ?_
    refine r_iload_n C 2 dX10_asksExtras_87 rfl rfl ?_
    refine r_iconst (v := 4) C dX10_asksExtras_88 (by decide) ?_
    refine r_icmp_ne (tgt := 96) C dX10_asksExtras_89 (by decide) (fun h20 => ?_) (fun h20 => ?_)
    · refine r_iconst (v := (-1)) C dX10_asksExtras_92 (by decide) ?_
      refine r_goto (tgt := 98) C dX10_asksExtras_93 (by decide) ?_
      refine r_callVU (rest := []) C (c_X10_extra l2 l1 l4 (-1) M) dX10_asksExtras_98 u_1642 in_50 (contW_50 g _ _ _ _ _) rfl u_1643 u_122 mi_X10_extra (by decide) rfl rfl (Nat.le_of_ble_eq_true rfl) (xk1 hm (by decide)) (xn1 hm (by decide)) (fun M24 h25 => ?_)
      refine r_iinc (c := 1) (lv' := fun v26 => [(5, .int v26), (0, .ref (gA g 50 0 0)), (1, .int l1), (2, .int l2), (3, .int l3), (4, .int l4)]) C 5 dX10_asksExtras_101 rfl (by decide) (by decide) (fun _ => rfl) (fun v26 => ?_)
      refine r_goto (tgt := 63) C dX10_asksExtras_104 (by decide) ?_
      refine r_lv [1, 2, 3, 4, 5, 0] rfl ?_
      exact hk63 v26 M24
    · refine r_iload C 5 dX10_asksExtras_96 rfl ?_
      refine r_callVU (rest := []) C (c_X10_extra l2 l1 l4 l5 M) dX10_asksExtras_98 u_1642 in_50 (contW_50 g _ _ _ _ _) rfl u_1643 u_122 mi_X10_extra (by decide) rfl rfl (Nat.le_of_ble_eq_true rfl) (xk1 hm (by decide)) (xn1 hm (by decide)) (fun M21 h22 => ?_)
      refine r_iinc (c := 1) (lv' := fun v23 => [(5, .int v23), (0, .ref (gA g 50 0 0)), (1, .int l1), (2, .int l2), (3, .int l3), (4, .int l4)]) C 5 dX10_asksExtras_101 rfl (by decide) (by decide) (fun _ => rfl) (fun v23 => ?_)
      refine r_goto (tgt := 63) C dX10_asksExtras_104 (by decide) ?_
      refine r_lv [1, 2, 3, 4, 5, 0] rfl ?_
      exact hk63 v23 M21
set_option maxRecDepth 100000 in
set_option maxHeartbeats 4000000 in
theorem t_X10_asksExtras_63 {g : Gw} {x : Xw} (C : Cw g x cX10_asksExtras RX10 6 (some .boolean) 12) (hm : x.2.2.2.2.2.2.2.2.2.2.2 = (0, 0)) (k54 : Int32 → Mw → Option (Int32 × Mw)) (l1 : Int32) (l2 : Int32) (l3 : Int32) (l4 : Int32) (hk54 : ∀ (l4 : Int32) (M : Mw), Sw g x (fun q : Int32 × Mw => (some (.int q.1), q.2)) M 0 0 54 [(0, .ref (gA g 50 0 0)), (1, .int l1), (2, .int l2), (3, .int l3), (4, .int l4)] [] (k54 l4 M)) (k63 : Int32 → Mw → Option (Int32 × Mw)) (hk63 : ∀ (l5 : Int32) (M : Mw), Sw g x (fun q : Int32 × Mw => (some (.int q.1), q.2)) M 0 0 63 [(0, .ref (gA g 50 0 0)), (1, .int l1), (2, .int l2), (3, .int l3), (4, .int l4), (5, .int l5)] [] (k63 l5 M)) (l5 : Int32) (M : Mw) : Sw g x (fun q : Int32 × Mw => (some (.int q.1), q.2)) M 0 0 63 [(0, .ref (gA g 50 0 0)), (1, .int l1), (2, .int l2), (3, .int l3), (4, .int l4), (5, .int l5)] [] (B_X10_asksExtras_63 k54 l1 l2 l3 l4 k63 l5 M) := by
  unfold B_X10_asksExtras_63
  refine r_iload C 5 dX10_asksExtras_63 rfl ?_
  refine r_iload_n C 2 dX10_asksExtras_65 rfl rfl ?_
  refine r_iconst (v := 4) C dX10_asksExtras_66 (by decide) ?_
  refine r_icmp_ne (tgt := 74) C dX10_asksExtras_67 (by decide) (fun h15 => ?_) (fun h15 => ?_)
  · refine r_iconst (v := 1) C dX10_asksExtras_70 (by decide) ?_
    refine r_goto (tgt := 79) C dX10_asksExtras_71 (by decide) ?_
    exact t_X10_asksExtras_79 C hm k54 k63 l1 l2 l3 l4 l5 1 l5 hk54 hk63 M
  · refine r_aload_n C 0 dX10_asksExtras_74 rfl rfl ?_
    refine r_iload_n C 1 dX10_asksExtras_75 rfl rfl ?_
    refine r_callVRi (rest := [.int l5]) C (c_X10_nodesOf l1 M) dX10_asksExtras_76 u_1277 in_50 (contW_50 g _ _ _ _ _) rfl u_1278 u_68 mi_X10_nodesOf (by decide) rfl rfl (Nat.le_of_ble_eq_true rfl) (xk1 hm (by decide)) (xn1 hm (by decide)) (fun v16 h17 => ?_)
    exact t_X10_asksExtras_79 C hm k54 k63 l1 l2 l3 l4 l5 v16 l5 hk54 hk63 M
set_option maxRecDepth 100000 in
set_option maxHeartbeats 4000000 in
theorem tl_X10_asksExtras_63 {g : Gw} {x : Xw} (C : Cw g x cX10_asksExtras RX10 6 (some .boolean) 12) (hm : x.2.2.2.2.2.2.2.2.2.2.2 = (0, 0)) (k54 : Int32 → Mw → Option (Int32 × Mw)) (l1 : Int32) (l2 : Int32) (l3 : Int32) (l4 : Int32) (hk54 : ∀ (l4 : Int32) (M : Mw), Sw g x (fun q : Int32 × Mw => (some (.int q.1), q.2)) M 0 0 54 [(0, .ref (gA g 50 0 0)), (1, .int l1), (2, .int l2), (3, .int l3), (4, .int l4)] [] (k54 l4 M)) (n : Nat) : ∀ (l5 : Int32) (M : Mw), Sw g x (fun q : Int32 × Mw => (some (.int q.1), q.2)) M 0 0 63 [(0, .ref (gA g 50 0 0)), (1, .int l1), (2, .int l2), (3, .int l3), (4, .int l4), (5, .int l5)] [] (it (fun _ _ => none) (B_X10_asksExtras_63 k54 l1 l2 l3 l4) n l5 M) := by
  induction n with
  | zero =>
    intro l5 M
    exact r_none
  | succ n ih =>
    intro l5 M
    exact t_X10_asksExtras_63 C hm k54 l1 l2 l3 l4 hk54 _ ih l5 M
set_option maxRecDepth 100000 in
set_option maxHeartbeats 4000000 in
theorem t_X10_asksExtras_54 {g : Gw} {x : Xw} (C : Cw g x cX10_asksExtras RX10 6 (some .boolean) 12) (hm : x.2.2.2.2.2.2.2.2.2.2.2 = (0, 0)) (l1 : Int32) (l2 : Int32) (l3 : Int32) (k54 : Int32 → Mw → Option (Int32 × Mw)) (hk54 : ∀ (l4 : Int32) (M : Mw), Sw g x (fun q : Int32 × Mw => (some (.int q.1), q.2)) M 0 0 54 [(0, .ref (gA g 50 0 0)), (1, .int l1), (2, .int l2), (3, .int l3), (4, .int l4)] [] (k54 l4 M)) (l4 : Int32) (M : Mw) : Sw g x (fun q : Int32 × Mw => (some (.int q.1), q.2)) M 0 0 54 [(0, .ref (gA g 50 0 0)), (1, .int l1), (2, .int l2), (3, .int l3), (4, .int l4)] [] (B_X10_asksExtras_54 l1 l2 l3 k54 l4 M) := by
  unfold B_X10_asksExtras_54
  refine r_iload C 4 dX10_asksExtras_54 rfl ?_
  refine r_iload_n C 3 dX10_asksExtras_56 rfl rfl ?_
  refine r_icmp_ge (tgt := 113) C dX10_asksExtras_57 (by decide) (fun h14 => ?_) (fun h14 => ?_)
  · refine r_iconst (v := 1) C dX10_asksExtras_113 (by decide) ?_
    exact r_zretc C dX10_asksExtras_114 rfl bz1 rfl (xk0 hm) (xn0 hm)
  · refine r_iconst (v := 0) C dX10_asksExtras_60 (by decide) ?_
    refine r_istore0 (lv' := [(5, .int 0), (0, .ref (gA g 50 0 0)), (1, .int l1), (2, .int l2), (3, .int l3), (4, .int l4)]) C dX10_asksExtras_61 (by decide) rfl ?_
    refine r_lv [1, 2, 3, 4, 5, 0] rfl ?_
    exact tl_X10_asksExtras_63 C hm k54 l1 l2 l3 l4 hk54 FU 0 M
set_option maxRecDepth 100000 in
set_option maxHeartbeats 4000000 in
theorem tl_X10_asksExtras_54 {g : Gw} {x : Xw} (C : Cw g x cX10_asksExtras RX10 6 (some .boolean) 12) (hm : x.2.2.2.2.2.2.2.2.2.2.2 = (0, 0)) (l1 : Int32) (l2 : Int32) (l3 : Int32) (n : Nat) : ∀ (l4 : Int32) (M : Mw), Sw g x (fun q : Int32 × Mw => (some (.int q.1), q.2)) M 0 0 54 [(0, .ref (gA g 50 0 0)), (1, .int l1), (2, .int l2), (3, .int l3), (4, .int l4)] [] (it (fun _ _ => none) (B_X10_asksExtras_54 l1 l2 l3) n l4 M) := by
  induction n with
  | zero =>
    intro l4 M
    exact r_none
  | succ n ih =>
    intro l4 M
    exact t_X10_asksExtras_54 C hm l1 l2 l3 _ ih l4 M
set_option maxRecDepth 100000 in
set_option maxHeartbeats 4000000 in
theorem c_X10_asksExtras {g : Gw} {l : Launch} (p1 : Int32) (p2 : Int32) (M : Mw) : Kw g l yX10_asksExtras cX10_asksExtras 6 (some .boolean) 12 0 0 [.ref (gA g 50 0 0), .int p1, .int p2] M (fun q : Int32 × Mw => (some (.int q.1), q.2)) (F_X10_asksExtras p1 p2 M) := by
  refine Kw.of (own := RX10) (lv0 := [(0, .ref (gA g 50 0 0)), (1, .int p1), (2, .int p2)]) (by decide +kernel) rfl (Nat.le_of_ble_eq_true rfl) rfl (fun x C hl hm => ?_)
  subst hl
  unfold F_X10_asksExtras
  refine r_aload_n C 0 dX10_asksExtras_0 rfl rfl ?_
  refine r_iload_n C 1 dX10_asksExtras_1 rfl rfl ?_
  refine r_callVRi (rest := []) C (c_X10_isTask p1 M) dX10_asksExtras_2 u_1266 in_50 (contW_50 g _ _ _ _ _) rfl u_1267 u_66 mi_X10_isTask (by decide) rfl rfl (Nat.le_of_ble_eq_true rfl) (xk1 hm (by decide)) (xn1 hm (by decide)) (fun v1 h2 => ?_)
  refine r_if_eq (tgt := 27) C dX10_asksExtras_5 (by decide) (fun h3 => ?_) (fun h3 => ?_)
  · refine r_iconst (v := 0) C dX10_asksExtras_27 (by decide) ?_
    exact r_zretc C dX10_asksExtras_28 rfl bz0 rfl (xk0 hm) (xn0 hm)
  · refine r_iload_n C 2 dX10_asksExtras_8 rfl rfl ?_
    refine r_i2l C dX10_asksExtras_9 ?_
    refine r_lconst (v := 0) C dX10_asksExtras_10 (by decide) ?_
    refine r_ldc2 (v := 4) C u_1303 dX10_asksExtras_11 ?_
    refine r_callSRi (rest := []) C (c_X10_in ((p2).toInt64) 0 4 M) dX10_asksExtras_14 u_1174 u_1175 mi_X10_in (by decide) rfl rfl (Nat.le_of_ble_eq_true rfl) (xk1 hm (by decide)) (xn1 hm (by decide)) (fun v4 h5 => ?_)
    refine r_if_eq (tgt := 27) C dX10_asksExtras_17 (by decide) (fun h6 => ?_) (fun h6 => ?_)
    · refine r_iconst (v := 0) C dX10_asksExtras_27 (by decide) ?_
      exact r_zretc C dX10_asksExtras_28 rfl bz0 rfl (xk0 hm) (xn0 hm)
    · refine r_aload_n C 0 dX10_asksExtras_20 rfl rfl ?_
      refine r_callVWi (rest := []) C (c_X10_asks M) dX10_asksExtras_21 u_1415 in_50 (contW_50 g _ _ _ _ _) rfl u_1416 u_88 mi_X10_asks (by decide) rfl rfl (Nat.le_of_ble_eq_true rfl) (xk1 hm (by decide)) (xn1 hm (by decide)) (fun q7 h8 => ?_)
      refine r_if_ne (tgt := 29) C dX10_asksExtras_24 (by decide) (fun h9 => ?_) (fun h9 => ?_)
      · refine r_iconst (v := 0) C dX10_asksExtras_27 (by decide) ?_
        exact r_zretc C dX10_asksExtras_28 rfl bz0 rfl (xk0 hm) (xn0 hm)
      · refine r_bipush (v := 51) C dX10_asksExtras_29 (by decide) ?_
        refine r_aload_n C 0 dX10_asksExtras_31 rfl rfl ?_
        refine gf_50_30 C dX10_asksExtras_32 u_1135 in_50 ?_
        refine r_iload_n C 1 dX10_asksExtras_35 rfl rfl ?_
        refine r_iald C dX10_asksExtras_36 in_66 (contW_66 g _ _ _ _ _) (fun h10 => ?_)
        refine r_mmin C u_1208 u_539 u_140 u_540 dX10_asksExtras_37 (by decide) (Nat.le_of_ble_eq_true rfl) (xk1 hm (by decide)) (xn1 hm (by decide)) ?_
        refine r_istore_n (lv' := fun v11 => [(3, .int v11), (0, .ref (gA g 50 0 0)), (1, .int p1), (2, .int p2)]) C dX10_asksExtras_40 rfl (by decide) (fun _ => rfl) (fun v11 => ?_)
        refine r_aload_n C 1 dX10_asksExtras_41 rfl rfl ?_
        refine r_iconst (v := (-1)) C dX10_asksExtras_42 (by decide) ?_
        refine pf_50_60 C dX10_asksExtras_43 u_1165 in_50 (fun M12 => ?_)
        refine r_aload_n C 1 dX10_asksExtras_46 rfl rfl ?_
        refine r_iconst (v := 0) C dX10_asksExtras_47 (by decide) ?_
        refine pf_50_61 C dX10_asksExtras_48 u_1166 in_50 (fun M13 => ?_)
        refine r_iconst (v := 0) C dX10_asksExtras_51 (by decide) ?_
        refine r_istore0 (lv' := [(4, .int 0), (3, .int v11), (0, .ref (gA g 50 0 0)), (1, .int p1), (2, .int p2)]) C dX10_asksExtras_52 (by decide) rfl ?_
        refine r_lv [2, 3, 4, 1, 0] rfl ?_
        exact tl_X10_asksExtras_54 C hm p1 p2 v11 FU 0 M13
def F_X10_longest (p1 : Int32) (p2 : Int32) (M : Mw) : Option (Int32 × Mw) :=
  ((F_X10_asksExtras p1 p2 M).bind (fun q1 => (if q1.1 = 0 then some ((-2), q1.2) else some ((q1.2.1 50 0 0 60), q1.2))))
set_option maxRecDepth 100000 in
set_option maxHeartbeats 4000000 in
theorem c_X10_longest {g : Gw} {l : Launch} (p1 : Int32) (p2 : Int32) (M : Mw) : Kw g l yX10_longest cX10_longest 3 (some .int) 13 0 0 [.ref (gA g 50 0 0), .int p1, .int p2] M (fun q : Int32 × Mw => (some (.int q.1), q.2)) (F_X10_longest p1 p2 M) := by
  refine Kw.of (own := RX10) (lv0 := [(0, .ref (gA g 50 0 0)), (1, .int p1), (2, .int p2)]) (by decide +kernel) rfl (Nat.le_of_ble_eq_true rfl) rfl (fun x C hl hm => ?_)
  subst hl
  unfold F_X10_longest
  refine r_aload_n C 0 dX10_longest_0 rfl rfl ?_
  refine r_iload_n C 1 dX10_longest_1 rfl rfl ?_
  refine r_iload_n C 2 dX10_longest_2 rfl rfl ?_
  refine r_callVWi (rest := []) C (c_X10_asksExtras p1 p2 M) dX10_longest_3 u_1639 in_50 (contW_50 g _ _ _ _ _) rfl u_1640 u_121 mi_X10_asksExtras (by decide) rfl rfl (Nat.le_of_ble_eq_true rfl) (xk1 hm (by decide)) (xn1 hm (by decide)) (fun q1 h2 => ?_)
  refine r_if_eq (tgt := 16) C dX10_longest_6 (by decide) (fun h3 => ?_) (fun h3 => ?_)
  · refine r_bipush (v := (-2)) C dX10_longest_16 (by decide) ?_
    exact r_iret C dX10_longest_18 rfl rfl (xk0 hm) (xn0 hm)
  · refine r_aload_n C 0 dX10_longest_9 rfl rfl ?_
    refine gf_50_60 C dX10_longest_10 u_1165 in_50 ?_
    refine r_goto (tgt := 18) C dX10_longest_13 (by decide) ?_
    exact r_iret C dX10_longest_18 rfl rfl (xk0 hm) (xn0 hm)
def F_X10_silent (p1 : Int32) (p2 : Int32) (M : Mw) : Option (Int32 × Mw) :=
  ((F_X10_asksExtras p1 p2 M).bind (fun q1 => (if q1.1 = 0 then some ((-2), q1.2) else some ((q1.2.1 50 0 0 61), q1.2))))
set_option maxRecDepth 100000 in
set_option maxHeartbeats 4000000 in
theorem c_X10_silent {g : Gw} {l : Launch} (p1 : Int32) (p2 : Int32) (M : Mw) : Kw g l yX10_silent cX10_silent 3 (some .int) 13 0 0 [.ref (gA g 50 0 0), .int p1, .int p2] M (fun q : Int32 × Mw => (some (.int q.1), q.2)) (F_X10_silent p1 p2 M) := by
  refine Kw.of (own := RX10) (lv0 := [(0, .ref (gA g 50 0 0)), (1, .int p1), (2, .int p2)]) (by decide +kernel) rfl (Nat.le_of_ble_eq_true rfl) rfl (fun x C hl hm => ?_)
  subst hl
  unfold F_X10_silent
  refine r_aload_n C 0 dX10_silent_0 rfl rfl ?_
  refine r_iload_n C 1 dX10_silent_1 rfl rfl ?_
  refine r_iload_n C 2 dX10_silent_2 rfl rfl ?_
  refine r_callVWi (rest := []) C (c_X10_asksExtras p1 p2 M) dX10_silent_3 u_1639 in_50 (contW_50 g _ _ _ _ _) rfl u_1640 u_121 mi_X10_asksExtras (by decide) rfl rfl (Nat.le_of_ble_eq_true rfl) (xk1 hm (by decide)) (xn1 hm (by decide)) (fun q1 h2 => ?_)
  refine r_if_eq (tgt := 16) C dX10_silent_6 (by decide) (fun h3 => ?_) (fun h3 => ?_)
  · refine r_bipush (v := (-2)) C dX10_silent_16 (by decide) ?_
    exact r_iret C dX10_silent_18 rfl rfl (xk0 hm) (xn0 hm)
  · refine r_aload_n C 0 dX10_silent_9 rfl rfl ?_
    refine gf_50_61 C dX10_silent_10 u_1166 in_50 ?_
    refine r_goto (tgt := 18) C dX10_silent_13 (by decide) ?_
    exact r_iret C dX10_silent_18 rfl rfl (xk0 hm) (xn0 hm)
