def F_X10_gap (p1 : Int32) (p2 : Int32) (M : Mw) : Option (Int32 × Mw) :=
  ((F_X10_isTask p1 M).bind (fun v1 => (if v1 = 0 then some ((-2), M) else (if p2 < 0 then some ((-2), M) else ((F_X10_asks M).bind (fun q5 => (if q5.1 = 0 then some ((-2), q5.2) else (if inb p1 5 then (if (q5.2.1 77 0 0 p1.toNatClampNeg) ≤ p2 then some ((-1), q5.2) else (if inb ((200 * p1) + p2) 1000 then some ((q5.2.1 82 0 0 ((200 * p1) + p2).toNatClampNeg), q5.2) else none)) else none))))))))
set_option maxRecDepth 100000 in
set_option maxHeartbeats 4000000 in
theorem c_X10_gap {g : Gw} {l : Launch} (p1 : Int32) (p2 : Int32) (M : Mw) : Kw g l yX10_gap cX10_gap 3 (some .int) 12 0 0 [.ref (gA g 50 0 0), .int p1, .int p2] M (fun q : Int32 × Mw => (some (.int q.1), q.2)) (F_X10_gap p1 p2 M) := by
  refine Kw.of (own := RX10) (lv0 := [(0, .ref (gA g 50 0 0)), (1, .int p1), (2, .int p2)]) (by decide +kernel) rfl (Nat.le_of_ble_eq_true rfl) rfl (fun x C hl hm => ?_)
  subst hl
  unfold F_X10_gap
  refine r_aload_n C 0 dX10_gap_0 rfl rfl ?_
  refine r_iload_n C 1 dX10_gap_1 rfl rfl ?_
  refine r_callVRi (rest := []) C (c_X10_isTask p1 M) dX10_gap_2 u_1266 in_50 (contW_50 g _ _ _ _ _) rfl u_1267 u_66 mi_X10_isTask (by decide) rfl rfl (Nat.le_of_ble_eq_true rfl) (xk1 hm (by decide)) (xn1 hm (by decide)) (fun v1 h2 => ?_)
  refine r_if_eq (tgt := 19) C dX10_gap_5 (by decide) (fun h3 => ?_) (fun h3 => ?_)
  · refine r_bipush (v := (-2)) C dX10_gap_19 (by decide) ?_
    exact r_iret C dX10_gap_21 rfl rfl (xk0 hm) (xn0 hm)
  · refine r_iload_n C 2 dX10_gap_8 rfl rfl ?_
    refine r_if_lt (tgt := 19) C dX10_gap_9 (by decide) (fun h4 => ?_) (fun h4 => ?_)
    · refine r_bipush (v := (-2)) C dX10_gap_19 (by decide) ?_
      exact r_iret C dX10_gap_21 rfl rfl (xk0 hm) (xn0 hm)
    · refine r_aload_n C 0 dX10_gap_12 rfl rfl ?_
      refine r_callVWi (rest := []) C (c_X10_asks M) dX10_gap_13 u_1415 in_50 (contW_50 g _ _ _ _ _) rfl u_1416 u_88 mi_X10_asks (by decide) rfl rfl (Nat.le_of_ble_eq_true rfl) (xk1 hm (by decide)) (xn1 hm (by decide)) (fun q5 h6 => ?_)
      refine r_if_ne (tgt := 22) C dX10_gap_16 (by decide) (fun h7 => ?_) (fun h7 => ?_)
      · refine r_bipush (v := (-2)) C dX10_gap_19 (by decide) ?_
        exact r_iret C dX10_gap_21 rfl rfl (xk0 hm) (xn0 hm)
      · refine r_iload_n C 2 dX10_gap_22 rfl rfl ?_
        refine r_aload_n C 0 dX10_gap_23 rfl rfl ?_
        refine gf_50_41 C dX10_gap_24 u_1146 in_50 ?_
        refine r_iload_n C 1 dX10_gap_27 rfl rfl ?_
        refine r_iald C dX10_gap_28 in_77 (contW_77 g _ _ _ _ _) (fun h8 => ?_)
        refine r_icmp_ge (tgt := 47) C dX10_gap_29 (by decide) (fun h9 => ?_) (fun h9 => ?_)
        · refine r_iconst (v := (-1)) C dX10_gap_47 (by decide) ?_
          exact r_iret C dX10_gap_48 rfl rfl (xk0 hm) (xn0 hm)
        · refine r_aload_n C 0 dX10_gap_32 rfl rfl ?_
          refine gf_50_46 C dX10_gap_33 u_1151 in_50 ?_
          refine r_sipush (v := 200) C dX10_gap_36 (by decide) ?_
          refine r_iload_n C 1 dX10_gap_39 rfl rfl ?_
          refine r_imul C dX10_gap_40 ?_
          refine r_iload_n C 2 dX10_gap_41 rfl rfl ?_
          refine r_iadd C dX10_gap_42 ?_
          refine r_iald C dX10_gap_43 in_82 (contW_82 g _ _ _ _ _) (fun h10 => ?_)
          refine r_goto (tgt := 48) C dX10_gap_44 (by decide) ?_
          exact r_iret C dX10_gap_48 rfl rfl (xk0 hm) (xn0 hm)
def F_X10_jobs (p1 : Int32) (p2 : Int32) (M : Mw) : Option (Int32 × Mw) :=
  ((F_X10_asksOf p1 p2 M).bind (fun q1 => (if q1.1 = 0 then some ((-2), q1.2) else (if inb p1 5 then some ((q1.2.1 66 0 0 p1.toNatClampNeg), q1.2) else none))))
set_option maxRecDepth 100000 in
set_option maxHeartbeats 4000000 in
theorem c_X10_jobs {g : Gw} {l : Launch} (p1 : Int32) (p2 : Int32) (M : Mw) : Kw g l yX10_jobs cX10_jobs 3 (some .int) 13 0 0 [.ref (gA g 50 0 0), .int p1, .int p2] M (fun q : Int32 × Mw => (some (.int q.1), q.2)) (F_X10_jobs p1 p2 M) := by
  refine Kw.of (own := RX10) (lv0 := [(0, .ref (gA g 50 0 0)), (1, .int p1), (2, .int p2)]) (by decide +kernel) rfl (Nat.le_of_ble_eq_true rfl) rfl (fun x C hl hm => ?_)
  subst hl
  unfold F_X10_jobs
  refine r_aload_n C 0 dX10_jobs_0 rfl rfl ?_
  refine r_iload_n C 1 dX10_jobs_1 rfl rfl ?_
  refine r_iload_n C 2 dX10_jobs_2 rfl rfl ?_
  refine r_callVWi (rest := []) C (c_X10_asksOf p1 p2 M) dX10_jobs_3 u_1509 in_50 (contW_50 g _ _ _ _ _) rfl u_1510 u_116 mi_X10_asksOf (by decide) rfl rfl (Nat.le_of_ble_eq_true rfl) (xk1 hm (by decide)) (xn1 hm (by decide)) (fun q1 h2 => ?_)
  refine r_if_eq (tgt := 18) C dX10_jobs_6 (by decide) (fun h3 => ?_) (fun h3 => ?_)
  · refine r_bipush (v := (-2)) C dX10_jobs_18 (by decide) ?_
    exact r_iret C dX10_jobs_20 rfl rfl (xk0 hm) (xn0 hm)
  · refine r_aload_n C 0 dX10_jobs_9 rfl rfl ?_
    refine gf_50_30 C dX10_jobs_10 u_1135 in_50 ?_
    refine r_iload_n C 1 dX10_jobs_13 rfl rfl ?_
    refine r_iald C dX10_jobs_14 in_66 (contW_66 g _ _ _ _ _) (fun h4 => ?_)
    refine r_goto (tgt := 20) C dX10_jobs_15 (by decide) ?_
    exact r_iret C dX10_jobs_20 rfl rfl (xk0 hm) (xn0 hm)
def F_X10_at (p1 : Int32) (p2 : Int32) (M : Mw) : Option (Int32 × Mw) :=
  ((F_X10_asksOf p1 p2 M).bind (fun q1 => (if q1.1 = 0 then some ((-2), q1.2) else (if inb p1 5 then (if (q1.2.1 65 0 0 p1.toNatClampNeg) = (-1) then some ((-1), q1.2) else (if inb p1 5 then some ((q1.2.1 67 0 0 p1.toNatClampNeg), q1.2) else none)) else none))))
set_option maxRecDepth 100000 in
set_option maxHeartbeats 4000000 in
theorem c_X10_at {g : Gw} {l : Launch} (p1 : Int32) (p2 : Int32) (M : Mw) : Kw g l yX10_at cX10_at 3 (some .int) 13 0 0 [.ref (gA g 50 0 0), .int p1, .int p2] M (fun q : Int32 × Mw => (some (.int q.1), q.2)) (F_X10_at p1 p2 M) := by
  refine Kw.of (own := RX10) (lv0 := [(0, .ref (gA g 50 0 0)), (1, .int p1), (2, .int p2)]) (by decide +kernel) rfl (Nat.le_of_ble_eq_true rfl) rfl (fun x C hl hm => ?_)
  subst hl
  unfold F_X10_at
  refine r_aload_n C 0 dX10_at_0 rfl rfl ?_
  refine r_iload_n C 1 dX10_at_1 rfl rfl ?_
  refine r_iload_n C 2 dX10_at_2 rfl rfl ?_
  refine r_callVWi (rest := []) C (c_X10_asksOf p1 p2 M) dX10_at_3 u_1509 in_50 (contW_50 g _ _ _ _ _) rfl u_1510 u_116 mi_X10_asksOf (by decide) rfl rfl (Nat.le_of_ble_eq_true rfl) (xk1 hm (by decide)) (xn1 hm (by decide)) (fun q1 h2 => ?_)
  refine r_if_ne (tgt := 12) C dX10_at_6 (by decide) (fun h3 => ?_) (fun h3 => ?_)
  · refine r_bipush (v := (-2)) C dX10_at_9 (by decide) ?_
    exact r_iret C dX10_at_11 rfl rfl (xk0 hm) (xn0 hm)
  · refine r_aload_n C 0 dX10_at_12 rfl rfl ?_
    refine gf_50_29 C dX10_at_13 u_1134 in_50 ?_
    refine r_iload_n C 1 dX10_at_16 rfl rfl ?_
    refine r_iald C dX10_at_17 in_65 (contW_65 g _ _ _ _ _) (fun h4 => ?_)
    refine r_iconst (v := (-1)) C dX10_at_18 (by decide) ?_
    refine r_icmp_ne (tgt := 26) C dX10_at_19 (by decide) (fun h5 => ?_) (fun h5 => ?_)
    · refine r_iconst (v := (-1)) C dX10_at_22 (by decide) ?_
      refine r_goto (tgt := 32) C dX10_at_23 (by decide) ?_
      exact r_iret C dX10_at_32 rfl rfl (xk0 hm) (xn0 hm)
    · refine r_aload_n C 0 dX10_at_26 rfl rfl ?_
      refine gf_50_31 C dX10_at_27 u_1136 in_50 ?_
      refine r_iload_n C 1 dX10_at_30 rfl rfl ?_
      refine r_iald C dX10_at_31 in_67 (contW_67 g _ _ _ _ _) (fun h6 => ?_)
      exact r_iret C dX10_at_32 rfl rfl (xk0 hm) (xn0 hm)
def F_X10_question (p1 : Int32) (p2 : Int32) (M : Mw) : Option (Int32 × Mw) :=
  ((F_X10_asksOf p1 p2 M).bind (fun q1 => (if q1.1 = 0 then some ((-2), q1.2) else (if inb p1 5 then some ((q1.2.1 69 0 0 p1.toNatClampNeg), q1.2) else none))))
set_option maxRecDepth 100000 in
set_option maxHeartbeats 4000000 in
theorem c_X10_question {g : Gw} {l : Launch} (p1 : Int32) (p2 : Int32) (M : Mw) : Kw g l yX10_question cX10_question 3 (some .int) 13 0 0 [.ref (gA g 50 0 0), .int p1, .int p2] M (fun q : Int32 × Mw => (some (.int q.1), q.2)) (F_X10_question p1 p2 M) := by
  refine Kw.of (own := RX10) (lv0 := [(0, .ref (gA g 50 0 0)), (1, .int p1), (2, .int p2)]) (by decide +kernel) rfl (Nat.le_of_ble_eq_true rfl) rfl (fun x C hl hm => ?_)
  subst hl
  unfold F_X10_question
  refine r_aload_n C 0 dX10_question_0 rfl rfl ?_
  refine r_iload_n C 1 dX10_question_1 rfl rfl ?_
  refine r_iload_n C 2 dX10_question_2 rfl rfl ?_
  refine r_callVWi (rest := []) C (c_X10_asksOf p1 p2 M) dX10_question_3 u_1509 in_50 (contW_50 g _ _ _ _ _) rfl u_1510 u_116 mi_X10_asksOf (by decide) rfl rfl (Nat.le_of_ble_eq_true rfl) (xk1 hm (by decide)) (xn1 hm (by decide)) (fun q1 h2 => ?_)
  refine r_if_eq (tgt := 18) C dX10_question_6 (by decide) (fun h3 => ?_) (fun h3 => ?_)
  · refine r_bipush (v := (-2)) C dX10_question_18 (by decide) ?_
    exact r_iret C dX10_question_20 rfl rfl (xk0 hm) (xn0 hm)
  · refine r_aload_n C 0 dX10_question_9 rfl rfl ?_
    refine gf_50_33 C dX10_question_10 u_1138 in_50 ?_
    refine r_iload_n C 1 dX10_question_13 rfl rfl ?_
    refine r_iald C dX10_question_14 in_69 (contW_69 g _ _ _ _ _) (fun h4 => ?_)
    refine r_goto (tgt := 20) C dX10_question_15 (by decide) ?_
    exact r_iret C dX10_question_20 rfl rfl (xk0 hm) (xn0 hm)
def F_X10_start (p1 : Int32) (p2 : Int32) (M : Mw) : Option (Int32 × Mw) :=
  ((F_X10_asksOf p1 p2 M).bind (fun q1 => (if q1.1 = 0 then some ((-2), q1.2) else (if inb p1 5 then some ((q1.2.1 64 0 0 p1.toNatClampNeg), q1.2) else none))))
set_option maxRecDepth 100000 in
set_option maxHeartbeats 4000000 in
theorem c_X10_start {g : Gw} {l : Launch} (p1 : Int32) (p2 : Int32) (M : Mw) : Kw g l yX10_start cX10_start 3 (some .int) 13 0 0 [.ref (gA g 50 0 0), .int p1, .int p2] M (fun q : Int32 × Mw => (some (.int q.1), q.2)) (F_X10_start p1 p2 M) := by
  refine Kw.of (own := RX10) (lv0 := [(0, .ref (gA g 50 0 0)), (1, .int p1), (2, .int p2)]) (by decide +kernel) rfl (Nat.le_of_ble_eq_true rfl) rfl (fun x C hl hm => ?_)
  subst hl
  unfold F_X10_start
  refine r_aload_n C 0 dX10_start_0 rfl rfl ?_
  refine r_iload_n C 1 dX10_start_1 rfl rfl ?_
  refine r_iload_n C 2 dX10_start_2 rfl rfl ?_
  refine r_callVWi (rest := []) C (c_X10_asksOf p1 p2 M) dX10_start_3 u_1509 in_50 (contW_50 g _ _ _ _ _) rfl u_1510 u_116 mi_X10_asksOf (by decide) rfl rfl (Nat.le_of_ble_eq_true rfl) (xk1 hm (by decide)) (xn1 hm (by decide)) (fun q1 h2 => ?_)
  refine r_if_eq (tgt := 18) C dX10_start_6 (by decide) (fun h3 => ?_) (fun h3 => ?_)
  · refine r_bipush (v := (-2)) C dX10_start_18 (by decide) ?_
    exact r_iret C dX10_start_20 rfl rfl (xk0 hm) (xn0 hm)
  · refine r_aload_n C 0 dX10_start_9 rfl rfl ?_
    refine gf_50_28 C dX10_start_10 u_1133 in_50 ?_
    refine r_iload_n C 1 dX10_start_13 rfl rfl ?_
    refine r_iald C dX10_start_14 in_64 (contW_64 g _ _ _ _ _) (fun h4 => ?_)
    refine r_goto (tgt := 20) C dX10_start_15 (by decide) ?_
    exact r_iret C dX10_start_20 rfl rfl (xk0 hm) (xn0 hm)
def F_X10_memory (p1 : Int32) (p2 : Int32) (M : Mw) : Option (Int32 × Mw) :=
  ((F_X10_asksOf p1 p2 M).bind (fun q1 => (if q1.1 = 0 then some ((-2), q1.2) else (if inb p1 5 then some ((q1.2.1 73 0 0 p1.toNatClampNeg), q1.2) else none))))
set_option maxRecDepth 100000 in
set_option maxHeartbeats 4000000 in
theorem c_X10_memory {g : Gw} {l : Launch} (p1 : Int32) (p2 : Int32) (M : Mw) : Kw g l yX10_memory cX10_memory 3 (some .int) 13 0 0 [.ref (gA g 50 0 0), .int p1, .int p2] M (fun q : Int32 × Mw => (some (.int q.1), q.2)) (F_X10_memory p1 p2 M) := by
  refine Kw.of (own := RX10) (lv0 := [(0, .ref (gA g 50 0 0)), (1, .int p1), (2, .int p2)]) (by decide +kernel) rfl (Nat.le_of_ble_eq_true rfl) rfl (fun x C hl hm => ?_)
  subst hl
  unfold F_X10_memory
  refine r_aload_n C 0 dX10_memory_0 rfl rfl ?_
  refine r_iload_n C 1 dX10_memory_1 rfl rfl ?_
  refine r_iload_n C 2 dX10_memory_2 rfl rfl ?_
  refine r_callVWi (rest := []) C (c_X10_asksOf p1 p2 M) dX10_memory_3 u_1509 in_50 (contW_50 g _ _ _ _ _) rfl u_1510 u_116 mi_X10_asksOf (by decide) rfl rfl (Nat.le_of_ble_eq_true rfl) (xk1 hm (by decide)) (xn1 hm (by decide)) (fun q1 h2 => ?_)
  refine r_if_eq (tgt := 18) C dX10_memory_6 (by decide) (fun h3 => ?_) (fun h3 => ?_)
  · refine r_bipush (v := (-2)) C dX10_memory_18 (by decide) ?_
    exact r_iret C dX10_memory_20 rfl rfl (xk0 hm) (xn0 hm)
  · refine r_aload_n C 0 dX10_memory_9 rfl rfl ?_
    refine gf_50_37 C dX10_memory_10 u_1142 in_50 ?_
    refine r_iload_n C 1 dX10_memory_13 rfl rfl ?_
    refine r_iald C dX10_memory_14 in_73 (contW_73 g _ _ _ _ _) (fun h4 => ?_)
    refine r_goto (tgt := 20) C dX10_memory_15 (by decide) ?_
    exact r_iret C dX10_memory_20 rfl rfl (xk0 hm) (xn0 hm)
def F_X10_health (p1 : Int32) (p2 : Int32) (M : Mw) : Option (Int32 × Mw) :=
  ((F_X10_asksOf p1 p2 M).bind (fun q1 => (if q1.1 = 0 then some ((-2), q1.2) else (if inb p1 5 then ((F_Jxf58ca_floatToIntBits_5c35a (q1.2.2.1 74 0 0 p1.toNatClampNeg) q1.2).bind (fun v5 => some (v5, q1.2))) else none))))
set_option maxRecDepth 100000 in
set_option maxHeartbeats 4000000 in
theorem c_X10_health {g : Gw} {l : Launch} (p1 : Int32) (p2 : Int32) (M : Mw) : Kw g l yX10_health cX10_health 3 (some .int) 13 0 0 [.ref (gA g 50 0 0), .int p1, .int p2] M (fun q : Int32 × Mw => (some (.int q.1), q.2)) (F_X10_health p1 p2 M) := by
  refine Kw.of (own := RX10) (lv0 := [(0, .ref (gA g 50 0 0)), (1, .int p1), (2, .int p2)]) (by decide +kernel) rfl (Nat.le_of_ble_eq_true rfl) rfl (fun x C hl hm => ?_)
  subst hl
  unfold F_X10_health
  refine r_aload_n C 0 dX10_health_0 rfl rfl ?_
  refine r_iload_n C 1 dX10_health_1 rfl rfl ?_
  refine r_iload_n C 2 dX10_health_2 rfl rfl ?_
  refine r_callVWi (rest := []) C (c_X10_asksOf p1 p2 M) dX10_health_3 u_1509 in_50 (contW_50 g _ _ _ _ _) rfl u_1510 u_116 mi_X10_asksOf (by decide) rfl rfl (Nat.le_of_ble_eq_true rfl) (xk1 hm (by decide)) (xn1 hm (by decide)) (fun q1 h2 => ?_)
  refine r_if_eq (tgt := 21) C dX10_health_6 (by decide) (fun h3 => ?_) (fun h3 => ?_)
  · refine r_bipush (v := (-2)) C dX10_health_21 (by decide) ?_
    exact r_iret C dX10_health_23 rfl rfl (xk0 hm) (xn0 hm)
  · refine r_aload_n C 0 dX10_health_9 rfl rfl ?_
    refine gf_50_38 C dX10_health_10 u_1143 in_50 ?_
    refine r_iload_n C 1 dX10_health_13 rfl rfl ?_
    refine r_fald C dX10_health_14 in_74 (contW_74 g _ _ _ _ _) (fun h4 => ?_)
    refine r_callSRi (rest := []) C (c_Jxf58ca_floatToIntBits_5c35a (q1.2.2.1 74 0 0 p1.toNatClampNeg) q1.2) dX10_health_15 u_1378 u_1379 mi_Jxf58ca_floatToIntBits_5c35a (by decide) rfl rfl (Nat.le_of_ble_eq_true rfl) (xk1 hm (by decide)) (xn1 hm (by decide)) (fun v5 h6 => ?_)
    refine r_goto (tgt := 23) C dX10_health_18 (by decide) ?_
    exact r_iret C dX10_health_23 rfl rfl (xk0 hm) (xn0 hm)
def F_X10_tenths (p1 : Int32) (p2 : Int32) (M : Mw) : Option (Int32 × Mw) :=
  ((F_X10_asksOf p1 p2 M).bind (fun q1 => (if q1.1 = 0 then some ((-2), q1.2) else (if inb p1 5 then (if nf (FP.fmul (q1.2.2.1 74 0 0 p1.toNatClampNeg) 1092616192) then some ((FP.f2i (FP.fmul (q1.2.2.1 74 0 0 p1.toNatClampNeg) 1092616192)), q1.2) else none) else none))))
set_option maxRecDepth 100000 in
set_option maxHeartbeats 4000000 in
theorem c_X10_tenths {g : Gw} {l : Launch} (p1 : Int32) (p2 : Int32) (M : Mw) : Kw g l yX10_tenths cX10_tenths 3 (some .int) 13 0 0 [.ref (gA g 50 0 0), .int p1, .int p2] M (fun q : Int32 × Mw => (some (.int q.1), q.2)) (F_X10_tenths p1 p2 M) := by
  refine Kw.of (own := RX10) (lv0 := [(0, .ref (gA g 50 0 0)), (1, .int p1), (2, .int p2)]) (by decide +kernel) rfl (Nat.le_of_ble_eq_true rfl) rfl (fun x C hl hm => ?_)
  subst hl
  unfold F_X10_tenths
  refine r_aload_n C 0 dX10_tenths_0 rfl rfl ?_
  refine r_iload_n C 1 dX10_tenths_1 rfl rfl ?_
  refine r_iload_n C 2 dX10_tenths_2 rfl rfl ?_
  refine r_callVWi (rest := []) C (c_X10_asksOf p1 p2 M) dX10_tenths_3 u_1509 in_50 (contW_50 g _ _ _ _ _) rfl u_1510 u_116 mi_X10_asksOf (by decide) rfl rfl (Nat.le_of_ble_eq_true rfl) (xk1 hm (by decide)) (xn1 hm (by decide)) (fun q1 h2 => ?_)
  refine r_if_eq (tgt := 23) C dX10_tenths_6 (by decide) (fun h3 => ?_) (fun h3 => ?_)
  · refine r_bipush (v := (-2)) C dX10_tenths_23 (by decide) ?_
    exact r_iret C dX10_tenths_25 rfl rfl (xk0 hm) (xn0 hm)
  · refine r_aload_n C 0 dX10_tenths_9 rfl rfl ?_
    refine gf_50_38 C dX10_tenths_10 u_1143 in_50 ?_
    refine r_iload_n C 1 dX10_tenths_13 rfl rfl ?_
    refine r_fald C dX10_tenths_14 in_74 (contW_74 g _ _ _ _ _) (fun h4 => ?_)
    refine r_ldcfw (v := 1092616192) C u_1457 dX10_tenths_15 ?_
    refine r_fmul C dX10_tenths_18 ?_
    refine r_f2i C dX10_tenths_19 ?_
    refine r_goto (tgt := 25) C dX10_tenths_20 (by decide) ?_
    exact r_iret C dX10_tenths_25 rfl rfl (xk0 hm) (xn0 hm)
def F_X10_margin (p1 : Int32) (p2 : Int32) (M : Mw) : Option (Int32 × Mw) :=
  ((F_X10_asksOf p1 p2 M).bind (fun q1 => (if q1.1 = 0 then some ((-2), q1.2) else (if inb p1 5 then (if (q1.2.1 81 0 0 p1.toNatClampNeg) = 0 then some ((-1), q1.2) else (if inb p1 5 then ((F_Jxf58ca_floatToIntBits_5c35a (q1.2.2.1 79 0 0 p1.toNatClampNeg) q1.2).bind (fun v7 => some (v7, q1.2))) else none)) else none))))
set_option maxRecDepth 100000 in
set_option maxHeartbeats 4000000 in
theorem c_X10_margin {g : Gw} {l : Launch} (p1 : Int32) (p2 : Int32) (M : Mw) : Kw g l yX10_margin cX10_margin 3 (some .int) 13 0 0 [.ref (gA g 50 0 0), .int p1, .int p2] M (fun q : Int32 × Mw => (some (.int q.1), q.2)) (F_X10_margin p1 p2 M) := by
  refine Kw.of (own := RX10) (lv0 := [(0, .ref (gA g 50 0 0)), (1, .int p1), (2, .int p2)]) (by decide +kernel) rfl (Nat.le_of_ble_eq_true rfl) rfl (fun x C hl hm => ?_)
  subst hl
  unfold F_X10_margin
  refine r_aload_n C 0 dX10_margin_0 rfl rfl ?_
  refine r_iload_n C 1 dX10_margin_1 rfl rfl ?_
  refine r_iload_n C 2 dX10_margin_2 rfl rfl ?_
  refine r_callVWi (rest := []) C (c_X10_asksOf p1 p2 M) dX10_margin_3 u_1509 in_50 (contW_50 g _ _ _ _ _) rfl u_1510 u_116 mi_X10_asksOf (by decide) rfl rfl (Nat.le_of_ble_eq_true rfl) (xk1 hm (by decide)) (xn1 hm (by decide)) (fun q1 h2 => ?_)
  refine r_if_ne (tgt := 12) C dX10_margin_6 (by decide) (fun h3 => ?_) (fun h3 => ?_)
  · refine r_bipush (v := (-2)) C dX10_margin_9 (by decide) ?_
    exact r_iret C dX10_margin_11 rfl rfl (xk0 hm) (xn0 hm)
  · refine r_aload_n C 0 dX10_margin_12 rfl rfl ?_
    refine gf_50_45 C dX10_margin_13 u_1150 in_50 ?_
    refine r_iload_n C 1 dX10_margin_16 rfl rfl ?_
    refine r_iald C dX10_margin_17 in_81 (contW_81 g _ _ _ _ _) (fun h4 => ?_)
    refine r_if_ne (tgt := 25) C dX10_margin_18 (by decide) (fun h5 => ?_) (fun h5 => ?_)
    · refine r_iconst (v := (-1)) C dX10_margin_21 (by decide) ?_
      refine r_goto (tgt := 34) C dX10_margin_22 (by decide) ?_
      exact r_iret C dX10_margin_34 rfl rfl (xk0 hm) (xn0 hm)
    · refine r_aload_n C 0 dX10_margin_25 rfl rfl ?_
      refine gf_50_43 C dX10_margin_26 u_1148 in_50 ?_
      refine r_iload_n C 1 dX10_margin_29 rfl rfl ?_
      refine r_fald C dX10_margin_30 in_79 (contW_79 g _ _ _ _ _) (fun h6 => ?_)
      refine r_callSRi (rest := []) C (c_Jxf58ca_floatToIntBits_5c35a (q1.2.2.1 79 0 0 p1.toNatClampNeg) q1.2) dX10_margin_31 u_1378 u_1379 mi_Jxf58ca_floatToIntBits_5c35a (by decide) rfl rfl (Nat.le_of_ble_eq_true rfl) (xk1 hm (by decide)) (xn1 hm (by decide)) (fun v7 h8 => ?_)
      exact r_iret C dX10_margin_34 rfl rfl (xk0 hm) (xn0 hm)
def F_Jxe99ae_isNaN_b9ae7 (p1 : UInt64) (M : Mw) : Option (Int32) :=
  (if (Op.cmpValue (FP.dcmp p1 p1) .l) = 0 then some 0 else some 1)
set_option maxRecDepth 100000 in
set_option maxHeartbeats 4000000 in
theorem c_Jxe99ae_isNaN_b9ae7 {g : Gw} {l : Launch} (p1 : UInt64) (M : Mw) : Kw g l yJxe99ae_isNaN_b9ae7 cJxe99ae_isNaN_b9ae7 2 (some .boolean) 1 0 0 [.double p1] M (fun v : Int32 => (some (.int v), M)) (F_Jxe99ae_isNaN_b9ae7 p1 M) := by
  refine Kw.ofF (own := RJxe99ae) (lv0 := [(0, .double p1)]) (by decide +kernel) rfl (Nat.le_of_ble_eq_true rfl) rfl (fun x C hl hm => ?_)
  subst hl
  unfold F_Jxe99ae_isNaN_b9ae7
  refine r_dload_n C 0 dJxe99ae_isNaN_b9ae7_0 rfl rfl ?_
  refine r_dload_n C 0 dJxe99ae_isNaN_b9ae7_1 rfl rfl ?_
  refine r_dcmp C dJxe99ae_isNaN_b9ae7_2 ?_
  refine r_if_eq (tgt := 10) C dJxe99ae_isNaN_b9ae7_3 (by decide) (fun h1 => ?_) (fun h1 => ?_)
  · refine r_iconst (v := 0) C dJxe99ae_isNaN_b9ae7_10 (by decide) ?_
    exact r_zretc C dJxe99ae_isNaN_b9ae7_11 rfl bz0 rfl (xk0 hm) (xn0 hm)
  · refine r_iconst (v := 1) C dJxe99ae_isNaN_b9ae7_6 (by decide) ?_
    refine r_goto (tgt := 11) C dJxe99ae_isNaN_b9ae7_7 (by decide) ?_
    exact r_zretc C dJxe99ae_isNaN_b9ae7_11 rfl bz1 rfl (xk0 hm) (xn0 hm)
def F_Jxe99ae_doubleToLongBits_ccdee (p1 : UInt64) (M : Mw) : Option (Int64) :=
  ((F_Jxe99ae_isNaN_b9ae7 p1 M).bind (fun v1 => (if v1 = 0 then some p1.toInt64 else some 9221120237041090560)))
set_option maxRecDepth 100000 in
set_option maxHeartbeats 4000000 in
theorem c_Jxe99ae_doubleToLongBits_ccdee {g : Gw} {l : Launch} (p1 : UInt64) (M : Mw) : Kw g l yJxe99ae_doubleToLongBits_ccdee cJxe99ae_doubleToLongBits_ccdee 2 (some .long) 2 0 0 [.double p1] M (fun v : Int64 => (some (.long v), M)) (F_Jxe99ae_doubleToLongBits_ccdee p1 M) := by
  refine Kw.ofF (own := RJxe99ae) (lv0 := [(0, .double p1)]) (by decide +kernel) rfl (Nat.le_of_ble_eq_true rfl) rfl (fun x C hl hm => ?_)
  subst hl
  unfold F_Jxe99ae_doubleToLongBits_ccdee
  refine r_dload_n C 0 dJxe99ae_doubleToLongBits_ccdee_0 rfl rfl ?_
  refine r_callSRi (rest := []) C (c_Jxe99ae_isNaN_b9ae7 p1 M) dJxe99ae_doubleToLongBits_ccdee_1 u_1561 u_1562 mi_Jxe99ae_isNaN_b9ae7 (by decide) rfl rfl (Nat.le_of_ble_eq_true rfl) (xk1 hm (by decide)) (xn1 hm (by decide)) (fun v1 h2 => ?_)
  refine r_if_ne (tgt := 12) C dJxe99ae_doubleToLongBits_ccdee_4 (by decide) (fun h3 => ?_) (fun h3 => ?_)
  · refine r_dload_n C 0 dJxe99ae_doubleToLongBits_ccdee_7 rfl rfl ?_
    refine r_d2bits C u_1564 u_1566 u_1565 u_144 dJxe99ae_doubleToLongBits_ccdee_8 (by decide) (Nat.le_of_ble_eq_true rfl) ?_
    exact r_lret C dJxe99ae_doubleToLongBits_ccdee_11 rfl rfl (xk0 hm) (xn0 hm)
  · refine r_ldc2 (v := 9221120237041090560) C u_1567 dJxe99ae_doubleToLongBits_ccdee_12 ?_
    exact r_lret C dJxe99ae_doubleToLongBits_ccdee_15 rfl rfl (xk0 hm) (xn0 hm)
def F_X10_mean (p1 : Int32) (p2 : Int32) (M : Mw) : Option (Int64 × Mw) :=
  ((F_X10_asksOf p1 p2 M).bind (fun q1 => (if q1.1 = 0 then some ((-2), q1.2) else (if inb p1 5 then (if (q1.2.1 81 0 0 p1.toNatClampNeg) = 0 then some ((-1), q1.2) else (if inb p1 5 then (if inb p1 5 then (if nd (FP.ddiv (q1.2.2.2 80 0 0 p1.toNatClampNeg) (FP.i2d (q1.2.1 81 0 0 p1.toNatClampNeg))) then ((F_Jxe99ae_doubleToLongBits_ccdee (FP.ddiv (q1.2.2.2 80 0 0 p1.toNatClampNeg) (FP.i2d (q1.2.1 81 0 0 p1.toNatClampNeg))) q1.2).bind (fun v8 => some (v8, q1.2))) else none) else none) else none)) else none))))
set_option maxRecDepth 100000 in
set_option maxHeartbeats 4000000 in
theorem c_X10_mean {g : Gw} {l : Launch} (p1 : Int32) (p2 : Int32) (M : Mw) : Kw g l yX10_mean cX10_mean 3 (some .long) 13 0 0 [.ref (gA g 50 0 0), .int p1, .int p2] M (fun q : Int64 × Mw => (some (.long q.1), q.2)) (F_X10_mean p1 p2 M) := by
  refine Kw.of (own := RX10) (lv0 := [(0, .ref (gA g 50 0 0)), (1, .int p1), (2, .int p2)]) (by decide +kernel) rfl (Nat.le_of_ble_eq_true rfl) rfl (fun x C hl hm => ?_)
  subst hl
  unfold F_X10_mean
  refine r_aload_n C 0 dX10_mean_0 rfl rfl ?_
  refine r_iload_n C 1 dX10_mean_1 rfl rfl ?_
  refine r_iload_n C 2 dX10_mean_2 rfl rfl ?_
  refine r_callVWi (rest := []) C (c_X10_asksOf p1 p2 M) dX10_mean_3 u_1509 in_50 (contW_50 g _ _ _ _ _) rfl u_1510 u_116 mi_X10_asksOf (by decide) rfl rfl (Nat.le_of_ble_eq_true rfl) (xk1 hm (by decide)) (xn1 hm (by decide)) (fun q1 h2 => ?_)
  refine r_if_ne (tgt := 13) C dX10_mean_6 (by decide) (fun h3 => ?_) (fun h3 => ?_)
  · refine r_ldc2 (v := (-2)) C u_1556 dX10_mean_9 ?_
    exact r_lret C dX10_mean_12 rfl rfl (xk0 hm) (xn0 hm)
  · refine r_aload_n C 0 dX10_mean_13 rfl rfl ?_
    refine gf_50_45 C dX10_mean_14 u_1150 in_50 ?_
    refine r_iload_n C 1 dX10_mean_17 rfl rfl ?_
    refine r_iald C dX10_mean_18 in_81 (contW_81 g _ _ _ _ _) (fun h4 => ?_)
    refine r_if_ne (tgt := 28) C dX10_mean_19 (by decide) (fun h5 => ?_) (fun h5 => ?_)
    · refine r_ldc2 (v := (-1)) C u_1557 dX10_mean_22 ?_
      refine r_goto (tgt := 45) C dX10_mean_25 (by decide) ?_
      exact r_lret C dX10_mean_45 rfl rfl (xk0 hm) (xn0 hm)
    · refine r_aload_n C 0 dX10_mean_28 rfl rfl ?_
      refine gf_50_44 C dX10_mean_29 u_1149 in_50 ?_
      refine r_iload_n C 1 dX10_mean_32 rfl rfl ?_
      refine r_dald C dX10_mean_33 in_80 (contW_80 g _ _ _ _ _) (fun h6 => ?_)
      refine r_aload_n C 0 dX10_mean_34 rfl rfl ?_
      refine gf_50_45 C dX10_mean_35 u_1150 in_50 ?_
      refine r_iload_n C 1 dX10_mean_38 rfl rfl ?_
      refine r_iald C dX10_mean_39 in_81 (contW_81 g _ _ _ _ _) (fun h7 => ?_)
      refine r_i2d C dX10_mean_40 ?_
      refine r_ddiv C dX10_mean_41 ?_
      refine r_callSRl (rest := []) C (c_Jxe99ae_doubleToLongBits_ccdee (FP.ddiv (q1.2.2.2 80 0 0 p1.toNatClampNeg) (FP.i2d (q1.2.1 81 0 0 p1.toNatClampNeg))) q1.2) dX10_mean_42 u_1558 u_1559 mi_Jxe99ae_doubleToLongBits_ccdee (by decide) rfl rfl (Nat.le_of_ble_eq_true rfl) (xk1 hm (by decide)) (xn1 hm (by decide)) (fun v8 h9 => ?_)
      exact r_lret C dX10_mean_45 rfl rfl (xk0 hm) (xn0 hm)
def F_X10_faults (p1 : Int32) (M : Mw) : Option (Int32 × Mw) :=
  ((F_X10_asksAt p1 M).bind (fun q1 => (if q1.1 = 0 then some ((-2), q1.2) else some ((q1.2.1 50 0 0 56), q1.2))))
set_option maxRecDepth 100000 in
set_option maxHeartbeats 4000000 in
theorem c_X10_faults {g : Gw} {l : Launch} (p1 : Int32) (M : Mw) : Kw g l yX10_faults cX10_faults 2 (some .int) 12 0 0 [.ref (gA g 50 0 0), .int p1] M (fun q : Int32 × Mw => (some (.int q.1), q.2)) (F_X10_faults p1 M) := by
  refine Kw.of (own := RX10) (lv0 := [(0, .ref (gA g 50 0 0)), (1, .int p1)]) (by decide +kernel) rfl (Nat.le_of_ble_eq_true rfl) rfl (fun x C hl hm => ?_)
  subst hl
  unfold F_X10_faults
  refine r_aload_n C 0 dX10_faults_0 rfl rfl ?_
  refine r_iload_n C 1 dX10_faults_1 rfl rfl ?_
  refine r_callVWi (rest := []) C (c_X10_asksAt p1 M) dX10_faults_2 u_1499 in_50 (contW_50 g _ _ _ _ _) rfl u_1500 u_114 mi_X10_asksAt (by decide) rfl rfl (Nat.le_of_ble_eq_true rfl) (xk1 hm (by decide)) (xn1 hm (by decide)) (fun q1 h2 => ?_)
  refine r_if_eq (tgt := 15) C dX10_faults_5 (by decide) (fun h3 => ?_) (fun h3 => ?_)
  · refine r_bipush (v := (-2)) C dX10_faults_15 (by decide) ?_
    exact r_iret C dX10_faults_17 rfl rfl (xk0 hm) (xn0 hm)
  · refine r_aload_n C 0 dX10_faults_8 rfl rfl ?_
    refine gf_50_56 C dX10_faults_9 u_1161 in_50 ?_
    refine r_goto (tgt := 17) C dX10_faults_12 (by decide) ?_
    exact r_iret C dX10_faults_17 rfl rfl (xk0 hm) (xn0 hm)
def F_X10_record (p1 : Int32) (p2 : Int32) (M : Mw) : Option (Int32 × Mw) :=
  (if p1 < 0 then some ((-2), M) else ((F_X10_in ((p2).toInt64) 0 3 M).bind (fun v2 => (if v2 = 0 then some ((-2), M) else ((F_X10_asks M).bind (fun q5 => (if q5.1 = 0 then some ((-2), q5.2) else (if p1 < (q5.2.1 50 0 0 56) then (if p2 = 0 then (if inb p1 4000 then some ((q5.2.1 88 0 0 p1.toNatClampNeg), q5.2) else none) else (if p2 = 1 then (if inb p1 4000 then some ((q5.2.1 89 0 0 p1.toNatClampNeg), q5.2) else none) else (if p2 = 2 then (if inb p1 4000 then some ((q5.2.1 90 0 0 p1.toNatClampNeg), q5.2) else none) else (if inb p1 4000 then some ((q5.2.1 91 0 0 p1.toNatClampNeg), q5.2) else none)))) else some ((-1), q5.2)))))))))
set_option maxRecDepth 100000 in
set_option maxHeartbeats 4000000 in
theorem c_X10_record {g : Gw} {l : Launch} (p1 : Int32) (p2 : Int32) (M : Mw) : Kw g l yX10_record cX10_record 3 (some .int) 12 0 0 [.ref (gA g 50 0 0), .int p1, .int p2] M (fun q : Int32 × Mw => (some (.int q.1), q.2)) (F_X10_record p1 p2 M) := by
  refine Kw.of (own := RX10) (lv0 := [(0, .ref (gA g 50 0 0)), (1, .int p1), (2, .int p2)]) (by decide +kernel) rfl (Nat.le_of_ble_eq_true rfl) rfl (fun x C hl hm => ?_)
  subst hl
  unfold F_X10_record
  refine r_iload_n C 1 dX10_record_0 rfl rfl ?_
  refine r_if_lt (tgt := 23) C dX10_record_1 (by decide) (fun h1 => ?_) (fun h1 => ?_)
  · refine r_bipush (v := (-2)) C dX10_record_23 (by decide) ?_
    exact r_iret C dX10_record_25 rfl rfl (xk0 hm) (xn0 hm)
  · refine r_iload_n C 2 dX10_record_4 rfl rfl ?_
    refine r_i2l C dX10_record_5 ?_
    refine r_lconst (v := 0) C dX10_record_6 (by decide) ?_
    refine r_ldc2 (v := 3) C u_1339 dX10_record_7 ?_
    refine r_callSRi (rest := []) C (c_X10_in ((p2).toInt64) 0 3 M) dX10_record_10 u_1174 u_1175 mi_X10_in (by decide) rfl rfl (Nat.le_of_ble_eq_true rfl) (xk1 hm (by decide)) (xn1 hm (by decide)) (fun v2 h3 => ?_)
    refine r_if_eq (tgt := 23) C dX10_record_13 (by decide) (fun h4 => ?_) (fun h4 => ?_)
    · refine r_bipush (v := (-2)) C dX10_record_23 (by decide) ?_
      exact r_iret C dX10_record_25 rfl rfl (xk0 hm) (xn0 hm)
    · refine r_aload_n C 0 dX10_record_16 rfl rfl ?_
      refine r_callVWi (rest := []) C (c_X10_asks M) dX10_record_17 u_1415 in_50 (contW_50 g _ _ _ _ _) rfl u_1416 u_88 mi_X10_asks (by decide) rfl rfl (Nat.le_of_ble_eq_true rfl) (xk1 hm (by decide)) (xn1 hm (by decide)) (fun q5 h6 => ?_)
      refine r_if_ne (tgt := 26) C dX10_record_20 (by decide) (fun h7 => ?_) (fun h7 => ?_)
      · refine r_bipush (v := (-2)) C dX10_record_23 (by decide) ?_
        exact r_iret C dX10_record_25 rfl rfl (xk0 hm) (xn0 hm)
      · refine r_iload_n C 1 dX10_record_26 rfl rfl ?_
        refine r_aload_n C 0 dX10_record_27 rfl rfl ?_
        refine gf_50_56 C dX10_record_28 u_1161 in_50 ?_
        refine r_icmp_lt (tgt := 36) C dX10_record_31 (by decide) (fun h8 => ?_) (fun h8 => ?_)
        · refine r_iload_n C 2 dX10_record_36 rfl rfl ?_
          refine r_if_ne (tgt := 49) C dX10_record_37 (by decide) (fun h9 => ?_) (fun h9 => ?_)
          · refine r_aload_n C 0 dX10_record_40 rfl rfl ?_
            refine gf_50_52 C dX10_record_41 u_1157 in_50 ?_
            refine r_iload_n C 1 dX10_record_44 rfl rfl ?_
            refine r_iald C dX10_record_45 in_88 (contW_88 g _ _ _ _ _) (fun h15 => ?_)
            refine r_goto (tgt := 83) C dX10_record_46 (by decide) ?_
            exact r_iret C dX10_record_83 rfl rfl (xk0 hm) (xn0 hm)
          · refine r_iload_n C 2 dX10_record_49 rfl rfl ?_
            refine r_iconst (v := 1) C dX10_record_50 (by decide) ?_
            refine r_icmp_ne (tgt := 63) C dX10_record_51 (by decide) (fun h10 => ?_) (fun h10 => ?_)
            · refine r_aload_n C 0 dX10_record_54 rfl rfl ?_
              refine gf_50_53 C dX10_record_55 u_1158 in_50 ?_
              refine r_iload_n C 1 dX10_record_58 rfl rfl ?_
              refine r_iald C dX10_record_59 in_89 (contW_89 g _ _ _ _ _) (fun h14 => ?_)
              refine r_goto (tgt := 83) C dX10_record_60 (by decide) ?_
              exact r_iret C dX10_record_83 rfl rfl (xk0 hm) (xn0 hm)
            · refine r_iload_n C 2 dX10_record_63 rfl rfl ?_
              refine r_iconst (v := 2) C dX10_record_64 (by decide) ?_
              refine r_icmp_ne (tgt := 77) C dX10_record_65 (by decide) (fun h11 => ?_) (fun h11 => ?_)
              · refine r_aload_n C 0 dX10_record_68 rfl rfl ?_
                refine gf_50_54 C dX10_record_69 u_1159 in_50 ?_
                refine r_iload_n C 1 dX10_record_72 rfl rfl ?_
                refine r_iald C dX10_record_73 in_90 (contW_90 g _ _ _ _ _) (fun h13 => ?_)
                refine r_goto (tgt := 83) C dX10_record_74 (by decide) ?_
                exact r_iret C dX10_record_83 rfl rfl (xk0 hm) (xn0 hm)
              · refine r_aload_n C 0 dX10_record_77 rfl rfl ?_
                refine gf_50_55 C dX10_record_78 u_1160 in_50 ?_
                refine r_iload_n C 1 dX10_record_81 rfl rfl ?_
                refine r_iald C dX10_record_82 in_91 (contW_91 g _ _ _ _ _) (fun h12 => ?_)
                exact r_iret C dX10_record_83 rfl rfl (xk0 hm) (xn0 hm)
        · refine r_iconst (v := (-1)) C dX10_record_34 (by decide) ?_
          exact r_iret C dX10_record_35 rfl rfl (xk0 hm) (xn0 hm)
def B_X10_ledger_58 (k24 : Int32 → Int32 → Option (Int32 × Mw)) (l1 : Int32) (l3 : Int32) (s0 : Int32) (s1 : Int32) (s2 : Int32) (M : Mw) : Option (Int32 × Mw) :=
  (if s1 = s0 then (bd (s2 + 1) (fun v14 => (bd (l3 + 1) (fun v15 => (k24 v14 v15))))) else (bd (s2 + 0) (fun v12 => (bd (l3 + 1) (fun v13 => (k24 v12 v13))))))
def B_X10_ledger_48 (k24 : Int32 → Int32 → Option (Int32 × Mw)) (l1 : Int32) (l3 : Int32) (s0 : Int32) (s1 : Int32) (M : Mw) : Option (Int32 × Mw) :=
  (if l1 = 1 then (B_X10_ledger_58 k24 l1 l3 1 s0 s1 M) else (B_X10_ledger_58 k24 l1 l3 0 s0 s1 M))
def B_X10_ledger_24 (l1 : Int32) (M : Mw) (k24 : Int32 → Int32 → Option (Int32 × Mw)) (l2 : Int32) (l3 : Int32) : Option (Int32 × Mw) :=
  (if (M.1 50 0 0 56) ≤ l3 then some (l2, M) else (if inb l3 4000 then (if (M.1 89 0 0 l3.toNatClampNeg) ≤ 5 then (B_X10_ledger_48 k24 l1 l3 0 l2 M) else (B_X10_ledger_48 k24 l1 l3 1 l2 M)) else none))
def F_X10_ledger (p1 : Int32) (M : Mw) : Option (Int32 × Mw) :=
  ((F_X10_in ((p1).toInt64) 0 1 M).bind (fun v1 => (if v1 = 0 then some ((-2), M) else ((F_X10_asks M).bind (fun q4 => (if q4.1 = 0 then some ((-2), q4.2) else (it (fun _ _ => none) (B_X10_ledger_24 p1 q4.2) FU 0 0)))))))
set_option maxRecDepth 100000 in
set_option maxHeartbeats 4000000 in
theorem t_X10_ledger_58 {g : Gw} {x : Xw} (C : Cw g x cX10_ledger RX10 4 (some .int) 12) (hm : x.2.2.2.2.2.2.2.2.2.2.2 = (0, 0)) (M : Mw) (k24 : Int32 → Int32 → Option (Int32 × Mw)) (l1 : Int32) (l3 : Int32) (s0 : Int32) (s1 : Int32) (s2 : Int32) (hk24 : ∀ (l2 : Int32) (l3 : Int32), Sw g x (fun q : Int32 × Mw => (some (.int q.1), q.2)) M 0 0 24 [(0, .ref (gA g 50 0 0)), (1, .int l1), (2, .int l2), (3, .int l3)] [] (k24 l2 l3)) : Sw g x (fun q : Int32 × Mw => (some (.int q.1), q.2)) M 0 0 58 [(0, .ref (gA g 50 0 0)), (1, .int l1), (3, .int l3)] [.int s0, .int s1, .int s2] (B_X10_ledger_58 k24 l1 l3 s0 s1 s2 M) := by
  unfold B_X10_ledger_58
  refine r_icmp_ne (tgt := 65) C dX10_ledger_58 (by decide) (fun h11 => ?_) (fun h11 => ?_)
  · refine r_iconst (v := 1) C dX10_ledger_61 (by decide) ?_
    refine r_goto (tgt := 66) C dX10_ledger_62 (by decide) ?_
    refine r_iadd C dX10_ledger_66 ?_
    refine r_istore_n (lv' := fun v14 => [(2, .int v14), (0, .ref (gA g 50 0 0)), (1, .int l1), (3, .int l3)]) C dX10_ledger_67 rfl (by decide) (fun _ => rfl) (fun v14 => ?_)
    refine r_iinc (c := 1) (lv' := fun v15 => [(3, .int v15), (2, .int v14), (0, .ref (gA g 50 0 0)), (1, .int l1)]) C 3 dX10_ledger_68 rfl (by decide) (by decide) (fun _ => rfl) (fun v15 => ?_)
    refine r_goto (tgt := 24) C dX10_ledger_71 (by decide) ?_
    refine r_lv [2, 3, 1, 0] rfl ?_
    exact hk24 v14 v15
  · refine r_iconst (v := 0) C dX10_ledger_65 (by decide) ?_
    refine r_iadd C dX10_ledger_66 ?_
    refine r_istore_n (lv' := fun v12 => [(2, .int v12), (0, .ref (gA g 50 0 0)), (1, .int l1), (3, .int l3)]) C dX10_ledger_67 rfl (by decide) (fun _ => rfl) (fun v12 => ?_)
    refine r_iinc (c := 1) (lv' := fun v13 => [(3, .int v13), (2, .int v12), (0, .ref (gA g 50 0 0)), (1, .int l1)]) C 3 dX10_ledger_68 rfl (by decide) (by decide) (fun _ => rfl) (fun v13 => ?_)
    refine r_goto (tgt := 24) C dX10_ledger_71 (by decide) ?_
    refine r_lv [2, 3, 1, 0] rfl ?_
    exact hk24 v12 v13
set_option maxRecDepth 100000 in
set_option maxHeartbeats 4000000 in
theorem t_X10_ledger_48 {g : Gw} {x : Xw} (C : Cw g x cX10_ledger RX10 4 (some .int) 12) (hm : x.2.2.2.2.2.2.2.2.2.2.2 = (0, 0)) (M : Mw) (k24 : Int32 → Int32 → Option (Int32 × Mw)) (l1 : Int32) (l3 : Int32) (s0 : Int32) (s1 : Int32) (hk24 : ∀ (l2 : Int32) (l3 : Int32), Sw g x (fun q : Int32 × Mw => (some (.int q.1), q.2)) M 0 0 24 [(0, .ref (gA g 50 0 0)), (1, .int l1), (2, .int l2), (3, .int l3)] [] (k24 l2 l3)) : Sw g x (fun q : Int32 × Mw => (some (.int q.1), q.2)) M 0 0 48 [(0, .ref (gA g 50 0 0)), (1, .int l1), (3, .int l3)] [.int s0, .int s1] (B_X10_ledger_48 k24 l1 l3 s0 s1 M) := by
  unfold B_X10_ledger_48
  refine r_iload_n C 1 dX10_ledger_48 rfl rfl ?_
  refine r_iconst (v := 1) C dX10_ledger_49 (by decide) ?_
  refine r_icmp_ne (tgt := 57) C dX10_ledger_50 (by decide) (fun h10 => ?_) (fun h10 => ?_)
  · refine r_iconst (v := 1) C dX10_ledger_53 (by decide) ?_
    refine r_goto (tgt := 58) C dX10_ledger_54 (by decide) ?_
    exact t_X10_ledger_58 C hm M k24 l1 l3 1 s0 s1 hk24
  · refine r_iconst (v := 0) C dX10_ledger_57 (by decide) ?_
    exact t_X10_ledger_58 C hm M k24 l1 l3 0 s0 s1 hk24
set_option maxRecDepth 100000 in
set_option maxHeartbeats 4000000 in
theorem t_X10_ledger_24 {g : Gw} {x : Xw} (C : Cw g x cX10_ledger RX10 4 (some .int) 12) (hm : x.2.2.2.2.2.2.2.2.2.2.2 = (0, 0)) (M : Mw) (l1 : Int32) (k24 : Int32 → Int32 → Option (Int32 × Mw)) (hk24 : ∀ (l2 : Int32) (l3 : Int32), Sw g x (fun q : Int32 × Mw => (some (.int q.1), q.2)) M 0 0 24 [(0, .ref (gA g 50 0 0)), (1, .int l1), (2, .int l2), (3, .int l3)] [] (k24 l2 l3)) (l2 : Int32) (l3 : Int32) : Sw g x (fun q : Int32 × Mw => (some (.int q.1), q.2)) M 0 0 24 [(0, .ref (gA g 50 0 0)), (1, .int l1), (2, .int l2), (3, .int l3)] [] (B_X10_ledger_24 l1 M k24 l2 l3) := by
  unfold B_X10_ledger_24
  refine r_iload_n C 3 dX10_ledger_24 rfl rfl ?_
  refine r_aload_n C 0 dX10_ledger_25 rfl rfl ?_
  refine gf_50_56 C dX10_ledger_26 u_1161 in_50 ?_
  refine r_icmp_ge (tgt := 74) C dX10_ledger_29 (by decide) (fun h7 => ?_) (fun h7 => ?_)
  · refine r_iload_n C 2 dX10_ledger_74 rfl rfl ?_
    exact r_iret C dX10_ledger_75 rfl rfl (xk0 hm) (xn0 hm)
  · refine r_iload_n C 2 dX10_ledger_32 rfl rfl ?_
    refine r_aload_n C 0 dX10_ledger_33 rfl rfl ?_
    refine gf_50_53 C dX10_ledger_34 u_1158 in_50 ?_
    refine r_iload_n C 3 dX10_ledger_37 rfl rfl ?_
    refine r_iald C dX10_ledger_38 in_89 (contW_89 g _ _ _ _ _) (fun h8 => ?_)
    refine r_iconst (v := 5) C dX10_ledger_39 (by decide) ?_
    refine r_icmp_le (tgt := 47) C dX10_ledger_40 (by decide) (fun h9 => ?_) (fun h9 => ?_)
    · refine r_iconst (v := 0) C dX10_ledger_47 (by decide) ?_
      refine r_lv [0, 1, 3] rfl ?_
      exact t_X10_ledger_48 C hm M k24 l1 l3 0 l2 hk24
    · refine r_iconst (v := 1) C dX10_ledger_43 (by decide) ?_
      refine r_goto (tgt := 48) C dX10_ledger_44 (by decide) ?_
      refine r_lv [0, 1, 3] rfl ?_
      exact t_X10_ledger_48 C hm M k24 l1 l3 1 l2 hk24
set_option maxRecDepth 100000 in
set_option maxHeartbeats 4000000 in
theorem tl_X10_ledger_24 {g : Gw} {x : Xw} (C : Cw g x cX10_ledger RX10 4 (some .int) 12) (hm : x.2.2.2.2.2.2.2.2.2.2.2 = (0, 0)) (M : Mw) (l1 : Int32) (n : Nat) : ∀ (l2 : Int32) (l3 : Int32), Sw g x (fun q : Int32 × Mw => (some (.int q.1), q.2)) M 0 0 24 [(0, .ref (gA g 50 0 0)), (1, .int l1), (2, .int l2), (3, .int l3)] [] (it (fun _ _ => none) (B_X10_ledger_24 l1 M) n l2 l3) := by
  induction n with
  | zero =>
    intro l2 l3
    exact r_none
  | succ n ih =>
    intro l2 l3
    exact t_X10_ledger_24 C hm M l1 _ ih l2 l3
set_option maxRecDepth 100000 in
set_option maxHeartbeats 4000000 in
theorem c_X10_ledger {g : Gw} {l : Launch} (p1 : Int32) (M : Mw) : Kw g l yX10_ledger cX10_ledger 4 (some .int) 12 0 0 [.ref (gA g 50 0 0), .int p1] M (fun q : Int32 × Mw => (some (.int q.1), q.2)) (F_X10_ledger p1 M) := by
  refine Kw.of (own := RX10) (lv0 := [(0, .ref (gA g 50 0 0)), (1, .int p1)]) (by decide +kernel) rfl (Nat.le_of_ble_eq_true rfl) rfl (fun x C hl hm => ?_)
  subst hl
  unfold F_X10_ledger
  refine r_iload_n C 1 dX10_ledger_0 rfl rfl ?_
  refine r_i2l C dX10_ledger_1 ?_
  refine r_lconst (v := 0) C dX10_ledger_2 (by decide) ?_
  refine r_lconst (v := 1) C dX10_ledger_3 (by decide) ?_
  refine r_callSRi (rest := []) C (c_X10_in ((p1).toInt64) 0 1 M) dX10_ledger_4 u_1174 u_1175 mi_X10_in (by decide) rfl rfl (Nat.le_of_ble_eq_true rfl) (xk1 hm (by decide)) (xn1 hm (by decide)) (fun v1 h2 => ?_)
  refine r_if_eq (tgt := 17) C dX10_ledger_7 (by decide) (fun h3 => ?_) (fun h3 => ?_)
  · refine r_bipush (v := (-2)) C dX10_ledger_17 (by decide) ?_
    exact r_iret C dX10_ledger_19 rfl rfl (xk0 hm) (xn0 hm)
  · refine r_aload_n C 0 dX10_ledger_10 rfl rfl ?_
    refine r_callVWi (rest := []) C (c_X10_asks M) dX10_ledger_11 u_1415 in_50 (contW_50 g _ _ _ _ _) rfl u_1416 u_88 mi_X10_asks (by decide) rfl rfl (Nat.le_of_ble_eq_true rfl) (xk1 hm (by decide)) (xn1 hm (by decide)) (fun q4 h5 => ?_)
    refine r_if_ne (tgt := 20) C dX10_ledger_14 (by decide) (fun h6 => ?_) (fun h6 => ?_)
    · refine r_bipush (v := (-2)) C dX10_ledger_17 (by decide) ?_
      exact r_iret C dX10_ledger_19 rfl rfl (xk0 hm) (xn0 hm)
    · refine r_iconst (v := 0) C dX10_ledger_20 (by decide) ?_
      refine r_istore_n0 (lv' := [(2, .int 0), (0, .ref (gA g 50 0 0)), (1, .int p1)]) C dX10_ledger_21 rfl (by decide) rfl ?_
      refine r_iconst (v := 0) C dX10_ledger_22 (by decide) ?_
      refine r_istore_n0 (lv' := [(3, .int 0), (2, .int 0), (0, .ref (gA g 50 0 0)), (1, .int p1)]) C dX10_ledger_23 rfl (by decide) rfl ?_
      refine r_lv [2, 3, 1, 0] rfl ?_
      exact tl_X10_ledger_24 C hm q4.2 p1 FU 0 0
def B_X10_kinds_26 (l1 : Int32) (M : Mw) (k26 : Int32 → Int32 → Option (Int32 × Mw)) (l2 : Int32) (l3 : Int32) : Option (Int32 × Mw) :=
  (if (M.1 50 0 0 56) ≤ l3 then some (l2, M) else (if inb l3 4000 then (if (M.1 89 0 0 l3.toNatClampNeg) = l1 then (bd (l2 + 1) (fun v12 => (bd (l3 + 1) (fun v13 => (k26 v12 v13))))) else (bd (l2 + 0) (fun v10 => (bd (l3 + 1) (fun v11 => (k26 v10 v11)))))) else none))
def F_X10_kinds (p1 : Int32) (M : Mw) : Option (Int32 × Mw) :=
  ((F_X10_in ((p1).toInt64) 1 7 M).bind (fun v1 => (if v1 = 0 then some ((-2), M) else ((F_X10_asks M).bind (fun q4 => (if q4.1 = 0 then some ((-2), q4.2) else (it (fun _ _ => none) (B_X10_kinds_26 p1 q4.2) FU 0 0)))))))
set_option maxRecDepth 100000 in
set_option maxHeartbeats 4000000 in
theorem t_X10_kinds_26 {g : Gw} {x : Xw} (C : Cw g x cX10_kinds RX10 4 (some .int) 12) (hm : x.2.2.2.2.2.2.2.2.2.2.2 = (0, 0)) (M : Mw) (l1 : Int32) (k26 : Int32 → Int32 → Option (Int32 × Mw)) (hk26 : ∀ (l2 : Int32) (l3 : Int32), Sw g x (fun q : Int32 × Mw => (some (.int q.1), q.2)) M 0 0 26 [(0, .ref (gA g 50 0 0)), (1, .int l1), (2, .int l2), (3, .int l3)] [] (k26 l2 l3)) (l2 : Int32) (l3 : Int32) : Sw g x (fun q : Int32 × Mw => (some (.int q.1), q.2)) M 0 0 26 [(0, .ref (gA g 50 0 0)), (1, .int l1), (2, .int l2), (3, .int l3)] [] (B_X10_kinds_26 l1 M k26 l2 l3) := by
  unfold B_X10_kinds_26
  refine r_iload_n C 3 dX10_kinds_26 rfl rfl ?_
  refine r_aload_n C 0 dX10_kinds_27 rfl rfl ?_
  refine gf_50_56 C dX10_kinds_28 u_1161 in_50 ?_
  refine r_icmp_ge (tgt := 58) C dX10_kinds_31 (by decide) (fun h7 => ?_) (fun h7 => ?_)
  · refine r_iload_n C 2 dX10_kinds_58 rfl rfl ?_
    exact r_iret C dX10_kinds_59 rfl rfl (xk0 hm) (xn0 hm)
  · refine r_iload_n C 2 dX10_kinds_34 rfl rfl ?_
    refine r_aload_n C 0 dX10_kinds_35 rfl rfl ?_
    refine gf_50_53 C dX10_kinds_36 u_1158 in_50 ?_
    refine r_iload_n C 3 dX10_kinds_39 rfl rfl ?_
    refine r_iald C dX10_kinds_40 in_89 (contW_89 g _ _ _ _ _) (fun h8 => ?_)
    refine r_iload_n C 1 dX10_kinds_41 rfl rfl ?_
    refine r_icmp_ne (tgt := 49) C dX10_kinds_42 (by decide) (fun h9 => ?_) (fun h9 => ?_)
    · refine r_iconst (v := 1) C dX10_kinds_45 (by decide) ?_
      refine r_goto (tgt := 50) C dX10_kinds_46 (by decide) ?_
      refine r_iadd C dX10_kinds_50 ?_
      refine r_istore_n (lv' := fun v12 => [(2, .int v12), (0, .ref (gA g 50 0 0)), (1, .int l1), (3, .int l3)]) C dX10_kinds_51 rfl (by decide) (fun _ => rfl) (fun v12 => ?_)
      refine r_iinc (c := 1) (lv' := fun v13 => [(3, .int v13), (2, .int v12), (0, .ref (gA g 50 0 0)), (1, .int l1)]) C 3 dX10_kinds_52 rfl (by decide) (by decide) (fun _ => rfl) (fun v13 => ?_)
      refine r_goto (tgt := 26) C dX10_kinds_55 (by decide) ?_
      refine r_lv [2, 3, 1, 0] rfl ?_
      exact hk26 v12 v13
    · refine r_iconst (v := 0) C dX10_kinds_49 (by decide) ?_
      refine r_iadd C dX10_kinds_50 ?_
      refine r_istore_n (lv' := fun v10 => [(2, .int v10), (0, .ref (gA g 50 0 0)), (1, .int l1), (3, .int l3)]) C dX10_kinds_51 rfl (by decide) (fun _ => rfl) (fun v10 => ?_)
      refine r_iinc (c := 1) (lv' := fun v11 => [(3, .int v11), (2, .int v10), (0, .ref (gA g 50 0 0)), (1, .int l1)]) C 3 dX10_kinds_52 rfl (by decide) (by decide) (fun _ => rfl) (fun v11 => ?_)
      refine r_goto (tgt := 26) C dX10_kinds_55 (by decide) ?_
      refine r_lv [2, 3, 1, 0] rfl ?_
      exact hk26 v10 v11
set_option maxRecDepth 100000 in
set_option maxHeartbeats 4000000 in
theorem tl_X10_kinds_26 {g : Gw} {x : Xw} (C : Cw g x cX10_kinds RX10 4 (some .int) 12) (hm : x.2.2.2.2.2.2.2.2.2.2.2 = (0, 0)) (M : Mw) (l1 : Int32) (n : Nat) : ∀ (l2 : Int32) (l3 : Int32), Sw g x (fun q : Int32 × Mw => (some (.int q.1), q.2)) M 0 0 26 [(0, .ref (gA g 50 0 0)), (1, .int l1), (2, .int l2), (3, .int l3)] [] (it (fun _ _ => none) (B_X10_kinds_26 l1 M) n l2 l3) := by
  induction n with
  | zero =>
    intro l2 l3
    exact r_none
  | succ n ih =>
    intro l2 l3
    exact t_X10_kinds_26 C hm M l1 _ ih l2 l3
set_option maxRecDepth 100000 in
set_option maxHeartbeats 4000000 in
theorem c_X10_kinds {g : Gw} {l : Launch} (p1 : Int32) (M : Mw) : Kw g l yX10_kinds cX10_kinds 4 (some .int) 12 0 0 [.ref (gA g 50 0 0), .int p1] M (fun q : Int32 × Mw => (some (.int q.1), q.2)) (F_X10_kinds p1 M) := by
  refine Kw.of (own := RX10) (lv0 := [(0, .ref (gA g 50 0 0)), (1, .int p1)]) (by decide +kernel) rfl (Nat.le_of_ble_eq_true rfl) rfl (fun x C hl hm => ?_)
  subst hl
  unfold F_X10_kinds
  refine r_iload_n C 1 dX10_kinds_0 rfl rfl ?_
  refine r_i2l C dX10_kinds_1 ?_
  refine r_lconst (v := 1) C dX10_kinds_2 (by decide) ?_
  refine r_ldc2 (v := 7) C u_1584 dX10_kinds_3 ?_
  refine r_callSRi (rest := []) C (c_X10_in ((p1).toInt64) 1 7 M) dX10_kinds_6 u_1174 u_1175 mi_X10_in (by decide) rfl rfl (Nat.le_of_ble_eq_true rfl) (xk1 hm (by decide)) (xn1 hm (by decide)) (fun v1 h2 => ?_)
  refine r_if_eq (tgt := 19) C dX10_kinds_9 (by decide) (fun h3 => ?_) (fun h3 => ?_)
  · refine r_bipush (v := (-2)) C dX10_kinds_19 (by decide) ?_
    exact r_iret C dX10_kinds_21 rfl rfl (xk0 hm) (xn0 hm)
  · refine r_aload_n C 0 dX10_kinds_12 rfl rfl ?_
    refine r_callVWi (rest := []) C (c_X10_asks M) dX10_kinds_13 u_1415 in_50 (contW_50 g _ _ _ _ _) rfl u_1416 u_88 mi_X10_asks (by decide) rfl rfl (Nat.le_of_ble_eq_true rfl) (xk1 hm (by decide)) (xn1 hm (by decide)) (fun q4 h5 => ?_)
    refine r_if_ne (tgt := 22) C dX10_kinds_16 (by decide) (fun h6 => ?_) (fun h6 => ?_)
    · refine r_bipush (v := (-2)) C dX10_kinds_19 (by decide) ?_
      exact r_iret C dX10_kinds_21 rfl rfl (xk0 hm) (xn0 hm)
    · refine r_iconst (v := 0) C dX10_kinds_22 (by decide) ?_
      refine r_istore_n0 (lv' := [(2, .int 0), (0, .ref (gA g 50 0 0)), (1, .int p1)]) C dX10_kinds_23 rfl (by decide) rfl ?_
      refine r_iconst (v := 0) C dX10_kinds_24 (by decide) ?_
      refine r_istore_n0 (lv' := [(3, .int 0), (2, .int 0), (0, .ref (gA g 50 0 0)), (1, .int p1)]) C dX10_kinds_25 rfl (by decide) rfl ?_
      refine r_lv [2, 3, 1, 0] rfl ?_
      exact tl_X10_kinds_26 C hm q4.2 p1 FU 0 0
def B_X10_levels_28 (l1 : Int32) (M : Mw) (k28 : Int32 → Int32 → Option (Int32 × Mw)) (l3 : Int32) (l4 : Int32) : Option (Int32 × Mw) :=
  (if (M.1 50 0 0 56) ≤ l4 then some (l3, M) else (if inb l4 4000 then (if (M.1 91 0 0 l4.toNatClampNeg) = l1 then (bd (l3 + 1) (fun v12 => (bd (l4 + 1) (fun v13 => (k28 v12 v13))))) else (bd (l3 + 0) (fun v10 => (bd (l4 + 1) (fun v11 => (k28 v10 v11)))))) else none))
def F_X10_levels (p1 : Int32) (p2 : Int32) (M : Mw) : Option (Int32 × Mw) :=
  ((F_X10_in ((p1).toInt64) 0 3 M).bind (fun v1 => (if v1 = 0 then some ((-2), M) else ((F_X10_asksAt p2 M).bind (fun q4 => (if q4.1 = 0 then some ((-2), q4.2) else (it (fun _ _ => none) (B_X10_levels_28 p1 q4.2) FU 0 0)))))))
set_option maxRecDepth 100000 in
set_option maxHeartbeats 4000000 in
theorem t_X10_levels_28 {g : Gw} {x : Xw} (C : Cw g x cX10_levels RX10 5 (some .int) 12) (hm : x.2.2.2.2.2.2.2.2.2.2.2 = (0, 0)) (M : Mw) (l1 : Int32) (k28 : Int32 → Int32 → Option (Int32 × Mw)) (hk28 : ∀ (l3 : Int32) (l4 : Int32), Sw g x (fun q : Int32 × Mw => (some (.int q.1), q.2)) M 0 0 28 [(0, .ref (gA g 50 0 0)), (1, .int l1), (3, .int l3), (4, .int l4)] [] (k28 l3 l4)) (l3 : Int32) (l4 : Int32) : Sw g x (fun q : Int32 × Mw => (some (.int q.1), q.2)) M 0 0 28 [(0, .ref (gA g 50 0 0)), (1, .int l1), (3, .int l3), (4, .int l4)] [] (B_X10_levels_28 l1 M k28 l3 l4) := by
  unfold B_X10_levels_28
  refine r_iload C 3 dX10_levels_28 rfl ?_
  refine r_aload_n C 0 dX10_levels_30 rfl rfl ?_
  refine gf_50_56 C dX10_levels_31 u_1161 in_50 ?_
  refine r_icmp_ge (tgt := 62) C dX10_levels_34 (by decide) (fun h7 => ?_) (fun h7 => ?_)
  · refine r_iload_n C 2 dX10_levels_62 rfl rfl ?_
    exact r_iret C dX10_levels_63 rfl rfl (xk0 hm) (xn0 hm)
  · refine r_iload_n C 2 dX10_levels_37 rfl rfl ?_
    refine r_aload_n C 0 dX10_levels_38 rfl rfl ?_
    refine gf_50_55 C dX10_levels_39 u_1160 in_50 ?_
    refine r_iload C 3 dX10_levels_42 rfl ?_
    refine r_iald C dX10_levels_44 in_91 (contW_91 g _ _ _ _ _) (fun h8 => ?_)
    refine r_iload_n C 1 dX10_levels_45 rfl rfl ?_
    refine r_icmp_ne (tgt := 53) C dX10_levels_46 (by decide) (fun h9 => ?_) (fun h9 => ?_)
    · refine r_iconst (v := 1) C dX10_levels_49 (by decide) ?_
      refine r_goto (tgt := 54) C dX10_levels_50 (by decide) ?_
      refine r_iadd C dX10_levels_54 ?_
      refine r_istore_n (lv' := fun v12 => [(3, .int v12), (0, .ref (gA g 50 0 0)), (1, .int l1), (4, .int l4)]) C dX10_levels_55 rfl (by decide) (fun _ => rfl) (fun v12 => ?_)
      refine r_iinc (c := 1) (lv' := fun v13 => [(4, .int v13), (3, .int v12), (0, .ref (gA g 50 0 0)), (1, .int l1)]) C 3 dX10_levels_56 rfl (by decide) (by decide) (fun _ => rfl) (fun v13 => ?_)
      refine r_goto (tgt := 28) C dX10_levels_59 (by decide) ?_
      refine r_lv [2, 3, 1, 0] rfl ?_
      exact hk28 v12 v13
    · refine r_iconst (v := 0) C dX10_levels_53 (by decide) ?_
      refine r_iadd C dX10_levels_54 ?_
      refine r_istore_n (lv' := fun v10 => [(3, .int v10), (0, .ref (gA g 50 0 0)), (1, .int l1), (4, .int l4)]) C dX10_levels_55 rfl (by decide) (fun _ => rfl) (fun v10 => ?_)
      refine r_iinc (c := 1) (lv' := fun v11 => [(4, .int v11), (3, .int v10), (0, .ref (gA g 50 0 0)), (1, .int l1)]) C 3 dX10_levels_56 rfl (by decide) (by decide) (fun _ => rfl) (fun v11 => ?_)
      refine r_goto (tgt := 28) C dX10_levels_59 (by decide) ?_
      refine r_lv [2, 3, 1, 0] rfl ?_
      exact hk28 v10 v11
set_option maxRecDepth 100000 in
set_option maxHeartbeats 4000000 in
theorem tl_X10_levels_28 {g : Gw} {x : Xw} (C : Cw g x cX10_levels RX10 5 (some .int) 12) (hm : x.2.2.2.2.2.2.2.2.2.2.2 = (0, 0)) (M : Mw) (l1 : Int32) (n : Nat) : ∀ (l3 : Int32) (l4 : Int32), Sw g x (fun q : Int32 × Mw => (some (.int q.1), q.2)) M 0 0 28 [(0, .ref (gA g 50 0 0)), (1, .int l1), (3, .int l3), (4, .int l4)] [] (it (fun _ _ => none) (B_X10_levels_28 l1 M) n l3 l4) := by
  induction n with
  | zero =>
    intro l3 l4
    exact r_none
  | succ n ih =>
    intro l3 l4
    exact t_X10_levels_28 C hm M l1 _ ih l3 l4
set_option maxRecDepth 100000 in
set_option maxHeartbeats 4000000 in
theorem c_X10_levels {g : Gw} {l : Launch} (p1 : Int32) (p2 : Int32) (M : Mw) : Kw g l yX10_levels cX10_levels 5 (some .int) 12 0 0 [.ref (gA g 50 0 0), .int p1, .int p2] M (fun q : Int32 × Mw => (some (.int q.1), q.2)) (F_X10_levels p1 p2 M) := by
  refine Kw.of (own := RX10) (lv0 := [(0, .ref (gA g 50 0 0)), (1, .int p1), (2, .int p2)]) (by decide +kernel) rfl (Nat.le_of_ble_eq_true rfl) rfl (fun x C hl hm => ?_)
  subst hl
  unfold F_X10_levels
  refine r_iload_n C 1 dX10_levels_0 rfl rfl ?_
  refine r_i2l C dX10_levels_1 ?_
  refine r_lconst (v := 0) C dX10_levels_2 (by decide) ?_
  refine r_ldc2 (v := 3) C u_1339 dX10_levels_3 ?_
  refine r_callSRi (rest := []) C (c_X10_in ((p1).toInt64) 0 3 M) dX10_levels_6 u_1174 u_1175 mi_X10_in (by decide) rfl rfl (Nat.le_of_ble_eq_true rfl) (xk1 hm (by decide)) (xn1 hm (by decide)) (fun v1 h2 => ?_)
  refine r_if_eq (tgt := 20) C dX10_levels_9 (by decide) (fun h3 => ?_) (fun h3 => ?_)
  · refine r_bipush (v := (-2)) C dX10_levels_20 (by decide) ?_
    exact r_iret C dX10_levels_22 rfl rfl (xk0 hm) (xn0 hm)
  · refine r_aload_n C 0 dX10_levels_12 rfl rfl ?_
    refine r_iload_n C 2 dX10_levels_13 rfl rfl ?_
    refine r_callVWi (rest := []) C (c_X10_asksAt p2 M) dX10_levels_14 u_1499 in_50 (contW_50 g _ _ _ _ _) rfl u_1500 u_114 mi_X10_asksAt (by decide) rfl rfl (Nat.le_of_ble_eq_true rfl) (xk1 hm (by decide)) (xn1 hm (by decide)) (fun q4 h5 => ?_)
    refine r_if_ne (tgt := 23) C dX10_levels_17 (by decide) (fun h6 => ?_) (fun h6 => ?_)
    · refine r_bipush (v := (-2)) C dX10_levels_20 (by decide) ?_
      exact r_iret C dX10_levels_22 rfl rfl (xk0 hm) (xn0 hm)
    · refine r_iconst (v := 0) C dX10_levels_23 (by decide) ?_
      refine r_istore_n0 (lv' := [(3, .int 0), (0, .ref (gA g 50 0 0)), (1, .int p1), (2, .int p2)]) C dX10_levels_24 rfl (by decide) rfl ?_
      refine r_iconst (v := 0) C dX10_levels_25 (by decide) ?_
      refine r_istore0 (lv' := [(4, .int 0), (3, .int 0), (0, .ref (gA g 50 0 0)), (1, .int p1), (2, .int p2)]) C dX10_levels_26 (by decide) rfl ?_
      refine r_lv [2, 3, 1, 0] rfl ?_
      exact tl_X10_levels_28 C hm q4.2 p1 FU 0 0
def F_X10_halts (M : Mw) : Option (Int32 × Mw) :=
  ((F_X10_asks M).bind (fun q1 => (if q1.1 = 0 then some ((-2), q1.2) else some ((q1.2.1 50 0 0 59), q1.2))))
set_option maxRecDepth 100000 in
set_option maxHeartbeats 4000000 in
theorem c_X10_halts {g : Gw} {l : Launch} (M : Mw) : Kw g l yX10_halts cX10_halts 1 (some .int) 12 0 0 [.ref (gA g 50 0 0)] M (fun q : Int32 × Mw => (some (.int q.1), q.2)) (F_X10_halts M) := by
  refine Kw.of (own := RX10) (lv0 := [(0, .ref (gA g 50 0 0))]) (by decide +kernel) rfl (Nat.le_of_ble_eq_true rfl) rfl (fun x C hl hm => ?_)
  subst hl
  unfold F_X10_halts
  refine r_aload_n C 0 dX10_halts_0 rfl rfl ?_
  refine r_callVWi (rest := []) C (c_X10_asks M) dX10_halts_1 u_1415 in_50 (contW_50 g _ _ _ _ _) rfl u_1416 u_88 mi_X10_asks (by decide) rfl rfl (Nat.le_of_ble_eq_true rfl) (xk1 hm (by decide)) (xn1 hm (by decide)) (fun q1 h2 => ?_)
  refine r_if_eq (tgt := 14) C dX10_halts_4 (by decide) (fun h3 => ?_) (fun h3 => ?_)
  · refine r_bipush (v := (-2)) C dX10_halts_14 (by decide) ?_
    exact r_iret C dX10_halts_16 rfl rfl (xk0 hm) (xn0 hm)
  · refine r_aload_n C 0 dX10_halts_7 rfl rfl ?_
    refine gf_50_59 C dX10_halts_8 u_1164 in_50 ?_
    refine r_goto (tgt := 16) C dX10_halts_11 (by decide) ?_
    exact r_iret C dX10_halts_16 rfl rfl (xk0 hm) (xn0 hm)
def F_X10_sleeps (p1 : Int32) (p2 : Int32) (M : Mw) : Option (Int32 × Mw) :=
  ((F_X10_isWatcher p1 M).bind (fun v1 => (if v1 = 0 then some ((-2), M) else ((F_X10_asksAt p2 M).bind (fun q4 => (if q4.1 = 0 then some ((-2), q4.2) else ((F_X10_isAsleep p1 p2 q4.2).bind (fun v7 => (if v7 = 0 then some (0, q4.2) else some (1, q4.2))))))))))
set_option maxRecDepth 100000 in
set_option maxHeartbeats 4000000 in
theorem c_X10_sleeps {g : Gw} {l : Launch} (p1 : Int32) (p2 : Int32) (M : Mw) : Kw g l yX10_sleeps cX10_sleeps 3 (some .int) 12 0 0 [.ref (gA g 50 0 0), .int p1, .int p2] M (fun q : Int32 × Mw => (some (.int q.1), q.2)) (F_X10_sleeps p1 p2 M) := by
  refine Kw.of (own := RX10) (lv0 := [(0, .ref (gA g 50 0 0)), (1, .int p1), (2, .int p2)]) (by decide +kernel) rfl (Nat.le_of_ble_eq_true rfl) rfl (fun x C hl hm => ?_)
  subst hl
  unfold F_X10_sleeps
  refine r_aload_n C 0 dX10_sleeps_0 rfl rfl ?_
  refine r_iload_n C 1 dX10_sleeps_1 rfl rfl ?_
  refine r_callVRi (rest := []) C (c_X10_isWatcher p1 M) dX10_sleeps_2 u_1293 in_50 (contW_50 g _ _ _ _ _) rfl u_1294 u_72 mi_X10_isWatcher (by decide) rfl rfl (Nat.le_of_ble_eq_true rfl) (xk1 hm (by decide)) (xn1 hm (by decide)) (fun v1 h2 => ?_)
  refine r_if_eq (tgt := 16) C dX10_sleeps_5 (by decide) (fun h3 => ?_) (fun h3 => ?_)
  · refine r_bipush (v := (-2)) C dX10_sleeps_16 (by decide) ?_
    exact r_iret C dX10_sleeps_18 rfl rfl (xk0 hm) (xn0 hm)
  · refine r_aload_n C 0 dX10_sleeps_8 rfl rfl ?_
    refine r_iload_n C 2 dX10_sleeps_9 rfl rfl ?_
    refine r_callVWi (rest := []) C (c_X10_asksAt p2 M) dX10_sleeps_10 u_1499 in_50 (contW_50 g _ _ _ _ _) rfl u_1500 u_114 mi_X10_asksAt (by decide) rfl rfl (Nat.le_of_ble_eq_true rfl) (xk1 hm (by decide)) (xn1 hm (by decide)) (fun q4 h5 => ?_)
    refine r_if_ne (tgt := 19) C dX10_sleeps_13 (by decide) (fun h6 => ?_) (fun h6 => ?_)
    · refine r_bipush (v := (-2)) C dX10_sleeps_16 (by decide) ?_
      exact r_iret C dX10_sleeps_18 rfl rfl (xk0 hm) (xn0 hm)
    · refine r_aload_n C 0 dX10_sleeps_19 rfl rfl ?_
      refine r_iload_n C 1 dX10_sleeps_20 rfl rfl ?_
      refine r_iload_n C 2 dX10_sleeps_21 rfl rfl ?_
      refine r_callVRi (rest := []) C (c_X10_isAsleep p1 p2 q4.2) dX10_sleeps_22 u_1486 in_50 (contW_50 g _ _ _ _ _) rfl u_1487 u_111 mi_X10_isAsleep (by decide) rfl rfl (Nat.le_of_ble_eq_true rfl) (xk1 hm (by decide)) (xn1 hm (by decide)) (fun v7 h8 => ?_)
      refine r_if_eq (tgt := 32) C dX10_sleeps_25 (by decide) (fun h9 => ?_) (fun h9 => ?_)
      · refine r_iconst (v := 0) C dX10_sleeps_32 (by decide) ?_
        exact r_iret C dX10_sleeps_33 rfl rfl (xk0 hm) (xn0 hm)
      · refine r_iconst (v := 1) C dX10_sleeps_28 (by decide) ?_
        refine r_goto (tgt := 33) C dX10_sleeps_29 (by decide) ?_
        exact r_iret C dX10_sleeps_33 rfl rfl (xk0 hm) (xn0 hm)
def F_X10_isInjection (p1 : Int32) (M : Mw) : Option (Int32) :=
  ((F_X10_many M).bind (fun v1 => ((F_X10_in ((p1).toInt64) 0 (((v1 - 1)).toInt64) M).bind (fun v3 => (if bz v3 then some v3 else none)))))
set_option maxRecDepth 100000 in
set_option maxHeartbeats 4000000 in
theorem c_X10_isInjection {g : Gw} {l : Launch} (p1 : Int32) (M : Mw) : Kw g l yX10_isInjection cX10_isInjection 2 (some .boolean) 2 0 0 [.ref (gA g 50 0 0), .int p1] M (fun v : Int32 => (some (.int v), M)) (F_X10_isInjection p1 M) := by
  refine Kw.of (own := RX10) (lv0 := [(0, .ref (gA g 50 0 0)), (1, .int p1)]) (by decide +kernel) rfl (Nat.le_of_ble_eq_true rfl) rfl (fun x C hl hm => ?_)
  subst hl
  unfold F_X10_isInjection
  refine r_iload_n C 1 dX10_isInjection_0 rfl rfl ?_
  refine r_i2l C dX10_isInjection_1 ?_
  refine r_lconst (v := 0) C dX10_isInjection_2 (by decide) ?_
  refine r_aload_n C 0 dX10_isInjection_3 rfl rfl ?_
  refine r_callVRi (rest := [.long 0, .long ((p1).toInt64)]) C (c_X10_many M) dX10_isInjection_4 u_1300 in_50 (contW_50 g _ _ _ _ _) rfl u_1301 u_73 mi_X10_many (by decide) rfl rfl (Nat.le_of_ble_eq_true rfl) (xk1 hm (by decide)) (xn1 hm (by decide)) (fun v1 h2 => ?_)
  refine r_iconst (v := 1) C dX10_isInjection_7 (by decide) ?_
  refine r_isub C dX10_isInjection_8 ?_
  refine r_i2l C dX10_isInjection_9 ?_
  refine r_callSRi (rest := []) C (c_X10_in ((p1).toInt64) 0 (((v1 - 1)).toInt64) M) dX10_isInjection_10 u_1174 u_1175 mi_X10_in (by decide) rfl rfl (Nat.le_of_ble_eq_true rfl) (xk1 hm (by decide)) (xn1 hm (by decide)) (fun v3 h4 => ?_)
  exact r_zret C dX10_isInjection_13 rfl rfl (xk0 hm) (xn0 hm)
