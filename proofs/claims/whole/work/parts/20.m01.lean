def F_X1_readNumber (p1 : Int32) (p2 : Int32) (p3 : Int32) (M : Mw) : Option (Int32 × Mw) :=
  (if (M.1 15 0 0 2) = 1 then (if (M.1 15 0 0 5) < p1 then ((F_X1_fail 2 M).bind (fun q3 => (if bz q3.1 then some (q3.1, q3.2) else none))) else (if (M.1 15 0 0 5) ≤ p2 then (if inb p3 6 then (bd (uIw M 14 0 0 p3.toNatClampNeg (M.1 15 0 0 5)) (fun M6 => ((F_X6_advance M6).bind (fun M8 => some (1, M8))))) else none) else ((F_X1_fail 2 M).bind (fun q10 => (if bz q10.1 then some (q10.1, q10.2) else none))))) else ((F_X1_fail 1 M).bind (fun q12 => (if bz q12.1 then some (q12.1, q12.2) else none))))
set_option maxRecDepth 100000 in
set_option maxHeartbeats 4000000 in
theorem c_X1_readNumber {g : Gw} {l : Launch} (p1 : Int32) (p2 : Int32) (p3 : Int32) (M : Mw) : Kw g l yX1_readNumber cX1_readNumber 4 (some .boolean) 3 0 0 [.ref (gA g 13 0 0), .int p1, .int p2, .int p3] M (fun q : Int32 × Mw => (some (.int q.1), q.2)) (F_X1_readNumber p1 p2 p3 M) := by
  refine Kw.of (own := RX1) (lv0 := [(0, .ref (gA g 13 0 0)), (1, .int p1), (2, .int p2), (3, .int p3)]) (by decide +kernel) rfl (Nat.le_of_ble_eq_true rfl) rfl (fun x C hl hm => ?_)
  subst hl
  unfold F_X1_readNumber
  refine r_aload_n C 0 dX1_readNumber_0 rfl rfl ?_
  refine gf_13_0 C dX1_readNumber_1 u_239 in_13 ?_
  refine gf_15_2 C dX1_readNumber_4 u_167 in_15 ?_
  refine r_iconst (v := 1) C dX1_readNumber_7 (by decide) ?_
  refine r_icmp_eq (tgt := 17) C dX1_readNumber_8 (by decide) (fun h1 => ?_) (fun h1 => ?_)
  · refine r_aload_n C 0 dX1_readNumber_17 rfl rfl ?_
    refine gf_13_0 C dX1_readNumber_18 u_239 in_13 ?_
    refine gf_15_5 C dX1_readNumber_21 u_172 in_15 ?_
    refine r_iload_n C 1 dX1_readNumber_24 rfl rfl ?_
    refine r_icmp_lt (tgt := 39) C dX1_readNumber_25 (by decide) (fun h2 => ?_) (fun h2 => ?_)
    · refine r_aload_n C 0 dX1_readNumber_39 rfl rfl ?_
      refine r_iconst (v := 2) C dX1_readNumber_40 (by decide) ?_
      refine r_callVWi (rest := []) C (c_X1_fail 2 M) dX1_readNumber_41 u_466 in_13 (contW_13 g _ _ _ _ _) rfl u_467 u_3 mi_X1_fail (by decide) rfl rfl (Nat.le_of_ble_eq_true rfl) (xk1 hm (by decide)) (xn1 hm (by decide)) (fun q3 h4 => ?_)
      exact r_zret C dX1_readNumber_44 rfl rfl (xk0 hm) (xn0 hm)
    · refine r_aload_n C 0 dX1_readNumber_28 rfl rfl ?_
      refine gf_13_0 C dX1_readNumber_29 u_239 in_13 ?_
      refine gf_15_5 C dX1_readNumber_32 u_172 in_15 ?_
      refine r_iload_n C 2 dX1_readNumber_35 rfl rfl ?_
      refine r_icmp_le (tgt := 45) C dX1_readNumber_36 (by decide) (fun h5 => ?_) (fun h5 => ?_)
      · refine r_aload_n C 0 dX1_readNumber_45 rfl rfl ?_
        refine gf_13_4 C dX1_readNumber_46 u_247 in_13 ?_
        refine r_iload_n C 3 dX1_readNumber_49 rfl rfl ?_
        refine r_aload_n C 0 dX1_readNumber_50 rfl rfl ?_
        refine gf_13_0 C dX1_readNumber_51 u_239 in_13 ?_
        refine gf_15_5 C dX1_readNumber_54 u_172 in_15 ?_
        refine r_iast C dX1_readNumber_57 in_14 (contW_14 g _ _) (fun M6 h7 => ?_)
        refine r_aload_n C 0 dX1_readNumber_58 rfl rfl ?_
        refine gf_13_0 C dX1_readNumber_59 u_239 in_13 ?_
        refine r_callVU (rest := []) C (c_X6_advance M6) dX1_readNumber_62 u_472 in_15 (contW_15 g _ _ _ _ _) rfl u_409 u_410 mi_X6_advance (by decide) rfl rfl (Nat.le_of_ble_eq_true rfl) (xk1 hm (by decide)) (xn1 hm (by decide)) (fun M8 h9 => ?_)
        refine r_iconst (v := 1) C dX1_readNumber_65 (by decide) ?_
        exact r_zretc C dX1_readNumber_66 rfl bz1 rfl (xk0 hm) (xn0 hm)
      · refine r_aload_n C 0 dX1_readNumber_39 rfl rfl ?_
        refine r_iconst (v := 2) C dX1_readNumber_40 (by decide) ?_
        refine r_callVWi (rest := []) C (c_X1_fail 2 M) dX1_readNumber_41 u_466 in_13 (contW_13 g _ _ _ _ _) rfl u_467 u_3 mi_X1_fail (by decide) rfl rfl (Nat.le_of_ble_eq_true rfl) (xk1 hm (by decide)) (xn1 hm (by decide)) (fun q10 h11 => ?_)
        exact r_zret C dX1_readNumber_44 rfl rfl (xk0 hm) (xn0 hm)
  · refine r_aload_n C 0 dX1_readNumber_11 rfl rfl ?_
    refine r_iconst (v := 1) C dX1_readNumber_12 (by decide) ?_
    refine r_callVWi (rest := []) C (c_X1_fail 1 M) dX1_readNumber_13 u_466 in_13 (contW_13 g _ _ _ _ _) rfl u_467 u_3 mi_X1_fail (by decide) rfl rfl (Nat.le_of_ble_eq_true rfl) (xk1 hm (by decide)) (xn1 hm (by decide)) (fun q12 h13 => ?_)
    exact r_zret C dX1_readNumber_16 rfl rfl (xk0 hm) (xn0 hm)
def F_X1_readPair (t1 : Nat) (p2 : Int32) (p3 : Int32) (p4 : Int32) (M : Mw) : Option (Int32 × Mw) :=
  ((F_X1_readWord t1 M).bind (fun q1 => (if q1.1 = 0 then some (0, q1.2) else ((F_X1_readNumber p2 p3 p4 q1.2).bind (fun q4 => (if q4.1 = 0 then some (0, q4.2) else some (1, q4.2)))))))
set_option maxRecDepth 100000 in
set_option maxHeartbeats 4000000 in
theorem c_X1_readPair {g : Gw} {l : Launch} {t1 : Nat} (ht1 : t1 < nStW) (p2 : Int32) (p3 : Int32) (p4 : Int32) (M : Mw) : Kw g l yX1_readPair cX1_readPair 5 (some .boolean) 9 0 0 [.ref (gA g 13 0 0), .ref (gK g t1), .int p2, .int p3, .int p4] M (fun q : Int32 × Mw => (some (.int q.1), q.2)) (F_X1_readPair t1 p2 p3 p4 M) := by
  refine Kw.of (own := RX1) (lv0 := [(0, .ref (gA g 13 0 0)), (1, .ref (gK g t1)), (2, .int p2), (3, .int p3), (4, .int p4)]) (by decide +kernel) rfl (Nat.le_of_ble_eq_true rfl) rfl (fun x C hl hm => ?_)
  subst hl
  unfold F_X1_readPair
  refine r_aload_n C 0 dX1_readPair_0 rfl rfl ?_
  refine r_aload_n C 1 dX1_readPair_1 rfl rfl ?_
  refine r_callVWi (rest := []) C (c_X1_readWord ht1 M) dX1_readPair_2 u_476 in_13 (contW_13 g _ _ _ _ _) rfl u_477 u_6 mi_X1_readWord (by decide) rfl rfl (Nat.le_of_ble_eq_true rfl) (xk1 hm (by decide)) (xn1 hm (by decide)) (fun q1 h2 => ?_)
  refine r_if_eq (tgt := 23) C dX1_readPair_5 (by decide) (fun h3 => ?_) (fun h3 => ?_)
  · refine r_iconst (v := 0) C dX1_readPair_23 (by decide) ?_
    exact r_zretc C dX1_readPair_24 rfl bz0 rfl (xk0 hm) (xn0 hm)
  · refine r_aload_n C 0 dX1_readPair_8 rfl rfl ?_
    refine r_iload_n C 2 dX1_readPair_9 rfl rfl ?_
    refine r_iload_n C 3 dX1_readPair_10 rfl rfl ?_
    refine r_iload C 4 dX1_readPair_11 rfl ?_
    refine r_callVWi (rest := []) C (c_X1_readNumber p2 p3 p4 q1.2) dX1_readPair_13 u_479 in_13 (contW_13 g _ _ _ _ _) rfl u_480 u_7 mi_X1_readNumber (by decide) rfl rfl (Nat.le_of_ble_eq_true rfl) (xk1 hm (by decide)) (xn1 hm (by decide)) (fun q4 h5 => ?_)
    refine r_if_eq (tgt := 23) C dX1_readPair_16 (by decide) (fun h6 => ?_) (fun h6 => ?_)
    · refine r_iconst (v := 0) C dX1_readPair_23 (by decide) ?_
      exact r_zretc C dX1_readPair_24 rfl bz0 rfl (xk0 hm) (xn0 hm)
    · refine r_iconst (v := 1) C dX1_readPair_19 (by decide) ?_
      refine r_goto (tgt := 24) C dX1_readPair_20 (by decide) ?_
      exact r_zretc C dX1_readPair_24 rfl bz1 rfl (xk0 hm) (xn0 hm)
def F_X1_readEnd (M : Mw) : Option (Int32 × Mw) :=
  (if (M.1 15 0 0 2) = 2 then ((F_X6_advance M).bind (fun M2 => some (1, M2))) else ((F_X1_fail 1 M).bind (fun q4 => (if bz q4.1 then some (q4.1, q4.2) else none))))
set_option maxRecDepth 100000 in
set_option maxHeartbeats 4000000 in
theorem c_X1_readEnd {g : Gw} {l : Launch} (M : Mw) : Kw g l yX1_readEnd cX1_readEnd 1 (some .boolean) 3 0 0 [.ref (gA g 13 0 0)] M (fun q : Int32 × Mw => (some (.int q.1), q.2)) (F_X1_readEnd M) := by
  refine Kw.of (own := RX1) (lv0 := [(0, .ref (gA g 13 0 0))]) (by decide +kernel) rfl (Nat.le_of_ble_eq_true rfl) rfl (fun x C hl hm => ?_)
  subst hl
  unfold F_X1_readEnd
  refine r_aload_n C 0 dX1_readEnd_0 rfl rfl ?_
  refine gf_13_0 C dX1_readEnd_1 u_239 in_13 ?_
  refine gf_15_2 C dX1_readEnd_4 u_167 in_15 ?_
  refine r_iconst (v := 2) C dX1_readEnd_7 (by decide) ?_
  refine r_icmp_eq (tgt := 17) C dX1_readEnd_8 (by decide) (fun h1 => ?_) (fun h1 => ?_)
  · refine r_aload_n C 0 dX1_readEnd_17 rfl rfl ?_
    refine gf_13_0 C dX1_readEnd_18 u_239 in_13 ?_
    refine r_callVU (rest := []) C (c_X6_advance M) dX1_readEnd_21 u_472 in_15 (contW_15 g _ _ _ _ _) rfl u_409 u_410 mi_X6_advance (by decide) rfl rfl (Nat.le_of_ble_eq_true rfl) (xk1 hm (by decide)) (xn1 hm (by decide)) (fun M2 h3 => ?_)
    refine r_iconst (v := 1) C dX1_readEnd_24 (by decide) ?_
    exact r_zretc C dX1_readEnd_25 rfl bz1 rfl (xk0 hm) (xn0 hm)
  · refine r_aload_n C 0 dX1_readEnd_11 rfl rfl ?_
    refine r_iconst (v := 1) C dX1_readEnd_12 (by decide) ?_
    refine r_callVWi (rest := []) C (c_X1_fail 1 M) dX1_readEnd_13 u_466 in_13 (contW_13 g _ _ _ _ _) rfl u_467 u_3 mi_X1_fail (by decide) rfl rfl (Nat.le_of_ble_eq_true rfl) (xk1 hm (by decide)) (xn1 hm (by decide)) (fun q4 h5 => ?_)
    exact r_zret C dX1_readEnd_16 rfl rfl (xk0 hm) (xn0 hm)
def F_X1_readBoard (M : Mw) : Option (Int32 × Mw) :=
  ((F_X6_advance M).bind (fun M1 => ((F_X1_readPair 19 20 200 0 M1).bind (fun q3 => (if q3.1 = 0 then some (0, q3.2) else ((F_X1_readPair 3 5 50 1 q3.2).bind (fun q6 => (if q6.1 = 0 then some (0, q6.2) else ((F_X1_readPair 7 0 9 2 q6.2).bind (fun q9 => (if q9.1 = 0 then some (0, q9.2) else ((F_X1_readEnd q9.2).bind (fun q12 => (if q12.1 = 0 then some (0, q12.2) else (bd (uIw q12.2 0 0 0 0 (q12.2.1 14 0 0 0)) (fun M15 => (bd (uIw M15 0 0 0 1 (M15.1 14 0 0 1)) (fun M16 => (bd (uIw M16 0 0 0 2 (M16.1 14 0 0 2)) (fun M17 => some (1, M17)))))))))))))))))))))
set_option maxRecDepth 100000 in
set_option maxHeartbeats 4000000 in
theorem c_X1_readBoard {g : Gw} {l : Launch} (M : Mw) : Kw g l yX1_readBoard cX1_readBoard 1 (some .boolean) 10 0 0 [.ref (gA g 13 0 0)] M (fun q : Int32 × Mw => (some (.int q.1), q.2)) (F_X1_readBoard M) := by
  refine Kw.of (own := RX1) (lv0 := [(0, .ref (gA g 13 0 0))]) (by decide +kernel) rfl (Nat.le_of_ble_eq_true rfl) rfl (fun x C hl hm => ?_)
  subst hl
  unfold F_X1_readBoard
  refine r_aload_n C 0 dX1_readBoard_0 rfl rfl ?_
  refine gf_13_0 C dX1_readBoard_1 u_239 in_13 ?_
  refine r_callVU (rest := []) C (c_X6_advance M) dX1_readBoard_4 u_472 in_15 (contW_15 g _ _ _ _ _) rfl u_409 u_410 mi_X6_advance (by decide) rfl rfl (Nat.le_of_ble_eq_true rfl) (xk1 hm (by decide)) (xn1 hm (by decide)) (fun M1 h2 => ?_)
  refine r_aload_n C 0 dX1_readBoard_7 rfl rfl ?_
  refine r_ldcS (i := 19) (tx := "ticks") C (by decide) dX1_readBoard_8 ?_
  refine r_bipush (v := 20) C dX1_readBoard_10 (by decide) ?_
  refine r_sipush (v := 200) C dX1_readBoard_12 (by decide) ?_
  refine r_iconst (v := 0) C dX1_readBoard_15 (by decide) ?_
  refine r_callVWi (rest := []) C (c_X1_readPair (by decide) 20 200 0 M1) dX1_readBoard_16 u_473 in_13 (contW_13 g _ _ _ _ _) rfl u_474 u_5 mi_X1_readPair (by decide) rfl rfl (Nat.le_of_ble_eq_true rfl) (xk1 hm (by decide)) (xn1 hm (by decide)) (fun q3 h4 => ?_)
  refine r_if_eq (tgt := 55) C dX1_readBoard_19 (by decide) (fun h5 => ?_) (fun h5 => ?_)
  · refine r_iconst (v := 0) C dX1_readBoard_55 (by decide) ?_
    exact r_zretc C dX1_readBoard_56 rfl bz0 rfl (xk0 hm) (xn0 hm)
  · refine r_aload_n C 0 dX1_readBoard_22 rfl rfl ?_
    refine r_ldcS (i := 3) (tx := "cycle") C (by decide) dX1_readBoard_23 ?_
    refine r_iconst (v := 5) C dX1_readBoard_25 (by decide) ?_
    refine r_bipush (v := 50) C dX1_readBoard_26 (by decide) ?_
    refine r_iconst (v := 1) C dX1_readBoard_28 (by decide) ?_
    refine r_callVWi (rest := []) C (c_X1_readPair (by decide) 5 50 1 q3.2) dX1_readBoard_29 u_473 in_13 (contW_13 g _ _ _ _ _) rfl u_474 u_5 mi_X1_readPair (by decide) rfl rfl (Nat.le_of_ble_eq_true rfl) (xk1 hm (by decide)) (xn1 hm (by decide)) (fun q6 h7 => ?_)
    refine r_if_eq (tgt := 55) C dX1_readBoard_32 (by decide) (fun h8 => ?_) (fun h8 => ?_)
    · refine r_iconst (v := 0) C dX1_readBoard_55 (by decide) ?_
      exact r_zretc C dX1_readBoard_56 rfl bz0 rfl (xk0 hm) (xn0 hm)
    · refine r_aload_n C 0 dX1_readBoard_35 rfl rfl ?_
      refine r_ldcS (i := 7) (tx := "low") C (by decide) dX1_readBoard_36 ?_
      refine r_iconst (v := 0) C dX1_readBoard_38 (by decide) ?_
      refine r_bipush (v := 9) C dX1_readBoard_39 (by decide) ?_
      refine r_iconst (v := 2) C dX1_readBoard_41 (by decide) ?_
      refine r_callVWi (rest := []) C (c_X1_readPair (by decide) 0 9 2 q6.2) dX1_readBoard_42 u_473 in_13 (contW_13 g _ _ _ _ _) rfl u_474 u_5 mi_X1_readPair (by decide) rfl rfl (Nat.le_of_ble_eq_true rfl) (xk1 hm (by decide)) (xn1 hm (by decide)) (fun q9 h10 => ?_)
      refine r_if_eq (tgt := 55) C dX1_readBoard_45 (by decide) (fun h11 => ?_) (fun h11 => ?_)
      · refine r_iconst (v := 0) C dX1_readBoard_55 (by decide) ?_
        exact r_zretc C dX1_readBoard_56 rfl bz0 rfl (xk0 hm) (xn0 hm)
      · refine r_aload_n C 0 dX1_readBoard_48 rfl rfl ?_
        refine r_callVWi (rest := []) C (c_X1_readEnd q9.2) dX1_readBoard_49 u_482 in_13 (contW_13 g _ _ _ _ _) rfl u_483 u_8 mi_X1_readEnd (by decide) rfl rfl (Nat.le_of_ble_eq_true rfl) (xk1 hm (by decide)) (xn1 hm (by decide)) (fun q12 h13 => ?_)
        refine r_if_ne (tgt := 57) C dX1_readBoard_52 (by decide) (fun h14 => ?_) (fun h14 => ?_)
        · refine r_iconst (v := 0) C dX1_readBoard_55 (by decide) ?_
          exact r_zretc C dX1_readBoard_56 rfl bz0 rfl (xk0 hm) (xn0 hm)
        · refine r_aload_n C 0 dX1_readBoard_57 rfl rfl ?_
          refine gf_13_1 C dX1_readBoard_58 u_241 in_13 ?_
          refine r_aload_n C 0 dX1_readBoard_61 rfl rfl ?_
          refine gf_13_4 C dX1_readBoard_62 u_247 in_13 ?_
          refine r_iconst (v := 0) C dX1_readBoard_65 (by decide) ?_
          refine r_ialdc C dX1_readBoard_66 in_14 (contW_14 g _ _ _ _ _) (by decide) (j := 0) (by decide) ?_
          refine pf_0_0 C dX1_readBoard_67 u_182 (in_0 (by decide)) (fun M15 => ?_)
          refine r_aload_n C 0 dX1_readBoard_70 rfl rfl ?_
          refine gf_13_1 C dX1_readBoard_71 u_241 in_13 ?_
          refine r_aload_n C 0 dX1_readBoard_74 rfl rfl ?_
          refine gf_13_4 C dX1_readBoard_75 u_247 in_13 ?_
          refine r_iconst (v := 1) C dX1_readBoard_78 (by decide) ?_
          refine r_ialdc C dX1_readBoard_79 in_14 (contW_14 g _ _ _ _ _) (by decide) (j := 1) (by decide) ?_
          refine pf_0_1 C dX1_readBoard_80 u_187 (in_0 (by decide)) (fun M16 => ?_)
          refine r_aload_n C 0 dX1_readBoard_83 rfl rfl ?_
          refine gf_13_1 C dX1_readBoard_84 u_241 in_13 ?_
          refine r_aload_n C 0 dX1_readBoard_87 rfl rfl ?_
          refine gf_13_4 C dX1_readBoard_88 u_247 in_13 ?_
          refine r_iconst (v := 2) C dX1_readBoard_91 (by decide) ?_
          refine r_ialdc C dX1_readBoard_92 in_14 (contW_14 g _ _ _ _ _) (by decide) (j := 2) (by decide) ?_
          refine pf_0_2 C dX1_readBoard_93 u_190 (in_0 (by decide)) (fun M17 => ?_)
          refine r_iconst (v := 1) C dX1_readBoard_96 (by decide) ?_
          exact r_zretc C dX1_readBoard_97 rfl bz1 rfl (xk0 hm) (xn0 hm)
def B_X0_addWatcher_36 (b : Nat) (l1 : Int32) (k36 : Int32 → Mw → Option (Mw)) (l2 : Int32) (M : Mw) : Option (Mw) :=
  (if (M.1 0 b 0 4) ≤ l2 then (bd (uIw M 0 b 0 4 ((M.1 0 b 0 4) + 1)) (fun M7 => some M7)) else (if l1 = (-1) then (bd (l2 + 1) (fun v9 => (k36 v9 M))) else (if inb l2 3 then (if ((M.1 2 b 0 l2.toNatClampNeg) &&& (1 <<< (l1 &&& 31))) = 0 then (bd (l2 + 1) (fun v12 => (k36 v12 M))) else (if inb l2 3 then (if inb l2 3 then (bd (uIw M 2 b 0 l2.toNatClampNeg ((M.1 2 b 0 l2.toNatClampNeg) ||| (1 <<< ((M.1 0 b 0 4) &&& 31)))) (fun M14 => (bd (l2 + 1) (fun v16 => (k36 v16 M14))))) else none) else none)) else none)))
def F_X0_addWatcher (b : Nat) (p1 : Int32) (M : Mw) : Option (Mw) :=
  (if (M.1 0 b 0 4) < 3 then (if inb (M.1 0 b 0 4) 3 then (bd (uIw M 1 b 0 (M.1 0 b 0 4).toNatClampNeg p1) (fun M2 => (if inb (M2.1 0 b 0 4) 3 then (bd (uIw M2 2 b 0 (M2.1 0 b 0 4).toNatClampNeg (1 <<< ((M2.1 0 b 0 4) &&& 31))) (fun M4 => (it (fun _ _ => none) (B_X0_addWatcher_36 b p1) FU 0 M4))) else none))) else none) else some M)
set_option maxRecDepth 100000 in
set_option maxHeartbeats 4000000 in
theorem t_X0_addWatcher_36 {g : Gw} {x : Xw} (C : Cw g x cX0_addWatcher RX0 3 none 1) (hm : x.2.2.2.2.2.2.2.2.2.2.2 = (0, 0)) {b : Nat} (hb : b < 8) (l1 : Int32) (k36 : Int32 → Mw → Option (Mw)) (hk36 : ∀ (l2 : Int32) (M : Mw), Sw g x (fun M : Mw => (none, M)) M 0 0 36 [(0, .ref (gA g 0 b 0)), (1, .int l1), (2, .int l2)] [] (k36 l2 M)) (l2 : Int32) (M : Mw) : Sw g x (fun M : Mw => (none, M)) M 0 0 36 [(0, .ref (gA g 0 b 0)), (1, .int l1), (2, .int l2)] [] (B_X0_addWatcher_36 b l1 k36 l2 M) := by
  unfold B_X0_addWatcher_36
  refine r_iload_n C 2 dX0_addWatcher_36 rfl rfl ?_
  refine r_aload_n C 0 dX0_addWatcher_37 rfl rfl ?_
  refine gf_0_4 C dX0_addWatcher_38 u_196 (in_0 hb) ?_
  refine r_icmp_ge (tgt := 83) C dX0_addWatcher_41 (by decide) (fun h6 => ?_) (fun h6 => ?_)
  · refine r_aload_n C 0 dX0_addWatcher_83 rfl rfl ?_
    refine r_dup C rfl dX0_addWatcher_84 ?_
    refine gf_0_4 C dX0_addWatcher_85 u_196 (in_0 hb) ?_
    refine r_iconst (v := 1) C dX0_addWatcher_88 (by decide) ?_
    refine r_iadd C dX0_addWatcher_89 ?_
    refine pf_0_4 C dX0_addWatcher_90 u_196 (in_0 hb) (fun M7 => ?_)
    exact r_vret C dX0_addWatcher_93 rfl rfl (xk0 hm) (xn0 hm)
  · refine r_iload_n C 1 dX0_addWatcher_44 rfl rfl ?_
    refine r_iconst (v := (-1)) C dX0_addWatcher_45 (by decide) ?_
    refine r_icmp_eq (tgt := 77) C dX0_addWatcher_46 (by decide) (fun h8 => ?_) (fun h8 => ?_)
    · refine r_iinc (c := 1) (lv' := fun v9 => [(2, .int v9), (0, .ref (gA g 0 b 0)), (1, .int l1)]) C 2 dX0_addWatcher_77 rfl (by decide) (by decide) (fun _ => rfl) (fun v9 => ?_)
      refine r_goto (tgt := 36) C dX0_addWatcher_80 (by decide) ?_
      refine r_lv [1, 2, 0] rfl ?_
      exact hk36 v9 M
    · refine r_aload_n C 0 dX0_addWatcher_49 rfl rfl ?_
      refine gf_0_9 C dX0_addWatcher_50 u_217 (in_0 hb) ?_
      refine r_iload_n C 2 dX0_addWatcher_53 rfl rfl ?_
      refine r_iald C dX0_addWatcher_54 (in_2 hb) (contW_2 g _ _ _ _ _) (fun h10 => ?_)
      refine r_iconst (v := 1) C dX0_addWatcher_55 (by decide) ?_
      refine r_iload_n C 1 dX0_addWatcher_56 rfl rfl ?_
      refine r_ishl C dX0_addWatcher_57 ?_
      refine r_iand C dX0_addWatcher_58 ?_
      refine r_if_eq (tgt := 77) C dX0_addWatcher_59 (by decide) (fun h11 => ?_) (fun h11 => ?_)
      · refine r_iinc (c := 1) (lv' := fun v12 => [(2, .int v12), (0, .ref (gA g 0 b 0)), (1, .int l1)]) C 2 dX0_addWatcher_77 rfl (by decide) (by decide) (fun _ => rfl) (fun v12 => ?_)
        refine r_goto (tgt := 36) C dX0_addWatcher_80 (by decide) ?_
        refine r_lv [1, 2, 0] rfl ?_
        exact hk36 v12 M
      · refine r_aload_n C 0 dX0_addWatcher_62 rfl rfl ?_
        refine gf_0_9 C dX0_addWatcher_63 u_217 (in_0 hb) ?_
        refine r_iload_n C 2 dX0_addWatcher_66 rfl rfl ?_
        refine r_dup2 C rfl rfl dX0_addWatcher_67 ?_
        refine r_iald C dX0_addWatcher_68 (in_2 hb) (contW_2 g _ _ _ _ _) (fun h13 => ?_)
        refine r_iconst (v := 1) C dX0_addWatcher_69 (by decide) ?_
        refine r_aload_n C 0 dX0_addWatcher_70 rfl rfl ?_
        refine gf_0_4 C dX0_addWatcher_71 u_196 (in_0 hb) ?_
        refine r_ishl C dX0_addWatcher_74 ?_
        refine r_ior C dX0_addWatcher_75 ?_
        refine r_iast C dX0_addWatcher_76 (in_2 hb) (contW_2 g _ _) (fun M14 h15 => ?_)
        refine r_iinc (c := 1) (lv' := fun v16 => [(2, .int v16), (0, .ref (gA g 0 b 0)), (1, .int l1)]) C 2 dX0_addWatcher_77 rfl (by decide) (by decide) (fun _ => rfl) (fun v16 => ?_)
        refine r_goto (tgt := 36) C dX0_addWatcher_80 (by decide) ?_
        refine r_lv [1, 2, 0] rfl ?_
        exact hk36 v16 M14
set_option maxRecDepth 100000 in
set_option maxHeartbeats 4000000 in
theorem tl_X0_addWatcher_36 {g : Gw} {x : Xw} (C : Cw g x cX0_addWatcher RX0 3 none 1) (hm : x.2.2.2.2.2.2.2.2.2.2.2 = (0, 0)) {b : Nat} (hb : b < 8) (l1 : Int32) (n : Nat) : ∀ (l2 : Int32) (M : Mw), Sw g x (fun M : Mw => (none, M)) M 0 0 36 [(0, .ref (gA g 0 b 0)), (1, .int l1), (2, .int l2)] [] (it (fun _ _ => none) (B_X0_addWatcher_36 b l1) n l2 M) := by
  induction n with
  | zero =>
    intro l2 M
    exact r_none
  | succ n ih =>
    intro l2 M
    exact t_X0_addWatcher_36 C hm hb l1 _ ih l2 M
set_option maxRecDepth 100000 in
set_option maxHeartbeats 4000000 in
theorem c_X0_addWatcher {g : Gw} {l : Launch} {b : Nat} (hb : b < 8) (p1 : Int32) (M : Mw) : Kw g l yX0_addWatcher cX0_addWatcher 3 none 1 0 0 [.ref (gA g 0 b 0), .int p1] M (fun M : Mw => (none, M)) (F_X0_addWatcher b p1 M) := by
  refine Kw.of (own := RX0) (lv0 := [(0, .ref (gA g 0 b 0)), (1, .int p1)]) (by decide +kernel) rfl (Nat.le_of_ble_eq_true rfl) rfl (fun x C hl hm => ?_)
  subst hl
  unfold F_X0_addWatcher
  refine r_aload_n C 0 dX0_addWatcher_0 rfl rfl ?_
  refine gf_0_4 C dX0_addWatcher_1 u_196 (in_0 hb) ?_
  refine r_iconst (v := 3) C dX0_addWatcher_4 (by decide) ?_
  refine r_icmp_lt (tgt := 9) C dX0_addWatcher_5 (by decide) (fun h1 => ?_) (fun h1 => ?_)
  · refine r_aload_n C 0 dX0_addWatcher_9 rfl rfl ?_
    refine gf_0_8 C dX0_addWatcher_10 u_214 (in_0 hb) ?_
    refine r_aload_n C 0 dX0_addWatcher_13 rfl rfl ?_
    refine gf_0_4 C dX0_addWatcher_14 u_196 (in_0 hb) ?_
    refine r_iload_n C 1 dX0_addWatcher_17 rfl rfl ?_
    refine r_iast C dX0_addWatcher_18 (in_1 hb) (contW_1 g _ _) (fun M2 h3 => ?_)
    refine r_aload_n C 0 dX0_addWatcher_19 rfl rfl ?_
    refine gf_0_9 C dX0_addWatcher_20 u_217 (in_0 hb) ?_
    refine r_aload_n C 0 dX0_addWatcher_23 rfl rfl ?_
    refine gf_0_4 C dX0_addWatcher_24 u_196 (in_0 hb) ?_
    refine r_iconst (v := 1) C dX0_addWatcher_27 (by decide) ?_
    refine r_aload_n C 0 dX0_addWatcher_28 rfl rfl ?_
    refine gf_0_4 C dX0_addWatcher_29 u_196 (in_0 hb) ?_
    refine r_ishl C dX0_addWatcher_32 ?_
    refine r_iast C dX0_addWatcher_33 (in_2 hb) (contW_2 g _ _) (fun M4 h5 => ?_)
    refine r_iconst (v := 0) C dX0_addWatcher_34 (by decide) ?_
    refine r_istore_n0 (lv' := [(2, .int 0), (0, .ref (gA g 0 b 0)), (1, .int p1)]) C dX0_addWatcher_35 rfl (by decide) rfl ?_
    refine r_lv [1, 2, 0] rfl ?_
    exact tl_X0_addWatcher_36 C hm hb p1 FU 0 M4
  · exact r_vret C dX0_addWatcher_8 rfl rfl (xk0 hm) (xn0 hm)
def B_X1_readWatcher_67 (s0 : Int32) (M : Mw) : Option (Int32 × Mw) :=
  (if s0 = 0 then some (0, M) else ((F_X1_readEnd M).bind (fun q9 => (if q9.1 = 0 then some (0, q9.2) else ((F_X0_addWatcher 0 (q9.2.1 14 0 0 0) q9.2).bind (fun M12 => some (1, M12)))))))
def F_X1_readWatcher (M : Mw) : Option (Int32 × Mw) :=
  (if (M.1 0 0 0 4) < 3 then ((F_X6_advance M).bind (fun M2 => (bd (uIw M2 14 0 0 0 (-1)) (fun M4 => (if (M4.1 0 0 0 4) = 0 then ((F_X1_readWord 12 M4).bind (fun q14 => (B_X1_readWatcher_67 q14.1 q14.2))) else ((F_X1_readPair 21 0 ((M4.1 0 0 0 4) - 1) 0 M4).bind (fun q6 => (B_X1_readWatcher_67 q6.1 q6.2)))))))) else ((F_X1_fail 3 M).bind (fun q16 => (if bz q16.1 then some (q16.1, q16.2) else none))))
set_option maxRecDepth 100000 in
set_option maxHeartbeats 4000000 in
theorem t_X1_readWatcher_67 {g : Gw} {x : Xw} (C : Cw g x cX1_readWatcher RX1 2 (some .boolean) 10) (hm : x.2.2.2.2.2.2.2.2.2.2.2 = (0, 0)) (s0 : Int32) (M : Mw) : Sw g x (fun q : Int32 × Mw => (some (.int q.1), q.2)) M 0 0 67 [(0, .ref (gA g 13 0 0))] [.int s0] (B_X1_readWatcher_67 s0 M) := by
  unfold B_X1_readWatcher_67
  refine r_istore_n0 (lv' := [(1, .int s0), (0, .ref (gA g 13 0 0))]) C dX1_readWatcher_67 rfl (by decide) rfl ?_
  refine r_iload_n C 0 dX1_readWatcher_68 rfl rfl ?_
  refine r_if_eq (tgt := 79) C dX1_readWatcher_69 (by decide) (fun h8 => ?_) (fun h8 => ?_)
  · refine r_iconst (v := 0) C dX1_readWatcher_79 (by decide) ?_
    exact r_zretc C dX1_readWatcher_80 rfl bz0 rfl (xk0 hm) (xn0 hm)
  · refine r_aload_n C 1 dX1_readWatcher_72 rfl rfl ?_
    refine r_callVWi (rest := []) C (c_X1_readEnd M) dX1_readWatcher_73 u_482 in_13 (contW_13 g _ _ _ _ _) rfl u_483 u_8 mi_X1_readEnd (by decide) rfl rfl (Nat.le_of_ble_eq_true rfl) (xk1 hm (by decide)) (xn1 hm (by decide)) (fun q9 h10 => ?_)
    refine r_if_ne (tgt := 81) C dX1_readWatcher_76 (by decide) (fun h11 => ?_) (fun h11 => ?_)
    · refine r_iconst (v := 0) C dX1_readWatcher_79 (by decide) ?_
      exact r_zretc C dX1_readWatcher_80 rfl bz0 rfl (xk0 hm) (xn0 hm)
    · refine r_aload_n C 1 dX1_readWatcher_81 rfl rfl ?_
      refine gf_13_1 C dX1_readWatcher_82 u_241 in_13 ?_
      refine r_aload_n C 1 dX1_readWatcher_85 rfl rfl ?_
      refine gf_13_4 C dX1_readWatcher_86 u_247 in_13 ?_
      refine r_iconst (v := 0) C dX1_readWatcher_89 (by decide) ?_
      refine r_ialdc C dX1_readWatcher_90 in_14 (contW_14 g _ _ _ _ _) (by decide) (j := 0) (by decide) ?_
      refine r_callVU (rest := []) C (c_X0_addWatcher (by decide) (q9.2.1 14 0 0 0) q9.2) dX1_readWatcher_91 u_488 (in_0 (by decide)) (contW_0 g _ _ _ _ _) rfl u_489 u_490 mi_X0_addWatcher (by decide) rfl rfl (Nat.le_of_ble_eq_true rfl) (xk1 hm (by decide)) (xn1 hm (by decide)) (fun M12 h13 => ?_)
      refine r_iconst (v := 1) C dX1_readWatcher_94 (by decide) ?_
      exact r_zretc C dX1_readWatcher_95 rfl bz1 rfl (xk0 hm) (xn0 hm)
set_option maxRecDepth 100000 in
set_option maxHeartbeats 4000000 in
theorem c_X1_readWatcher {g : Gw} {l : Launch} (M : Mw) : Kw g l yX1_readWatcher cX1_readWatcher 2 (some .boolean) 10 0 0 [.ref (gA g 13 0 0)] M (fun q : Int32 × Mw => (some (.int q.1), q.2)) (F_X1_readWatcher M) := by
  refine Kw.of (own := RX1) (lv0 := [(0, .ref (gA g 13 0 0))]) (by decide +kernel) rfl (Nat.le_of_ble_eq_true rfl) rfl (fun x C hl hm => ?_)
  subst hl
  unfold F_X1_readWatcher
  refine r_aload_n C 0 dX1_readWatcher_0 rfl rfl ?_
  refine gf_13_1 C dX1_readWatcher_1 u_241 in_13 ?_
  refine gf_0_4 C dX1_readWatcher_4 u_197 (in_0 (by decide)) ?_
  refine r_iconst (v := 3) C dX1_readWatcher_7 (by decide) ?_
  refine r_icmp_lt (tgt := 17) C dX1_readWatcher_8 (by decide) (fun h1 => ?_) (fun h1 => ?_)
  · refine r_aload_n C 0 dX1_readWatcher_17 rfl rfl ?_
    refine gf_13_0 C dX1_readWatcher_18 u_239 in_13 ?_
    refine r_callVU (rest := []) C (c_X6_advance M) dX1_readWatcher_21 u_472 in_15 (contW_15 g _ _ _ _ _) rfl u_409 u_410 mi_X6_advance (by decide) rfl rfl (Nat.le_of_ble_eq_true rfl) (xk1 hm (by decide)) (xn1 hm (by decide)) (fun M2 h3 => ?_)
    refine r_aload_n C 0 dX1_readWatcher_24 rfl rfl ?_
    refine gf_13_4 C dX1_readWatcher_25 u_247 in_13 ?_
    refine r_iconst (v := 0) C dX1_readWatcher_28 (by decide) ?_
    refine r_iconst (v := (-1)) C dX1_readWatcher_29 (by decide) ?_
    refine r_iastc C dX1_readWatcher_30 in_14 (contW_14 g _ _) (by decide) (j := 0) (by decide) (fun M4 => ?_)
    refine r_aload_n C 0 dX1_readWatcher_31 rfl rfl ?_
    refine gf_13_1 C dX1_readWatcher_32 u_241 in_13 ?_
    refine gf_0_4 C dX1_readWatcher_35 u_197 (in_0 (by decide)) ?_
    refine r_if_ne (tgt := 50) C dX1_readWatcher_38 (by decide) (fun h5 => ?_) (fun h5 => ?_)
    · refine r_aload_n C 0 dX1_readWatcher_41 rfl rfl ?_
      refine r_ldcS (i := 12) (tx := "root") C (by decide) dX1_readWatcher_42 ?_
      refine r_callVWi (rest := []) C (c_X1_readWord (by decide) M4) dX1_readWatcher_44 u_476 in_13 (contW_13 g _ _ _ _ _) rfl u_477 u_6 mi_X1_readWord (by decide) rfl rfl (Nat.le_of_ble_eq_true rfl) (xk1 hm (by decide)) (xn1 hm (by decide)) (fun q14 h15 => ?_)
      refine r_goto (tgt := 67) C dX1_readWatcher_47 (by decide) ?_
      exact t_X1_readWatcher_67 C hm q14.1 q14.2
    · refine r_aload_n C 0 dX1_readWatcher_50 rfl rfl ?_
      refine r_ldcS (i := 21) (tx := "under") C (by decide) dX1_readWatcher_51 ?_
      refine r_iconst (v := 0) C dX1_readWatcher_53 (by decide) ?_
      refine r_aload_n C 0 dX1_readWatcher_54 rfl rfl ?_
      refine gf_13_1 C dX1_readWatcher_55 u_241 in_13 ?_
      refine gf_0_4 C dX1_readWatcher_58 u_197 (in_0 (by decide)) ?_
      refine r_iconst (v := 1) C dX1_readWatcher_61 (by decide) ?_
      refine r_isub C dX1_readWatcher_62 ?_
      refine r_iconst (v := 0) C dX1_readWatcher_63 (by decide) ?_
      refine r_callVWi (rest := []) C (c_X1_readPair (by decide) 0 ((M4.1 0 0 0 4) - 1) 0 M4) dX1_readWatcher_64 u_473 in_13 (contW_13 g _ _ _ _ _) rfl u_474 u_5 mi_X1_readPair (by decide) rfl rfl (Nat.le_of_ble_eq_true rfl) (xk1 hm (by decide)) (xn1 hm (by decide)) (fun q6 h7 => ?_)
      exact t_X1_readWatcher_67 C hm q6.1 q6.2
  · refine r_aload_n C 0 dX1_readWatcher_11 rfl rfl ?_
    refine r_iconst (v := 3) C dX1_readWatcher_12 (by decide) ?_
    refine r_callVWi (rest := []) C (c_X1_fail 3 M) dX1_readWatcher_13 u_466 in_13 (contW_13 g _ _ _ _ _) rfl u_467 u_3 mi_X1_fail (by decide) rfl rfl (Nat.le_of_ble_eq_true rfl) (xk1 hm (by decide)) (xn1 hm (by decide)) (fun q16 h17 => ?_)
    exact r_zret C dX1_readWatcher_16 rfl rfl (xk0 hm) (xn0 hm)
def B_X1_readTask_148 (l1i : Nat) (k148 : Int32 → Mw → Option (Int32 × Mw)) (l2 : Int32) (M : Mw) : Option (Int32 × Mw) :=
  (if 5 < l2 then (bd (uIw M 0 0 0 5 ((M.1 0 0 0 5) + 1)) (fun M27 => some (1, M27))) else (if inb l2 6 then (if inb l2 7 then (bd (uIw M 4 0 l1i l2.toNatClampNeg (M.1 14 0 0 l2.toNatClampNeg)) (fun M29 => (bd (l2 + 1) (fun v31 => (k148 v31 M29))))) else none) else none))
def F_X1_readTask (M : Mw) : Option (Int32 × Mw) :=
  (if (M.1 0 0 0 5) < 5 then ((F_X6_advance M).bind (fun M2 => ((F_X1_readPair 21 0 ((M2.1 0 0 0 4) - 1) 0 M2).bind (fun q4 => (if q4.1 = 0 then some (0, q4.2) else ((F_X1_readPair 11 4 60 1 q4.2).bind (fun q7 => (if q7.1 = 0 then some (0, q7.2) else ((F_X1_readPair 10 0 99 2 q7.2).bind (fun q10 => (if q10.1 = 0 then some (0, q10.2) else ((F_X1_readPair 2 ((q10.2.1 14 0 0 2) + 1) 120 3 q10.2).bind (fun q13 => (if q13.1 = 0 then some (0, q13.2) else ((F_X1_readPair 6 0 20 4 q13.2).bind (fun q16 => (if q16.1 = 0 then some (0, q16.2) else ((F_X1_readPair 8 (q16.2.1 14 0 0 4) 40 5 q16.2).bind (fun q19 => (if q19.1 = 0 then some (0, q19.2) else ((F_X1_readEnd q19.2).bind (fun q22 => (if q22.1 = 0 then some (0, q22.2) else (if inb (q22.2.1 0 0 0 5) 5 then (it (fun _ _ => none) (B_X1_readTask_148 ((q22.2.1 0 0 0 5).toNatClampNeg)) FU 0 q22.2) else none)))))))))))))))))))))))) else ((F_X1_fail 3 M).bind (fun q32 => (if bz q32.1 then some (q32.1, q32.2) else none))))
set_option maxRecDepth 100000 in
set_option maxHeartbeats 4000000 in
theorem t_X1_readTask_148 {g : Gw} {x : Xw} (C : Cw g x cX1_readTask RX1 3 (some .boolean) 10) (hm : x.2.2.2.2.2.2.2.2.2.2.2 = (0, 0)) (l1i : Nat) (hl1i : l1i < 5) (k148 : Int32 → Mw → Option (Int32 × Mw)) (hk148 : ∀ (l2 : Int32) (M : Mw), Sw g x (fun q : Int32 × Mw => (some (.int q.1), q.2)) M 0 0 148 [(0, .ref (gA g 13 0 0)), (1, .ref (gA g 4 0 l1i)), (2, .int l2)] [] (k148 l2 M)) (l2 : Int32) (M : Mw) : Sw g x (fun q : Int32 × Mw => (some (.int q.1), q.2)) M 0 0 148 [(0, .ref (gA g 13 0 0)), (1, .ref (gA g 4 0 l1i)), (2, .int l2)] [] (B_X1_readTask_148 l1i k148 l2 M) := by
  unfold B_X1_readTask_148
  refine r_iload_n C 2 dX1_readTask_148 rfl rfl ?_
  refine r_iconst (v := 5) C dX1_readTask_149 (by decide) ?_
  refine r_icmp_gt (tgt := 168) C dX1_readTask_150 (by decide) (fun h26 => ?_) (fun h26 => ?_)
  · refine r_aload_n C 0 dX1_readTask_168 rfl rfl ?_
    refine gf_13_1 C dX1_readTask_169 u_241 in_13 ?_
    refine r_dup C rfl dX1_readTask_172 ?_
    refine gf_0_5 C dX1_readTask_173 u_201 (in_0 (by decide)) ?_
    refine r_iconst (v := 1) C dX1_readTask_176 (by decide) ?_
    refine r_iadd C dX1_readTask_177 ?_
    refine pf_0_5 C dX1_readTask_178 u_201 (in_0 (by decide)) (fun M27 => ?_)
    refine r_iconst (v := 1) C dX1_readTask_181 (by decide) ?_
    exact r_zretc C dX1_readTask_182 rfl bz1 rfl (xk0 hm) (xn0 hm)
  · refine r_aload_n C 1 dX1_readTask_153 rfl rfl ?_
    refine r_iload_n C 2 dX1_readTask_154 rfl rfl ?_
    refine r_aload_n C 0 dX1_readTask_155 rfl rfl ?_
    refine gf_13_4 C dX1_readTask_156 u_247 in_13 ?_
    refine r_iload_n C 2 dX1_readTask_159 rfl rfl ?_
    refine r_iald C dX1_readTask_160 in_14 (contW_14 g _ _ _ _ _) (fun h28 => ?_)
    refine r_iast C dX1_readTask_161 (in_4 (by decide) hl1i) (contW_4 g _ _) (fun M29 h30 => ?_)
    refine r_iinc (c := 1) (lv' := fun v31 => [(2, .int v31), (0, .ref (gA g 13 0 0)), (1, .ref (gA g 4 0 l1i))]) C 2 dX1_readTask_162 rfl (by decide) (by decide) (fun _ => rfl) (fun v31 => ?_)
    refine r_goto (tgt := 148) C dX1_readTask_165 (by decide) ?_
    refine r_lv [1, 2, 0] rfl ?_
    exact hk148 v31 M29
set_option maxRecDepth 100000 in
set_option maxHeartbeats 4000000 in
theorem tl_X1_readTask_148 {g : Gw} {x : Xw} (C : Cw g x cX1_readTask RX1 3 (some .boolean) 10) (hm : x.2.2.2.2.2.2.2.2.2.2.2 = (0, 0)) (l1i : Nat) (hl1i : l1i < 5) (n : Nat) : ∀ (l2 : Int32) (M : Mw), Sw g x (fun q : Int32 × Mw => (some (.int q.1), q.2)) M 0 0 148 [(0, .ref (gA g 13 0 0)), (1, .ref (gA g 4 0 l1i)), (2, .int l2)] [] (it (fun _ _ => none) (B_X1_readTask_148 l1i) n l2 M) := by
  induction n with
  | zero =>
    intro l2 M
    exact r_none
  | succ n ih =>
    intro l2 M
    exact t_X1_readTask_148 C hm l1i hl1i _ ih l2 M
set_option maxRecDepth 100000 in
set_option maxHeartbeats 4000000 in
theorem c_X1_readTask {g : Gw} {l : Launch} (M : Mw) : Kw g l yX1_readTask cX1_readTask 3 (some .boolean) 10 0 0 [.ref (gA g 13 0 0)] M (fun q : Int32 × Mw => (some (.int q.1), q.2)) (F_X1_readTask M) := by
  refine Kw.of (own := RX1) (lv0 := [(0, .ref (gA g 13 0 0))]) (by decide +kernel) rfl (Nat.le_of_ble_eq_true rfl) rfl (fun x C hl hm => ?_)
  subst hl
  unfold F_X1_readTask
  refine r_aload_n C 0 dX1_readTask_0 rfl rfl ?_
  refine gf_13_1 C dX1_readTask_1 u_241 in_13 ?_
  refine gf_0_5 C dX1_readTask_4 u_201 (in_0 (by decide)) ?_
  refine r_iconst (v := 5) C dX1_readTask_7 (by decide) ?_
  refine r_icmp_lt (tgt := 17) C dX1_readTask_8 (by decide) (fun h1 => ?_) (fun h1 => ?_)
  · refine r_aload_n C 0 dX1_readTask_17 rfl rfl ?_
    refine gf_13_0 C dX1_readTask_18 u_239 in_13 ?_
    refine r_callVU (rest := []) C (c_X6_advance M) dX1_readTask_21 u_472 in_15 (contW_15 g _ _ _ _ _) rfl u_409 u_410 mi_X6_advance (by decide) rfl rfl (Nat.le_of_ble_eq_true rfl) (xk1 hm (by decide)) (xn1 hm (by decide)) (fun M2 h3 => ?_)
    refine r_aload_n C 0 dX1_readTask_24 rfl rfl ?_
    refine r_ldcS (i := 21) (tx := "under") C (by decide) dX1_readTask_25 ?_
    refine r_iconst (v := 0) C dX1_readTask_27 (by decide) ?_
    refine r_aload_n C 0 dX1_readTask_28 rfl rfl ?_
    refine gf_13_1 C dX1_readTask_29 u_241 in_13 ?_
    refine gf_0_4 C dX1_readTask_32 u_197 (in_0 (by decide)) ?_
    refine r_iconst (v := 1) C dX1_readTask_35 (by decide) ?_
    refine r_isub C dX1_readTask_36 ?_
    refine r_iconst (v := 0) C dX1_readTask_37 (by decide) ?_
    refine r_callVWi (rest := []) C (c_X1_readPair (by decide) 0 ((M2.1 0 0 0 4) - 1) 0 M2) dX1_readTask_38 u_473 in_13 (contW_13 g _ _ _ _ _) rfl u_474 u_5 mi_X1_readPair (by decide) rfl rfl (Nat.le_of_ble_eq_true rfl) (xk1 hm (by decide)) (xn1 hm (by decide)) (fun q4 h5 => ?_)
    refine r_if_eq (tgt := 128) C dX1_readTask_41 (by decide) (fun h6 => ?_) (fun h6 => ?_)
    · refine r_iconst (v := 0) C dX1_readTask_128 (by decide) ?_
      exact r_zretc C dX1_readTask_129 rfl bz0 rfl (xk0 hm) (xn0 hm)
    · refine r_aload_n C 0 dX1_readTask_44 rfl rfl ?_
      refine r_ldcS (i := 11) (tx := "period") C (by decide) dX1_readTask_45 ?_
      refine r_iconst (v := 4) C dX1_readTask_47 (by decide) ?_
      refine r_bipush (v := 60) C dX1_readTask_48 (by decide) ?_
      refine r_iconst (v := 1) C dX1_readTask_50 (by decide) ?_
      refine r_callVWi (rest := []) C (c_X1_readPair (by decide) 4 60 1 q4.2) dX1_readTask_51 u_473 in_13 (contW_13 g _ _ _ _ _) rfl u_474 u_5 mi_X1_readPair (by decide) rfl rfl (Nat.le_of_ble_eq_true rfl) (xk1 hm (by decide)) (xn1 hm (by decide)) (fun q7 h8 => ?_)
      refine r_if_eq (tgt := 128) C dX1_readTask_54 (by decide) (fun h9 => ?_) (fun h9 => ?_)
      · refine r_iconst (v := 0) C dX1_readTask_128 (by decide) ?_
        exact r_zretc C dX1_readTask_129 rfl bz0 rfl (xk0 hm) (xn0 hm)
      · refine r_aload_n C 0 dX1_readTask_57 rfl rfl ?_
        refine r_ldcS (i := 10) (tx := "open") C (by decide) dX1_readTask_58 ?_
        refine r_iconst (v := 0) C dX1_readTask_60 (by decide) ?_
        refine r_bipush (v := 99) C dX1_readTask_61 (by decide) ?_
        refine r_iconst (v := 2) C dX1_readTask_63 (by decide) ?_
        refine r_callVWi (rest := []) C (c_X1_readPair (by decide) 0 99 2 q7.2) dX1_readTask_64 u_473 in_13 (contW_13 g _ _ _ _ _) rfl u_474 u_5 mi_X1_readPair (by decide) rfl rfl (Nat.le_of_ble_eq_true rfl) (xk1 hm (by decide)) (xn1 hm (by decide)) (fun q10 h11 => ?_)
        refine r_if_eq (tgt := 128) C dX1_readTask_67 (by decide) (fun h12 => ?_) (fun h12 => ?_)
        · refine r_iconst (v := 0) C dX1_readTask_128 (by decide) ?_
          exact r_zretc C dX1_readTask_129 rfl bz0 rfl (xk0 hm) (xn0 hm)
        · refine r_aload_n C 0 dX1_readTask_70 rfl rfl ?_
          refine r_ldcS (i := 2) (tx := "close") C (by decide) dX1_readTask_71 ?_
          refine r_aload_n C 0 dX1_readTask_73 rfl rfl ?_
          refine gf_13_4 C dX1_readTask_74 u_247 in_13 ?_
          refine r_iconst (v := 2) C dX1_readTask_77 (by decide) ?_
          refine r_ialdc C dX1_readTask_78 in_14 (contW_14 g _ _ _ _ _) (by decide) (j := 2) (by decide) ?_
          refine r_iconst (v := 1) C dX1_readTask_79 (by decide) ?_
          refine r_iadd C dX1_readTask_80 ?_
          refine r_bipush (v := 120) C dX1_readTask_81 (by decide) ?_
          refine r_iconst (v := 3) C dX1_readTask_83 (by decide) ?_
          refine r_callVWi (rest := []) C (c_X1_readPair (by decide) ((q10.2.1 14 0 0 2) + 1) 120 3 q10.2) dX1_readTask_84 u_473 in_13 (contW_13 g _ _ _ _ _) rfl u_474 u_5 mi_X1_readPair (by decide) rfl rfl (Nat.le_of_ble_eq_true rfl) (xk1 hm (by decide)) (xn1 hm (by decide)) (fun q13 h14 => ?_)
          refine r_if_eq (tgt := 128) C dX1_readTask_87 (by decide) (fun h15 => ?_) (fun h15 => ?_)
          · refine r_iconst (v := 0) C dX1_readTask_128 (by decide) ?_
            exact r_zretc C dX1_readTask_129 rfl bz0 rfl (xk0 hm) (xn0 hm)
          · refine r_aload_n C 0 dX1_readTask_90 rfl rfl ?_
            refine r_ldcS (i := 6) (tx := "least") C (by decide) dX1_readTask_91 ?_
            refine r_iconst (v := 0) C dX1_readTask_93 (by decide) ?_
            refine r_bipush (v := 20) C dX1_readTask_94 (by decide) ?_
            refine r_iconst (v := 4) C dX1_readTask_96 (by decide) ?_
            refine r_callVWi (rest := []) C (c_X1_readPair (by decide) 0 20 4 q13.2) dX1_readTask_97 u_473 in_13 (contW_13 g _ _ _ _ _) rfl u_474 u_5 mi_X1_readPair (by decide) rfl rfl (Nat.le_of_ble_eq_true rfl) (xk1 hm (by decide)) (xn1 hm (by decide)) (fun q16 h17 => ?_)
            refine r_if_eq (tgt := 128) C dX1_readTask_100 (by decide) (fun h18 => ?_) (fun h18 => ?_)
            · refine r_iconst (v := 0) C dX1_readTask_128 (by decide) ?_
              exact r_zretc C dX1_readTask_129 rfl bz0 rfl (xk0 hm) (xn0 hm)
            · refine r_aload_n C 0 dX1_readTask_103 rfl rfl ?_
              refine r_ldcS (i := 8) (tx := "most") C (by decide) dX1_readTask_104 ?_
              refine r_aload_n C 0 dX1_readTask_106 rfl rfl ?_
              refine gf_13_4 C dX1_readTask_107 u_247 in_13 ?_
              refine r_iconst (v := 4) C dX1_readTask_110 (by decide) ?_
              refine r_ialdc C dX1_readTask_111 in_14 (contW_14 g _ _ _ _ _) (by decide) (j := 4) (by decide) ?_
              refine r_bipush (v := 40) C dX1_readTask_112 (by decide) ?_
              refine r_iconst (v := 5) C dX1_readTask_114 (by decide) ?_
              refine r_callVWi (rest := []) C (c_X1_readPair (by decide) (q16.2.1 14 0 0 4) 40 5 q16.2) dX1_readTask_115 u_473 in_13 (contW_13 g _ _ _ _ _) rfl u_474 u_5 mi_X1_readPair (by decide) rfl rfl (Nat.le_of_ble_eq_true rfl) (xk1 hm (by decide)) (xn1 hm (by decide)) (fun q19 h20 => ?_)
              refine r_if_eq (tgt := 128) C dX1_readTask_118 (by decide) (fun h21 => ?_) (fun h21 => ?_)
              · refine r_iconst (v := 0) C dX1_readTask_128 (by decide) ?_
                exact r_zretc C dX1_readTask_129 rfl bz0 rfl (xk0 hm) (xn0 hm)
              · refine r_aload_n C 0 dX1_readTask_121 rfl rfl ?_
                refine r_callVWi (rest := []) C (c_X1_readEnd q19.2) dX1_readTask_122 u_482 in_13 (contW_13 g _ _ _ _ _) rfl u_483 u_8 mi_X1_readEnd (by decide) rfl rfl (Nat.le_of_ble_eq_true rfl) (xk1 hm (by decide)) (xn1 hm (by decide)) (fun q22 h23 => ?_)
                refine r_if_ne (tgt := 130) C dX1_readTask_125 (by decide) (fun h24 => ?_) (fun h24 => ?_)
                · refine r_iconst (v := 0) C dX1_readTask_128 (by decide) ?_
                  exact r_zretc C dX1_readTask_129 rfl bz0 rfl (xk0 hm) (xn0 hm)
                · refine r_aload_n C 0 dX1_readTask_130 rfl rfl ?_
                  refine gf_13_1 C dX1_readTask_131 u_241 in_13 ?_
                  refine gf_0_10 C dX1_readTask_134 u_221 (in_0 (by decide)) ?_
                  refine r_aload_n C 0 dX1_readTask_137 rfl rfl ?_
                  refine gf_13_1 C dX1_readTask_138 u_241 in_13 ?_
                  refine gf_0_5 C dX1_readTask_141 u_201 (in_0 (by decide)) ?_
                  refine r_aald (t0 := 5) (ty := .array .int) C dX1_readTask_144 (in_3 (by decide)) (contW_3 g _ _ _ _ _) rfl rfl (fun h25 => ?_)
                  refine r_astore_n (lv' := [(1, .ref (gA g 4 0 ((q22.2.1 0 0 0 5).toNatClampNeg))), (0, .ref (gA g 13 0 0))]) C dX1_readTask_145 rfl (by decide) rfl ?_
                  refine r_iconst (v := 0) C dX1_readTask_146 (by decide) ?_
                  refine r_istore_n0 (lv' := [(2, .int 0), (1, .ref (gA g 4 0 ((q22.2.1 0 0 0 5).toNatClampNeg))), (0, .ref (gA g 13 0 0))]) C dX1_readTask_147 rfl (by decide) rfl ?_
                  refine r_lv [2, 1, 0] rfl ?_
                  exact tl_X1_readTask_148 C hm ((q22.2.1 0 0 0 5).toNatClampNeg) (inb_lt h25) FU 0 q22.2
  · refine r_aload_n C 0 dX1_readTask_11 rfl rfl ?_
    refine r_iconst (v := 3) C dX1_readTask_12 (by decide) ?_
    refine r_callVWi (rest := []) C (c_X1_fail 3 M) dX1_readTask_13 u_466 in_13 (contW_13 g _ _ _ _ _) rfl u_467 u_3 mi_X1_fail (by decide) rfl rfl (Nat.le_of_ble_eq_true rfl) (xk1 hm (by decide)) (xn1 hm (by decide)) (fun q32 h33 => ?_)
    exact r_zret C dX1_readTask_16 rfl rfl (xk0 hm) (xn0 hm)
def F_X0_hasTask (b : Nat) (p1 : Int32) (M : Mw) : Option (Int32) :=
  (if p1 < 0 then some 0 else (if (M.1 0 b 0 5) ≤ p1 then some 0 else some 1))
set_option maxRecDepth 100000 in
set_option maxHeartbeats 4000000 in
theorem c_X0_hasTask {g : Gw} {l : Launch} {b : Nat} (hb : b < 8) (p1 : Int32) (M : Mw) : Kw g l yX0_hasTask cX0_hasTask 2 (some .boolean) 1 0 0 [.ref (gA g 0 b 0), .int p1] M (fun v : Int32 => (some (.int v), M)) (F_X0_hasTask b p1 M) := by
  refine Kw.of (own := RX0) (lv0 := [(0, .ref (gA g 0 b 0)), (1, .int p1)]) (by decide +kernel) rfl (Nat.le_of_ble_eq_true rfl) rfl (fun x C hl hm => ?_)
  subst hl
  unfold F_X0_hasTask
  refine r_iload_n C 1 dX0_hasTask_0 rfl rfl ?_
  refine r_if_lt (tgt := 16) C dX0_hasTask_1 (by decide) (fun h1 => ?_) (fun h1 => ?_)
  · refine r_iconst (v := 0) C dX0_hasTask_16 (by decide) ?_
    exact r_zretc C dX0_hasTask_17 rfl bz0 rfl (xk0 hm) (xn0 hm)
  · refine r_iload_n C 1 dX0_hasTask_4 rfl rfl ?_
    refine r_aload_n C 0 dX0_hasTask_5 rfl rfl ?_
    refine gf_0_5 C dX0_hasTask_6 u_200 (in_0 hb) ?_
    refine r_icmp_ge (tgt := 16) C dX0_hasTask_9 (by decide) (fun h2 => ?_) (fun h2 => ?_)
    · refine r_iconst (v := 0) C dX0_hasTask_16 (by decide) ?_
      exact r_zretc C dX0_hasTask_17 rfl bz0 rfl (xk0 hm) (xn0 hm)
    · refine r_iconst (v := 1) C dX0_hasTask_12 (by decide) ?_
      refine r_goto (tgt := 17) C dX0_hasTask_13 (by decide) ?_
      exact r_zretc C dX0_hasTask_17 rfl bz1 rfl (xk0 hm) (xn0 hm)
def F_X0_hasNode (b : Nat) (p1 : Int32) (p2 : Int32) (M : Mw) : Option (Int32) :=
  ((F_X0_hasTask b p1 M).bind (fun v1 => (if v1 = 0 then some 0 else (if p2 < 0 then some 0 else (if inb p1 5 then (if (M.1 4 b p1.toNatClampNeg 6) ≤ p2 then some 0 else some 1) else none)))))
set_option maxRecDepth 100000 in
set_option maxHeartbeats 4000000 in
theorem c_X0_hasNode {g : Gw} {l : Launch} {b : Nat} (hb : b < 8) (p1 : Int32) (p2 : Int32) (M : Mw) : Kw g l yX0_hasNode cX0_hasNode 3 (some .boolean) 2 0 0 [.ref (gA g 0 b 0), .int p1, .int p2] M (fun v : Int32 => (some (.int v), M)) (F_X0_hasNode b p1 p2 M) := by
  refine Kw.of (own := RX0) (lv0 := [(0, .ref (gA g 0 b 0)), (1, .int p1), (2, .int p2)]) (by decide +kernel) rfl (Nat.le_of_ble_eq_true rfl) rfl (fun x C hl hm => ?_)
  subst hl
  unfold F_X0_hasNode
  refine r_aload_n C 0 dX0_hasNode_0 rfl rfl ?_
  refine r_iload_n C 1 dX0_hasNode_1 rfl rfl ?_
  refine r_callVRi (rest := []) C (c_X0_hasTask hb p1 M) dX0_hasNode_2 u_509 (in_0 hb) (contW_0 g _ _ _ _ _) rfl u_510 u_511 mi_X0_hasTask (by decide) rfl rfl (Nat.le_of_ble_eq_true rfl) (xk1 hm (by decide)) (xn1 hm (by decide)) (fun v1 h2 => ?_)
  refine r_if_eq (tgt := 29) C dX0_hasNode_5 (by decide) (fun h3 => ?_) (fun h3 => ?_)
  · refine r_iconst (v := 0) C dX0_hasNode_29 (by decide) ?_
    exact r_zretc C dX0_hasNode_30 rfl bz0 rfl (xk0 hm) (xn0 hm)
  · refine r_iload_n C 2 dX0_hasNode_8 rfl rfl ?_
    refine r_if_lt (tgt := 29) C dX0_hasNode_9 (by decide) (fun h4 => ?_) (fun h4 => ?_)
    · refine r_iconst (v := 0) C dX0_hasNode_29 (by decide) ?_
      exact r_zretc C dX0_hasNode_30 rfl bz0 rfl (xk0 hm) (xn0 hm)
    · refine r_iload_n C 2 dX0_hasNode_12 rfl rfl ?_
      refine r_aload_n C 0 dX0_hasNode_13 rfl rfl ?_
      refine gf_0_10 C dX0_hasNode_14 u_218 (in_0 hb) ?_
      refine r_iload_n C 1 dX0_hasNode_17 rfl rfl ?_
      refine r_aald (t0 := 5) (ty := .array .int) C dX0_hasNode_18 (in_3 hb) (contW_3 g _ _ _ _ _) rfl rfl (fun h5 => ?_)
      refine r_bipush (v := 6) C dX0_hasNode_19 (by decide) ?_
      refine r_ialdc C dX0_hasNode_21 (in_4 hb (inb_lt h5)) (contW_4 g _ _ _ _ _) (by decide) (j := 6) (by decide) ?_
      refine r_icmp_ge (tgt := 29) C dX0_hasNode_22 (by decide) (fun h6 => ?_) (fun h6 => ?_)
      · refine r_iconst (v := 0) C dX0_hasNode_29 (by decide) ?_
        exact r_zretc C dX0_hasNode_30 rfl bz0 rfl (xk0 hm) (xn0 hm)
      · refine r_iconst (v := 1) C dX0_hasNode_25 (by decide) ?_
        refine r_goto (tgt := 30) C dX0_hasNode_26 (by decide) ?_
        exact r_zretc C dX0_hasNode_30 rfl bz1 rfl (xk0 hm) (xn0 hm)
def F_X0_isFollower (b : Nat) (p1 : Int32) (p2 : Int32) (p3 : Int32) (M : Mw) : Option (Int32) :=
  ((F_X0_hasNode b p1 p2 M).bind (fun v1 => (if v1 = 0 then some 0 else (if inb p1 5 then (if inb p2 6 then (if ((M.1 8 b p1.toNatClampNeg p2.toNatClampNeg) &&& (1 <<< (p3 &&& 31))) = 0 then some 0 else some 1) else none) else none))))
set_option maxRecDepth 100000 in
set_option maxHeartbeats 4000000 in
theorem c_X0_isFollower {g : Gw} {l : Launch} {b : Nat} (hb : b < 8) (p1 : Int32) (p2 : Int32) (p3 : Int32) (M : Mw) : Kw g l yX0_isFollower cX0_isFollower 4 (some .boolean) 3 0 0 [.ref (gA g 0 b 0), .int p1, .int p2, .int p3] M (fun v : Int32 => (some (.int v), M)) (F_X0_isFollower b p1 p2 p3 M) := by
  refine Kw.of (own := RX0) (lv0 := [(0, .ref (gA g 0 b 0)), (1, .int p1), (2, .int p2), (3, .int p3)]) (by decide +kernel) rfl (Nat.le_of_ble_eq_true rfl) rfl (fun x C hl hm => ?_)
  subst hl
  unfold F_X0_isFollower
  refine r_aload_n C 0 dX0_isFollower_0 rfl rfl ?_
  refine r_iload_n C 1 dX0_isFollower_1 rfl rfl ?_
  refine r_iload_n C 2 dX0_isFollower_2 rfl rfl ?_
  refine r_callVRi (rest := []) C (c_X0_hasNode hb p1 p2 M) dX0_isFollower_3 u_505 (in_0 hb) (contW_0 g _ _ _ _ _) rfl u_506 u_507 mi_X0_hasNode (by decide) rfl rfl (Nat.le_of_ble_eq_true rfl) (xk1 hm (by decide)) (xn1 hm (by decide)) (fun v1 h2 => ?_)
  refine r_if_eq (tgt := 28) C dX0_isFollower_6 (by decide) (fun h3 => ?_) (fun h3 => ?_)
  · refine r_iconst (v := 0) C dX0_isFollower_28 (by decide) ?_
    exact r_zretc C dX0_isFollower_29 rfl bz0 rfl (xk0 hm) (xn0 hm)
  · refine r_aload_n C 0 dX0_isFollower_9 rfl rfl ?_
    refine gf_0_12 C dX0_isFollower_10 u_229 (in_0 hb) ?_
    refine r_iload_n C 1 dX0_isFollower_13 rfl rfl ?_
    refine r_aald (t0 := 5) (ty := .array .int) C dX0_isFollower_14 (in_7 hb) (contW_7 g _ _ _ _ _) rfl rfl (fun h4 => ?_)
    refine r_iload_n C 2 dX0_isFollower_15 rfl rfl ?_
    refine r_iald C dX0_isFollower_16 (in_8 hb (inb_lt h4)) (contW_8 g _ _ _ _ _) (fun h5 => ?_)
    refine r_iconst (v := 1) C dX0_isFollower_17 (by decide) ?_
    refine r_iload_n C 3 dX0_isFollower_18 rfl rfl ?_
    refine r_ishl C dX0_isFollower_19 ?_
    refine r_iand C dX0_isFollower_20 ?_
    refine r_if_eq (tgt := 28) C dX0_isFollower_21 (by decide) (fun h6 => ?_) (fun h6 => ?_)
    · refine r_iconst (v := 0) C dX0_isFollower_28 (by decide) ?_
      exact r_zretc C dX0_isFollower_29 rfl bz0 rfl (xk0 hm) (xn0 hm)
    · refine r_iconst (v := 1) C dX0_isFollower_24 (by decide) ?_
      refine r_goto (tgt := 29) C dX0_isFollower_25 (by decide) ?_
      exact r_zretc C dX0_isFollower_29 rfl bz1 rfl (xk0 hm) (xn0 hm)
def B_X1_readFlow_71 (k13 : Int32 → Mw → Option (Int32 × Mw)) (l1 : Int32) (l2 : Int32) (l3 : Int32) (M : Mw) : Option (Int32 × Mw) :=
  ((F_X1_readNumber 0 (l2 - 1) 1 M).bind (fun q6 => (if q6.1 = 0 then some (0, q6.2) else (if inb l1 5 then (if inb (q6.2.1 14 0 0 1) 6 then (if inb (q6.2.1 14 0 0 1) 6 then (bd (uIw q6.2 8 0 l1.toNatClampNeg (q6.2.1 14 0 0 1).toNatClampNeg ((q6.2.1 8 0 l1.toNatClampNeg (q6.2.1 14 0 0 1).toNatClampNeg) ||| (1 <<< (l2 &&& 31)))) (fun M11 => (bd (l3 + 1) (fun v13 => (k13 v13 M11))))) else none) else none) else none))))
def B_X1_readFlow_35 (k13 : Int32 → Mw → Option (Int32 × Mw)) (l1 : Int32) (l2 : Int32) (l3 : Int32) (M : Mw) : Option (Int32 × Mw) :=
  (if (M.1 15 0 0 2) = 1 then ((F_X0_isFollower 0 l1 (M.1 15 0 0 5) l2 M).bind (fun v14 => (if v14 = 0 then (B_X1_readFlow_71 k13 l1 l2 l3 M) else ((F_X1_fail 2 M).bind (fun q17 => (if bz q17.1 then some (q17.1, q17.2) else none)))))) else (B_X1_readFlow_71 k13 l1 l2 l3 M))
def B_X1_readFlow_13 (l1 : Int32) (l2 : Int32) (k13 : Int32 → Mw → Option (Int32 × Mw)) (l3 : Int32) (M : Mw) : Option (Int32 × Mw) :=
  (if l3 = 0 then (B_X1_readFlow_35 k13 l1 l2 l3 M) else (if (l2 + 1) ≤ l3 then some (1, M) else (if (M.1 15 0 0 2) = 1 then (B_X1_readFlow_35 k13 l1 l2 l3 M) else some (1, M))))
def F_X1_readFlow (p1 : Int32) (p2 : Int32) (M : Mw) : Option (Int32 × Mw) :=
  ((F_X1_readWord 0 M).bind (fun q1 => (if q1.1 = 0 then some (0, q1.2) else (it (fun _ _ => none) (B_X1_readFlow_13 p1 p2) FU 0 q1.2))))
set_option maxRecDepth 100000 in
set_option maxHeartbeats 4000000 in
theorem t_X1_readFlow_71 {g : Gw} {x : Xw} (C : Cw g x cX1_readFlow RX1 4 (some .boolean) 9) (hm : x.2.2.2.2.2.2.2.2.2.2.2 = (0, 0)) (k13 : Int32 → Mw → Option (Int32 × Mw)) (l1 : Int32) (l2 : Int32) (l3 : Int32) (hk13 : ∀ (l3 : Int32) (M : Mw), Sw g x (fun q : Int32 × Mw => (some (.int q.1), q.2)) M 0 0 13 [(0, .ref (gA g 13 0 0)), (1, .int l1), (2, .int l2), (3, .int l3)] [] (k13 l3 M)) (M : Mw) : Sw g x (fun q : Int32 × Mw => (some (.int q.1), q.2)) M 0 0 71 [(0, .ref (gA g 13 0 0)), (1, .int l1), (2, .int l2), (3, .int l3)] [] (B_X1_readFlow_71 k13 l1 l2 l3 M) := by
  unfold B_X1_readFlow_71
  refine r_aload_n C 0 dX1_readFlow_71 rfl rfl ?_
  refine r_iconst (v := 0) C dX1_readFlow_72 (by decide) ?_
  refine r_iload_n C 2 dX1_readFlow_73 rfl rfl ?_
  refine r_iconst (v := 1) C dX1_readFlow_74 (by decide) ?_
  refine r_isub C dX1_readFlow_75 ?_
  refine r_iconst (v := 1) C dX1_readFlow_76 (by decide) ?_
  refine r_callVWi (rest := []) C (c_X1_readNumber 0 (l2 - 1) 1 M) dX1_readFlow_77 u_479 in_13 (contW_13 g _ _ _ _ _) rfl u_480 u_7 mi_X1_readNumber (by decide) rfl rfl (Nat.le_of_ble_eq_true rfl) (xk1 hm (by decide)) (xn1 hm (by decide)) (fun q6 h7 => ?_)
  refine r_if_ne (tgt := 85) C dX1_readFlow_80 (by decide) (fun h8 => ?_) (fun h8 => ?_)
  · refine r_iconst (v := 0) C dX1_readFlow_83 (by decide) ?_
    exact r_zretc C dX1_readFlow_84 rfl bz0 rfl (xk0 hm) (xn0 hm)
  · refine r_aload_n C 0 dX1_readFlow_85 rfl rfl ?_
    refine gf_13_1 C dX1_readFlow_86 u_241 in_13 ?_
    refine gf_0_12 C dX1_readFlow_89 u_232 (in_0 (by decide)) ?_
    refine r_iload_n C 1 dX1_readFlow_92 rfl rfl ?_
    refine r_aald (t0 := 5) (ty := .array .int) C dX1_readFlow_93 (in_7 (by decide)) (contW_7 g _ _ _ _ _) rfl rfl (fun h9 => ?_)
    refine r_aload_n C 0 dX1_readFlow_94 rfl rfl ?_
    refine gf_13_4 C dX1_readFlow_95 u_247 in_13 ?_
    refine r_iconst (v := 1) C dX1_readFlow_98 (by decide) ?_
    refine r_ialdc C dX1_readFlow_99 in_14 (contW_14 g _ _ _ _ _) (by decide) (j := 1) (by decide) ?_
    refine r_dup2 C rfl rfl dX1_readFlow_100 ?_
    refine r_iald C dX1_readFlow_101 (in_8 (by decide) (inb_lt h9)) (contW_8 g _ _ _ _ _) (fun h10 => ?_)
    refine r_iconst (v := 1) C dX1_readFlow_102 (by decide) ?_
    refine r_iload_n C 2 dX1_readFlow_103 rfl rfl ?_
    refine r_ishl C dX1_readFlow_104 ?_
    refine r_ior C dX1_readFlow_105 ?_
    refine r_iast C dX1_readFlow_106 (in_8 (by decide) (inb_lt h9)) (contW_8 g _ _) (fun M11 h12 => ?_)
    refine r_iinc (c := 1) (lv' := fun v13 => [(3, .int v13), (0, .ref (gA g 13 0 0)), (1, .int l1), (2, .int l2)]) C 3 dX1_readFlow_107 rfl (by decide) (by decide) (fun _ => rfl) (fun v13 => ?_)
    refine r_goto (tgt := 13) C dX1_readFlow_110 (by decide) ?_
    refine r_lv [1, 2, 3, 0] rfl ?_
    exact hk13 v13 M11
set_option maxRecDepth 100000 in
set_option maxHeartbeats 4000000 in
theorem t_X1_readFlow_35 {g : Gw} {x : Xw} (C : Cw g x cX1_readFlow RX1 4 (some .boolean) 9) (hm : x.2.2.2.2.2.2.2.2.2.2.2 = (0, 0)) (k13 : Int32 → Mw → Option (Int32 × Mw)) (l1 : Int32) (l2 : Int32) (l3 : Int32) (hk13 : ∀ (l3 : Int32) (M : Mw), Sw g x (fun q : Int32 × Mw => (some (.int q.1), q.2)) M 0 0 13 [(0, .ref (gA g 13 0 0)), (1, .int l1), (2, .int l2), (3, .int l3)] [] (k13 l3 M)) (M : Mw) : Sw g x (fun q : Int32 × Mw => (some (.int q.1), q.2)) M 0 0 35 [(0, .ref (gA g 13 0 0)), (1, .int l1), (2, .int l2), (3, .int l3)] [] (B_X1_readFlow_35 k13 l1 l2 l3 M) := by
  unfold B_X1_readFlow_35
  refine r_aload_n C 0 dX1_readFlow_35 rfl rfl ?_
  refine gf_13_0 C dX1_readFlow_36 u_239 in_13 ?_
  refine gf_15_2 C dX1_readFlow_39 u_167 in_15 ?_
  refine r_iconst (v := 1) C dX1_readFlow_42 (by decide) ?_
  refine r_icmp_ne (tgt := 71) C dX1_readFlow_43 (by decide) (fun h5 => ?_) (fun h5 => ?_)
  · refine r_aload_n C 0 dX1_readFlow_46 rfl rfl ?_
    refine gf_13_1 C dX1_readFlow_47 u_241 in_13 ?_
    refine r_iload_n C 1 dX1_readFlow_50 rfl rfl ?_
    refine r_aload_n C 0 dX1_readFlow_51 rfl rfl ?_
    refine gf_13_0 C dX1_readFlow_52 u_239 in_13 ?_
    refine gf_15_5 C dX1_readFlow_55 u_172 in_15 ?_
    refine r_iload_n C 2 dX1_readFlow_58 rfl rfl ?_
    refine r_callVRi (rest := []) C (c_X0_isFollower (by decide) l1 (M.1 15 0 0 5) l2 M) dX1_readFlow_59 u_501 (in_0 (by decide)) (contW_0 g _ _ _ _ _) rfl u_502 u_503 mi_X0_isFollower (by decide) rfl rfl (Nat.le_of_ble_eq_true rfl) (xk1 hm (by decide)) (xn1 hm (by decide)) (fun v14 h15 => ?_)
    refine r_if_eq (tgt := 71) C dX1_readFlow_62 (by decide) (fun h16 => ?_) (fun h16 => ?_)
    · exact t_X1_readFlow_71 C hm k13 l1 l2 l3 hk13 M
    · refine r_aload_n C 0 dX1_readFlow_65 rfl rfl ?_
      refine r_iconst (v := 2) C dX1_readFlow_66 (by decide) ?_
      refine r_callVWi (rest := []) C (c_X1_fail 2 M) dX1_readFlow_67 u_466 in_13 (contW_13 g _ _ _ _ _) rfl u_467 u_3 mi_X1_fail (by decide) rfl rfl (Nat.le_of_ble_eq_true rfl) (xk1 hm (by decide)) (xn1 hm (by decide)) (fun q17 h18 => ?_)
      exact r_zret C dX1_readFlow_70 rfl rfl (xk0 hm) (xn0 hm)
  · exact t_X1_readFlow_71 C hm k13 l1 l2 l3 hk13 M
set_option maxRecDepth 100000 in
set_option maxHeartbeats 4000000 in
theorem t_X1_readFlow_13 {g : Gw} {x : Xw} (C : Cw g x cX1_readFlow RX1 4 (some .boolean) 9) (hm : x.2.2.2.2.2.2.2.2.2.2.2 = (0, 0)) (l1 : Int32) (l2 : Int32) (k13 : Int32 → Mw → Option (Int32 × Mw)) (hk13 : ∀ (l3 : Int32) (M : Mw), Sw g x (fun q : Int32 × Mw => (some (.int q.1), q.2)) M 0 0 13 [(0, .ref (gA g 13 0 0)), (1, .int l1), (2, .int l2), (3, .int l3)] [] (k13 l3 M)) (l3 : Int32) (M : Mw) : Sw g x (fun q : Int32 × Mw => (some (.int q.1), q.2)) M 0 0 13 [(0, .ref (gA g 13 0 0)), (1, .int l1), (2, .int l2), (3, .int l3)] [] (B_X1_readFlow_13 l1 l2 k13 l3 M) := by
  unfold B_X1_readFlow_13
  refine r_iload_n C 3 dX1_readFlow_13 rfl rfl ?_
  refine r_if_eq (tgt := 35) C dX1_readFlow_14 (by decide) (fun h4 => ?_) (fun h4 => ?_)
  · exact t_X1_readFlow_35 C hm k13 l1 l2 l3 hk13 M
  · refine r_iload_n C 3 dX1_readFlow_17 rfl rfl ?_
    refine r_iload_n C 2 dX1_readFlow_18 rfl rfl ?_
    refine r_iconst (v := 1) C dX1_readFlow_19 (by decide) ?_
    refine r_iadd C dX1_readFlow_20 ?_
    refine r_icmp_ge (tgt := 113) C dX1_readFlow_21 (by decide) (fun h19 => ?_) (fun h19 => ?_)
    · refine r_iconst (v := 1) C dX1_readFlow_113 (by decide) ?_
      exact r_zretc C dX1_readFlow_114 rfl bz1 rfl (xk0 hm) (xn0 hm)
    · refine r_aload_n C 0 dX1_readFlow_24 rfl rfl ?_
      refine gf_13_0 C dX1_readFlow_25 u_239 in_13 ?_
      refine gf_15_2 C dX1_readFlow_28 u_167 in_15 ?_
      refine r_iconst (v := 1) C dX1_readFlow_31 (by decide) ?_
      refine r_icmp_ne (tgt := 113) C dX1_readFlow_32 (by decide) (fun h20 => ?_) (fun h20 => ?_)
      · exact t_X1_readFlow_35 C hm k13 l1 l2 l3 hk13 M
      · refine r_iconst (v := 1) C dX1_readFlow_113 (by decide) ?_
        exact r_zretc C dX1_readFlow_114 rfl bz1 rfl (xk0 hm) (xn0 hm)
set_option maxRecDepth 100000 in
set_option maxHeartbeats 4000000 in
theorem tl_X1_readFlow_13 {g : Gw} {x : Xw} (C : Cw g x cX1_readFlow RX1 4 (some .boolean) 9) (hm : x.2.2.2.2.2.2.2.2.2.2.2 = (0, 0)) (l1 : Int32) (l2 : Int32) (n : Nat) : ∀ (l3 : Int32) (M : Mw), Sw g x (fun q : Int32 × Mw => (some (.int q.1), q.2)) M 0 0 13 [(0, .ref (gA g 13 0 0)), (1, .int l1), (2, .int l2), (3, .int l3)] [] (it (fun _ _ => none) (B_X1_readFlow_13 l1 l2) n l3 M) := by
  induction n with
  | zero =>
    intro l3 M
    exact r_none
  | succ n ih =>
    intro l3 M
    exact t_X1_readFlow_13 C hm l1 l2 _ ih l3 M
set_option maxRecDepth 100000 in
set_option maxHeartbeats 4000000 in
theorem c_X1_readFlow {g : Gw} {l : Launch} (p1 : Int32) (p2 : Int32) (M : Mw) : Kw g l yX1_readFlow cX1_readFlow 4 (some .boolean) 9 0 0 [.ref (gA g 13 0 0), .int p1, .int p2] M (fun q : Int32 × Mw => (some (.int q.1), q.2)) (F_X1_readFlow p1 p2 M) := by
  refine Kw.of (own := RX1) (lv0 := [(0, .ref (gA g 13 0 0)), (1, .int p1), (2, .int p2)]) (by decide +kernel) rfl (Nat.le_of_ble_eq_true rfl) rfl (fun x C hl hm => ?_)
  subst hl
  unfold F_X1_readFlow
  refine r_aload_n C 0 dX1_readFlow_0 rfl rfl ?_
  refine r_ldcS (i := 0) (tx := "after") C (by decide) dX1_readFlow_1 ?_
  refine r_callVWi (rest := []) C (c_X1_readWord (by decide) M) dX1_readFlow_3 u_476 in_13 (contW_13 g _ _ _ _ _) rfl u_477 u_6 mi_X1_readWord (by decide) rfl rfl (Nat.le_of_ble_eq_true rfl) (xk1 hm (by decide)) (xn1 hm (by decide)) (fun q1 h2 => ?_)
  refine r_if_ne (tgt := 11) C dX1_readFlow_6 (by decide) (fun h3 => ?_) (fun h3 => ?_)
  · refine r_iconst (v := 0) C dX1_readFlow_9 (by decide) ?_
    exact r_zretc C dX1_readFlow_10 rfl bz0 rfl (xk0 hm) (xn0 hm)
  · refine r_iconst (v := 0) C dX1_readFlow_11 (by decide) ?_
    refine r_istore_n0 (lv' := [(3, .int 0), (0, .ref (gA g 13 0 0)), (1, .int p1), (2, .int p2)]) C dX1_readFlow_12 rfl (by decide) rfl ?_
    refine r_lv [1, 2, 3, 0] rfl ?_
    exact tl_X1_readFlow_13 C hm p1 p2 FU 0 q1.2
