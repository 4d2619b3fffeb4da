set_option maxHeartbeats 4000000 in
theorem law_case {y : Yw} {g : Gw} {b L : Nat} {xs : Nat → Int32} {M : Mw} {cells slots : Nat} {i : Int32} {Inv : Mw → Prop} (hT : gT g = 0) (C : LCw y b L xs g) (hI : Inv M) (hp : AllOK Inv) (h1 : vp_in (i + 1) L) (h2 : vp_in (i + 2) L) (h3 : vp_in (i + 3) L) (h4 : vp_in (i + 4) L) (h5 : vp_in (i + 5) L) (hc : cells + 2 ≤ 600000) (hs : slots + 12 ≤ 7302250) (kk : ∀ M : Mw, Inv M → LSx y g b M (cells + 2) (slots + 12) 1834 i []) (k : Nat) (hk : k < 64) : LSx y g b M cells slots 33 i [.int (nI k)] := by
  obtain ⟨p0, p1, p2, p3, p4, p5, p6, p7, p8, p9, p10, p11, p12, p13, p14, p15, p16, p17, p18, p19, p20, p21, p22, p23, p24, p25, p26, p27, p28, p29, p30, p31, p32, p33, p34, p35, p36, p37, p38, p39, p40, p41, p42, p43, p44, p45, p46, p47, p48, p49, p50, p51, p52, p53, p54⟩ := hp
  by_cases h55 : 55 ≤ k
  · exact q_tabO (tgt := 1834) C dL_law_33 (Or.inr (by rw [nI_toInt (by omega)]; omega)) (by decide) (q_widen (by omega) (by omega) (kk M hI))
  · have hk2 : k < 55 := by omega
    clear h55 hk
    match k, hk2 with
    | 0, _ => exact q_tab (off := 235) (tgt := 268) C dL_law_33 (by decide) (by decide) (by decide) (by decide) (lc_0 hT C hI p0 h1 h2 h3 h4 h5 hc hs kk)
    | 1, _ => exact q_tab (off := 298) (tgt := 331) C dL_law_33 (by decide) (by decide) (by decide) (by decide) (lc_1 hT C hI p1 h1 h2 h3 h4 h5 hc hs kk)
    | 2, _ => exact q_tab (off := 321) (tgt := 354) C dL_law_33 (by decide) (by decide) (by decide) (by decide) (lc_2 hT C hI p2 h1 h2 h3 h4 h5 hc hs kk)
    | 3, _ => exact q_tab (off := 334) (tgt := 367) C dL_law_33 (by decide) (by decide) (by decide) (by decide) (lc_3 hT C hI p3 h1 h2 h3 h4 h5 hc hs kk)
    | 4, _ => exact q_tab (off := 357) (tgt := 390) C dL_law_33 (by decide) (by decide) (by decide) (by decide) (lc_4 hT C hI p4 h1 h2 h3 h4 h5 hc hs kk)
    | 5, _ => exact q_tab (off := 390) (tgt := 423) C dL_law_33 (by decide) (by decide) (by decide) (by decide) (lc_5 hT C hI p5 h1 h2 h3 h4 h5 hc hs kk)
    | 6, _ => exact q_tab (off := 433) (tgt := 466) C dL_law_33 (by decide) (by decide) (by decide) (by decide) (lc_6 hT C hI p6 h1 h2 h3 h4 h5 hc hs kk)
    | 7, _ => exact q_tab (off := 456) (tgt := 489) C dL_law_33 (by decide) (by decide) (by decide) (by decide) (lc_7 hT C hI p7 h1 h2 h3 h4 h5 hc hs kk)
    | 8, _ => exact q_tab (off := 489) (tgt := 522) C dL_law_33 (by decide) (by decide) (by decide) (by decide) (lc_8 hT C hI p8 h1 h2 h3 h4 h5 hc hs kk)
    | 9, _ => exact q_tab (off := 522) (tgt := 555) C dL_law_33 (by decide) (by decide) (by decide) (by decide) (lc_9 hT C hI p9 h1 h2 h3 h4 h5 hc hs kk)
    | 10, _ => exact q_tab (off := 545) (tgt := 578) C dL_law_33 (by decide) (by decide) (by decide) (by decide) (lc_10 hT C hI p10 h1 h2 h3 h4 h5 hc hs kk)
    | 11, _ => exact q_tab (off := 568) (tgt := 601) C dL_law_33 (by decide) (by decide) (by decide) (by decide) (lc_11 hT C hI p11 h1 h2 h3 h4 h5 hc hs kk)
    | 12, _ => exact q_tab (off := 601) (tgt := 634) C dL_law_33 (by decide) (by decide) (by decide) (by decide) (lc_12 hT C hI p12 h1 h2 h3 h4 h5 hc hs kk)
    | 13, _ => exact q_tab (off := 624) (tgt := 657) C dL_law_33 (by decide) (by decide) (by decide) (by decide) (lc_13 hT C hI p13 h1 h2 h3 h4 h5 hc hs kk)
    | 14, _ => exact q_tab (off := 637) (tgt := 670) C dL_law_33 (by decide) (by decide) (by decide) (by decide) (lc_14 hT C hI p14 h1 h2 h3 h4 h5 hc hs kk)
    | 15, _ => exact q_tab (off := 660) (tgt := 693) C dL_law_33 (by decide) (by decide) (by decide) (by decide) (lc_15 hT C hI p15 h1 h2 h3 h4 h5 hc hs kk)
    | 16, _ => exact q_tab (off := 703) (tgt := 736) C dL_law_33 (by decide) (by decide) (by decide) (by decide) (lc_16 hT C hI p16 h1 h2 h3 h4 h5 hc hs kk)
    | 17, _ => exact q_tab (off := 746) (tgt := 779) C dL_law_33 (by decide) (by decide) (by decide) (by decide) (lc_17 hT C hI p17 h1 h2 h3 h4 h5 hc hs kk)
    | 18, _ => exact q_tab (off := 779) (tgt := 812) C dL_law_33 (by decide) (by decide) (by decide) (by decide) (lc_18 hT C hI p18 h1 h2 h3 h4 h5 hc hs kk)
    | 19, _ => exact q_tab (off := 792) (tgt := 825) C dL_law_33 (by decide) (by decide) (by decide) (by decide) (lc_19 hT C hI p19 h1 h2 h3 h4 h5 hc hs kk)
    | 20, _ => exact q_tab (off := 805) (tgt := 838) C dL_law_33 (by decide) (by decide) (by decide) (by decide) (lc_20 hT C hI p20 h1 h2 h3 h4 h5 hc hs kk)
    | 21, _ => exact q_tab (off := 828) (tgt := 861) C dL_law_33 (by decide) (by decide) (by decide) (by decide) (lc_21 hT C hI p21 h1 h2 h3 h4 h5 hc hs kk)
    | 22, _ => exact q_tab (off := 851) (tgt := 884) C dL_law_33 (by decide) (by decide) (by decide) (by decide) (lc_22 hT C hI p22 h1 h2 h3 h4 h5 hc hs kk)
    | 23, _ => exact q_tab (off := 884) (tgt := 917) C dL_law_33 (by decide) (by decide) (by decide) (by decide) (lc_23 hT C hI p23 h1 h2 h3 h4 h5 hc hs kk)
    | 24, _ => exact q_tab (off := 917) (tgt := 950) C dL_law_33 (by decide) (by decide) (by decide) (by decide) (lc_24 hT C hI p24 h1 h2 h3 h4 h5 hc hs kk)
    | 25, _ => exact q_tab (off := 950) (tgt := 983) C dL_law_33 (by decide) (by decide) (by decide) (by decide) (lc_25 hT C hI p25 h1 h2 h3 h4 h5 hc hs kk)
    | 26, _ => exact q_tab (off := 983) (tgt := 1016) C dL_law_33 (by decide) (by decide) (by decide) (by decide) (lc_26 hT C hI p26 h1 h2 h3 h4 h5 hc hs kk)
    | 27, _ => exact q_tab (off := 1016) (tgt := 1049) C dL_law_33 (by decide) (by decide) (by decide) (by decide) (lc_27 hT C hI p27 h1 h2 h3 h4 h5 hc hs kk)
    | 28, _ => exact q_tab (off := 1049) (tgt := 1082) C dL_law_33 (by decide) (by decide) (by decide) (by decide) (lc_28 hT C hI p28 h1 h2 h3 h4 h5 hc hs kk)
    | 29, _ => exact q_tab (off := 1082) (tgt := 1115) C dL_law_33 (by decide) (by decide) (by decide) (by decide) (lc_29 hT C hI p29 h1 h2 h3 h4 h5 hc hs kk)
    | 30, _ => exact q_tab (off := 1115) (tgt := 1148) C dL_law_33 (by decide) (by decide) (by decide) (by decide) (lc_30 hT C hI p30 h1 h2 h3 h4 h5 hc hs kk)
    | 31, _ => exact q_tab (off := 1148) (tgt := 1181) C dL_law_33 (by decide) (by decide) (by decide) (by decide) (lc_31 hT C hI p31 h1 h2 h3 h4 h5 hc hs kk)
    | 32, _ => exact q_tab (off := 1181) (tgt := 1214) C dL_law_33 (by decide) (by decide) (by decide) (by decide) (lc_32 hT C hI p32 h1 h2 h3 h4 h5 hc hs kk)
    | 33, _ => exact q_tab (off := 1214) (tgt := 1247) C dL_law_33 (by decide) (by decide) (by decide) (by decide) (lc_33 hT C hI p33 h1 h2 h3 h4 h5 hc hs kk)
    | 34, _ => exact q_tab (off := 1248) (tgt := 1281) C dL_law_33 (by decide) (by decide) (by decide) (by decide) (lc_34 hT C hI p34 h1 h2 h3 h4 h5 hc hs kk)
    | 35, _ => exact q_tab (off := 1271) (tgt := 1304) C dL_law_33 (by decide) (by decide) (by decide) (by decide) (lc_35 hT C hI p35 h1 h2 h3 h4 h5 hc hs kk)
    | 36, _ => exact q_tab (off := 1304) (tgt := 1337) C dL_law_33 (by decide) (by decide) (by decide) (by decide) (lc_36 hT C hI p36 h1 h2 h3 h4 h5 hc hs kk)
    | 37, _ => exact q_tab (off := 1327) (tgt := 1360) C dL_law_33 (by decide) (by decide) (by decide) (by decide) (lc_37 hT C hI p37 h1 h2 h3 h4 h5 hc hs kk)
    | 38, _ => exact q_tab (off := 1350) (tgt := 1383) C dL_law_33 (by decide) (by decide) (by decide) (by decide) (lc_38 hT C hI p38 h1 h2 h3 h4 h5 hc hs kk)
    | 39, _ => exact q_tab (off := 1383) (tgt := 1416) C dL_law_33 (by decide) (by decide) (by decide) (by decide) (lc_39 hT C hI p39 h1 h2 h3 h4 h5 hc hs kk)
    | 40, _ => exact q_tab (off := 1396) (tgt := 1429) C dL_law_33 (by decide) (by decide) (by decide) (by decide) (lc_40 hT C hI p40 h1 h2 h3 h4 h5 hc hs kk)
    | 41, _ => exact q_tab (off := 1429) (tgt := 1462) C dL_law_33 (by decide) (by decide) (by decide) (by decide) (lc_41 hT C hI p41 h1 h2 h3 h4 h5 hc hs kk)
    | 42, _ => exact q_tab (off := 1452) (tgt := 1485) C dL_law_33 (by decide) (by decide) (by decide) (by decide) (lc_42 hT C hI p42 h1 h2 h3 h4 h5 hc hs kk)
    | 43, _ => exact q_tab (off := 1475) (tgt := 1508) C dL_law_33 (by decide) (by decide) (by decide) (by decide) (lc_43 hT C hI p43 h1 h2 h3 h4 h5 hc hs kk)
    | 44, _ => exact q_tab (off := 1488) (tgt := 1521) C dL_law_33 (by decide) (by decide) (by decide) (by decide) (lc_44 hT C hI p44 h1 h2 h3 h4 h5 hc hs kk)
    | 45, _ => exact q_tab (off := 1531) (tgt := 1564) C dL_law_33 (by decide) (by decide) (by decide) (by decide) (lc_45 hT C hI p45 h1 h2 h3 h4 h5 hc hs kk)
    | 46, _ => exact q_tab (off := 1554) (tgt := 1587) C dL_law_33 (by decide) (by decide) (by decide) (by decide) (lc_46 hT C hI p46 h1 h2 h3 h4 h5 hc hs kk)
    | 47, _ => exact q_tab (off := 1577) (tgt := 1610) C dL_law_33 (by decide) (by decide) (by decide) (by decide) (lc_47 hT C hI p47 h1 h2 h3 h4 h5 hc hs kk)
    | 48, _ => exact q_tab (off := 1610) (tgt := 1643) C dL_law_33 (by decide) (by decide) (by decide) (by decide) (lc_48 hT C hI p48 h1 h2 h3 h4 h5 hc hs kk)
    | 49, _ => exact q_tab (off := 1643) (tgt := 1676) C dL_law_33 (by decide) (by decide) (by decide) (by decide) (lc_49 hT C hI p49 h1 h2 h3 h4 h5 hc hs kk)
    | 50, _ => exact q_tab (off := 1706) (tgt := 1739) C dL_law_33 (by decide) (by decide) (by decide) (by decide) (lc_50 hT C hI p50 h1 h2 h3 h4 h5 hc hs kk)
    | 51, _ => exact q_tab (off := 1719) (tgt := 1752) C dL_law_33 (by decide) (by decide) (by decide) (by decide) (lc_51 hT C hI p51 h1 h2 h3 h4 h5 hc hs kk)
    | 52, _ => exact q_tab (off := 1732) (tgt := 1765) C dL_law_33 (by decide) (by decide) (by decide) (by decide) (lc_52 hT C hI p52 h1 h2 h3 h4 h5 hc hs kk)
    | 53, _ => exact q_tab (off := 1755) (tgt := 1788) C dL_law_33 (by decide) (by decide) (by decide) (by decide) (lc_53 hT C hI p53 h1 h2 h3 h4 h5 hc hs kk)
    | 54, _ => exact q_tab (off := 1778) (tgt := 1811) C dL_law_33 (by decide) (by decide) (by decide) (by decide) (lc_54 hT C hI p54 h1 h2 h3 h4 h5 hc hs kk)
    | k + 55, h => exact absurd h (by omega)
theorem law_loop {y : Yw} {g : Gw} {b L : Nat} {xs : Nat → Int32} {Inv : Mw → Prop} (hT : gT g = 0) (C : LCw y b L xs g) (hL : L ≤ 3072) (hp : AllOK Inv) {c0 s0 : Nat} (hc0 : c0 ≤ 2000) (hs0 : s0 ≤ 100000) (ke : ∀ (M : Mw) (i : Int32) (cells slots : Nat), cells ≤ 600000 → slots ≤ 7302250 → LSx y g b M cells slots 1840 i []) : ∀ (n j : Nat) (M : Mw), j + n = 513 → Inv M → LSx y g b M (c0 + 2 * j) (s0 + 12 * j) 18 (nI (6 * j)) [] := by
  intro n
  induction n with
  | zero =>
    intro j M hj hI
    obtain rfl : j = 513 := by omega
    exact q_head C hL (by omega) (ke M _ _ _ (by omega) (by omega)) (fun h6 => absurd h6 (by omega))
  | succ n ih =>
    intro j M hj hI
    refine q_head C hL (by omega) (ke M _ _ _ (by omega) (by omega)) (fun h6 => ?_)
    obtain ⟨k, hk, e⟩ := and63 (xs (nI (6 * j)).toNatClampNeg)
    rw [e]
    have hv : ∀ a : Nat, a ≤ 5 → vp_in (nI (6 * j) + nI a) L := fun a ha => by rw [nI_add]; exact vp_in_nI (by omega) (by omega)
    refine law_case hT C hI hp (hv 1 (by omega)) (hv 2 (by omega)) (hv 3 (by omega)) (hv 4 (by omega)) (hv 5 (by omega)) (by omega) (by omega) (fun M' hI' => ?_) k hk
    refine q_next C ?_
    have e1 : nI (6 * j) + 6 = nI (6 * (j + 1)) := nI_add (6 * j) 6
    rw [e1, show c0 + 2 * j + 2 = c0 + 2 * (j + 1) by omega, show s0 + 12 * j + 12 = s0 + 12 * (j + 1) by omega]
    exact ih (j + 1) M' (by omega) hI'
