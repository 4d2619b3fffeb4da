def L_X10 : List (Nat × Nat × Nat) := (50, 0, 0) :: ((((((((((((((((((((((((((((((((((((((((([] ++ [(51, 0, 0)]) ++ [(52, 0, 0)]) ++ [(53, 0, 0)]) ++ [(54, 0, 0)]) ++ [(55, 0, 0)]) ++ [(56, 0, 0)]) ++ [(57, 0, 0)]) ++ [(58, 0, 0)]) ++ [(59, 0, 0)]) ++ [(60, 0, 0)]) ++ [(61, 0, 0)]) ++ [(62, 0, 0)]) ++ [(63, 0, 0)]) ++ [(64, 0, 0)]) ++ [(65, 0, 0)]) ++ [(66, 0, 0)]) ++ [(67, 0, 0)]) ++ [(68, 0, 0)]) ++ [(69, 0, 0)]) ++ [(70, 0, 0)]) ++ [(71, 0, 0)]) ++ [(72, 0, 0)]) ++ [(73, 0, 0)]) ++ [(74, 0, 0)]) ++ [(75, 0, 0)]) ++ [(76, 0, 0)]) ++ [(77, 0, 0)]) ++ [(78, 0, 0)]) ++ [(79, 0, 0)]) ++ [(80, 0, 0)]) ++ [(81, 0, 0)]) ++ [(82, 0, 0)]) ++ [(83, 0, 0)]) ++ [(84, 0, 0)]) ++ [(85, 0, 0)]) ++ [(86, 0, 0)]) ++ [(87, 0, 0)]) ++ [(88, 0, 0)]) ++ [(89, 0, 0)]) ++ [(90, 0, 0)]) ++ [(91, 0, 0)])
set_option maxRecDepth 100000 in
theorem x10_fs (q1 q2 q3 q4 q5 q6 q7 q8 q9 q10 q11 q12 q13 q14 q15 q16 q17 q18 q19 q20 q21 q22 q23 q24 q25 q26 q27 q28 q29 q30 q31 q32 q33 q34 q35 q36 q37 q38 q39 q40 q41 : Nat) : ((((((((((((((((((((((((((((((((((((((((((((([.int 0, .null, .null, .null, .null, .int 0, .null, .int 0, .int 0, .int 0, .int 0, .int 0, .int 0, .int 0, .null, .null, .null, .null, .null, .null, .null, .int 0, .null, .int 0, .int 0, .int 0, .int 0, .int 0, .null, .null, .null, .null, .null, .null, .null, .null, .null, .null, .null, .null, .null, .null, .null, .null, .null, .null, .null, .null, .null, .null, .null, .null, .null, .null, .null, .null, .int 0, .int 0, .int 0, .int 0, .int 0, .int 0] : List Value).set 1 (.ref q1)).set 2 (.ref q2)).set 3 (.ref q3)).set 4 (.ref q4)).set 6 (.ref q5)).set 13 (.int (-1))).set 14 (.ref q6)).set 15 (.ref q7)).set 16 (.ref q8)).set 17 (.ref q9)).set 18 (.ref q10)).set 19 (.ref q11)).set 20 (.ref q12)).set 22 (.ref q13)).set 23 (.int (-1))).set 24 (.int (-1))).set 28 (.ref q14)).set 29 (.ref q15)).set 30 (.ref q16)).set 31 (.ref q17)).set 32 (.ref q18)).set 33 (.ref q19)).set 34 (.ref q20)).set 35 (.ref q21)).set 36 (.ref q22)).set 37 (.ref q23)).set 38 (.ref q24)).set 39 (.ref q25)).set 40 (.ref q26)).set 41 (.ref q27)).set 42 (.ref q28)).set 43 (.ref q29)).set 44 (.ref q30)).set 45 (.ref q31)).set 46 (.ref q32)).set 47 (.ref q33)).set 48 (.ref q34)).set 49 (.ref q35)).set 50 (.ref q36)).set 51 (.ref q37)).set 52 (.ref q38)).set 53 (.ref q39)).set 54 (.ref q40)).set 55 (.ref q41)) = ([.int 0, .ref q1, .ref q2, .ref q3, .ref q4, .int 0, .ref q5, .int 0, .int 0, .int 0, .int 0, .int 0, .int 0, .int (-1), .ref q6, .ref q7, .ref q8, .ref q9, .ref q10, .ref q11, .ref q12, .int 0, .ref q13, .int (-1), .int (-1), .int 0, .int 0, .int 0, .ref q14, .ref q15, .ref q16, .ref q17, .ref q18, .ref q19, .ref q20, .ref q21, .ref q22, .ref q23, .ref q24, .ref q25, .ref q26, .ref q27, .ref q28, .ref q29, .ref q30, .ref q31, .ref q32, .ref q33, .ref q34, .ref q35, .ref q36, .ref q37, .ref q38, .ref q39, .ref q40, .ref q41, .int 0, .int 0, .int 0, .int 0, .int 0, .int 0] : List Value) := by
  simp only [List.set_cons_succ, List.set_cons_zero]
theorem x10_c51 (g : Gw) (AD : Nat → Nat → Nat → Nat) : cellW (gLw g AD) M0w 51 0 0 = .inl (gC g 0, 201, .inl (fun _ => 0)) := rfl
theorem x10_c52 (g : Gw) (AD : Nat → Nat → Nat → Nat) : cellW (gLw g AD) M0w 52 0 0 = .inl (gC g 0, 603, .inl (fun _ => 0)) := rfl
theorem x10_c53 (g : Gw) (AD : Nat → Nat → Nat → Nat) : cellW (gLw g AD) M0w 53 0 0 = .inl (gC g 1, 3, .inl (fun _ => 0)) := rfl
theorem x10_c54 (g : Gw) (AD : Nat → Nat → Nat → Nat) : cellW (gLw g AD) M0w 54 0 0 = .inl (gC g 2, 1000, .inl (fun _ => 0)) := rfl
theorem x10_c55 (g : Gw) (AD : Nat → Nat → Nat → Nat) : cellW (gLw g AD) M0w 55 0 0 = .inl (gC g 0, 5, .inl (fun _ => 0)) := rfl
theorem x10_c56 (g : Gw) (AD : Nat → Nat → Nat → Nat) : cellW (gLw g AD) M0w 56 0 0 = .inl (gC g 0, 201, .inl (fun _ => 0)) := rfl
theorem x10_c57 (g : Gw) (AD : Nat → Nat → Nat → Nat) : cellW (gLw g AD) M0w 57 0 0 = .inl (gC g 0, 6, .inl (fun _ => 0)) := rfl
theorem x10_c58 (g : Gw) (AD : Nat → Nat → Nat → Nat) : cellW (gLw g AD) M0w 58 0 0 = .inl (gC g 0, 5, .inl (fun _ => 0)) := rfl
theorem x10_c59 (g : Gw) (AD : Nat → Nat → Nat → Nat) : cellW (gLw g AD) M0w 59 0 0 = .inl (gC g 0, 5, .inl (fun _ => 0)) := rfl
theorem x10_c60 (g : Gw) (AD : Nat → Nat → Nat → Nat) : cellW (gLw g AD) M0w 60 0 0 = .inl (gC g 0, 5, .inl (fun _ => 0)) := rfl
theorem x10_c61 (g : Gw) (AD : Nat → Nat → Nat → Nat) : cellW (gLw g AD) M0w 61 0 0 = .inl (gC g 0, 5, .inl (fun _ => 0)) := rfl
theorem x10_c62 (g : Gw) (AD : Nat → Nat → Nat → Nat) : cellW (gLw g AD) M0w 62 0 0 = .inl (gC g 0, 5, .inl (fun _ => 0)) := rfl
theorem x10_c63 (g : Gw) (AD : Nat → Nat → Nat → Nat) : cellW (gLw g AD) M0w 63 0 0 = .inl (gC g 0, 64, .inl (fun _ => 0)) := rfl
theorem x10_c64 (g : Gw) (AD : Nat → Nat → Nat → Nat) : cellW (gLw g AD) M0w 64 0 0 = .inl (gC g 0, 5, .inl (fun _ => 0)) := rfl
theorem x10_c65 (g : Gw) (AD : Nat → Nat → Nat → Nat) : cellW (gLw g AD) M0w 65 0 0 = .inl (gC g 0, 5, .inl (fun _ => 0)) := rfl
theorem x10_c66 (g : Gw) (AD : Nat → Nat → Nat → Nat) : cellW (gLw g AD) M0w 66 0 0 = .inl (gC g 0, 5, .inl (fun _ => 0)) := rfl
theorem x10_c67 (g : Gw) (AD : Nat → Nat → Nat → Nat) : cellW (gLw g AD) M0w 67 0 0 = .inl (gC g 0, 5, .inl (fun _ => 0)) := rfl
theorem x10_c68 (g : Gw) (AD : Nat → Nat → Nat → Nat) : cellW (gLw g AD) M0w 68 0 0 = .inl (gC g 0, 5, .inl (fun _ => 0)) := rfl
theorem x10_c69 (g : Gw) (AD : Nat → Nat → Nat → Nat) : cellW (gLw g AD) M0w 69 0 0 = .inl (gC g 0, 5, .inl (fun _ => 0)) := rfl
theorem x10_c70 (g : Gw) (AD : Nat → Nat → Nat → Nat) : cellW (gLw g AD) M0w 70 0 0 = .inl (gC g 0, 5, .inl (fun _ => 0)) := rfl
theorem x10_c71 (g : Gw) (AD : Nat → Nat → Nat → Nat) : cellW (gLw g AD) M0w 71 0 0 = .inl (gC g 1, 5, .inl (fun _ => 0)) := rfl
theorem x10_c72 (g : Gw) (AD : Nat → Nat → Nat → Nat) : cellW (gLw g AD) M0w 72 0 0 = .inl (gC g 0, 5, .inl (fun _ => 0)) := rfl
theorem x10_c73 (g : Gw) (AD : Nat → Nat → Nat → Nat) : cellW (gLw g AD) M0w 73 0 0 = .inl (gC g 0, 5, .inl (fun _ => 0)) := rfl
theorem x10_c74 (g : Gw) (AD : Nat → Nat → Nat → Nat) : cellW (gLw g AD) M0w 74 0 0 = .inl (gC g 3, 5, .inr (.inr (.inl (fun _ => 0)))) := rfl
theorem x10_c75 (g : Gw) (AD : Nat → Nat → Nat → Nat) : cellW (gLw g AD) M0w 75 0 0 = .inl (gC g 0, 5, .inl (fun _ => 0)) := rfl
theorem x10_c76 (g : Gw) (AD : Nat → Nat → Nat → Nat) : cellW (gLw g AD) M0w 76 0 0 = .inl (gC g 1, 5, .inl (fun _ => 0)) := rfl
theorem x10_c77 (g : Gw) (AD : Nat → Nat → Nat → Nat) : cellW (gLw g AD) M0w 77 0 0 = .inl (gC g 0, 5, .inl (fun _ => 0)) := rfl
theorem x10_c78 (g : Gw) (AD : Nat → Nat → Nat → Nat) : cellW (gLw g AD) M0w 78 0 0 = .inl (gC g 0, 5, .inl (fun _ => 0)) := rfl
theorem x10_c79 (g : Gw) (AD : Nat → Nat → Nat → Nat) : cellW (gLw g AD) M0w 79 0 0 = .inl (gC g 3, 5, .inr (.inr (.inl (fun _ => 0)))) := rfl
theorem x10_c80 (g : Gw) (AD : Nat → Nat → Nat → Nat) : cellW (gLw g AD) M0w 80 0 0 = .inl (gC g 4, 5, .inr (.inr (.inr (.inl (fun _ => 0))))) := rfl
theorem x10_c81 (g : Gw) (AD : Nat → Nat → Nat → Nat) : cellW (gLw g AD) M0w 81 0 0 = .inl (gC g 0, 5, .inl (fun _ => 0)) := rfl
theorem x10_c82 (g : Gw) (AD : Nat → Nat → Nat → Nat) : cellW (gLw g AD) M0w 82 0 0 = .inl (gC g 0, 1000, .inl (fun _ => 0)) := rfl
theorem x10_c83 (g : Gw) (AD : Nat → Nat → Nat → Nat) : cellW (gLw g AD) M0w 83 0 0 = .inl (gC g 0, 255, .inl (fun _ => 0)) := rfl
theorem x10_c84 (g : Gw) (AD : Nat → Nat → Nat → Nat) : cellW (gLw g AD) M0w 84 0 0 = .inl (gC g 1, 19, .inl (fun _ => 0)) := rfl
theorem x10_c85 (g : Gw) (AD : Nat → Nat → Nat → Nat) : cellW (gLw g AD) M0w 85 0 0 = .inl (gC g 1, 3, .inl (fun _ => 0)) := rfl
theorem x10_c86 (g : Gw) (AD : Nat → Nat → Nat → Nat) : cellW (gLw g AD) M0w 86 0 0 = .inl (gC g 1, 3, .inl (fun _ => 0)) := rfl
theorem x10_c87 (g : Gw) (AD : Nat → Nat → Nat → Nat) : cellW (gLw g AD) M0w 87 0 0 = .inl (gC g 0, 200, .inl (fun _ => 0)) := rfl
theorem x10_c88 (g : Gw) (AD : Nat → Nat → Nat → Nat) : cellW (gLw g AD) M0w 88 0 0 = .inl (gC g 0, 4000, .inl (fun _ => 0)) := rfl
theorem x10_c89 (g : Gw) (AD : Nat → Nat → Nat → Nat) : cellW (gLw g AD) M0w 89 0 0 = .inl (gC g 0, 4000, .inl (fun _ => 0)) := rfl
theorem x10_c90 (g : Gw) (AD : Nat → Nat → Nat → Nat) : cellW (gLw g AD) M0w 90 0 0 = .inl (gC g 0, 4000, .inl (fun _ => 0)) := rfl
theorem x10_c91 (g : Gw) (AD : Nat → Nat → Nat → Nat) : cellW (gLw g AD) M0w 91 0 0 = .inl (gC g 0, 4000, .inl (fun _ => 0)) := rfl
theorem x10_c50 (g : Gw) (AD : Nat → Nat → Nat → Nat) : cellW (gLw g AD) M0w 50 0 0 = .inr (10, [.int 0, .ref (AD 51 0 0), .ref (AD 52 0 0), .ref (AD 53 0 0), .ref (AD 54 0 0), .int 0, .ref (AD 55 0 0), .int 0, .int 0, .int 0, .int 0, .int 0, .int 0, .int (-1), .ref (AD 56 0 0), .ref (AD 57 0 0), .ref (AD 58 0 0), .ref (AD 59 0 0), .ref (AD 60 0 0), .ref (AD 61 0 0), .ref (AD 62 0 0), .int 0, .ref (AD 63 0 0), .int (-1), .int (-1), .int 0, .int 0, .int 0, .ref (AD 64 0 0), .ref (AD 65 0 0), .ref (AD 66 0 0), .ref (AD 67 0 0), .ref (AD 68 0 0), .ref (AD 69 0 0), .ref (AD 70 0 0), .ref (AD 71 0 0), .ref (AD 72 0 0), .ref (AD 73 0 0), .ref (AD 74 0 0), .ref (AD 75 0 0), .ref (AD 76 0 0), .ref (AD 77 0 0), .ref (AD 78 0 0), .ref (AD 79 0 0), .ref (AD 80 0 0), .ref (AD 81 0 0), .ref (AD 82 0 0), .ref (AD 83 0 0), .ref (AD 84 0 0), .ref (AD 85 0 0), .ref (AD 86 0 0), .ref (AD 87 0 0), .ref (AD 88 0 0), .ref (AD 89 0 0), .ref (AD 90 0 0), .ref (AD 91 0 0), .int 0, .int 0, .int 0, .int 0, .int 0, .int 0]) := rfl
theorem x10_nil (g : Gw) (ad : Nat → Nat → Nat → Nat) : wsLw g [] ad = [] := rfl
set_option maxRecDepth 100000 in
set_option maxHeartbeats 4000000 in
theorem x10_wsA (g : Gw) (AD : Nat → Nat → Nat → Nat) : wsLw g L_X10 AD = (AD 50 0 0, .inr (10, [.int 0, .ref (AD 51 0 0), .ref (AD 52 0 0), .ref (AD 53 0 0), .ref (AD 54 0 0), .int 0, .ref (AD 55 0 0), .int 0, .int 0, .int 0, .int 0, .int 0, .int 0, .int (-1), .ref (AD 56 0 0), .ref (AD 57 0 0), .ref (AD 58 0 0), .ref (AD 59 0 0), .ref (AD 60 0 0), .ref (AD 61 0 0), .ref (AD 62 0 0), .int 0, .ref (AD 63 0 0), .int (-1), .int (-1), .int 0, .int 0, .int 0, .ref (AD 64 0 0), .ref (AD 65 0 0), .ref (AD 66 0 0), .ref (AD 67 0 0), .ref (AD 68 0 0), .ref (AD 69 0 0), .ref (AD 70 0 0), .ref (AD 71 0 0), .ref (AD 72 0 0), .ref (AD 73 0 0), .ref (AD 74 0 0), .ref (AD 75 0 0), .ref (AD 76 0 0), .ref (AD 77 0 0), .ref (AD 78 0 0), .ref (AD 79 0 0), .ref (AD 80 0 0), .ref (AD 81 0 0), .ref (AD 82 0 0), .ref (AD 83 0 0), .ref (AD 84 0 0), .ref (AD 85 0 0), .ref (AD 86 0 0), .ref (AD 87 0 0), .ref (AD 88 0 0), .ref (AD 89 0 0), .ref (AD 90 0 0), .ref (AD 91 0 0), .int 0, .int 0, .int 0, .int 0, .int 0, .int 0])) :: ((((((((((((((((((((((((((((((((((((((((([] ++ [(AD 51 0 0, .inl (gC g 0, 201, .inl (fun _ => 0)))]) ++ [(AD 52 0 0, .inl (gC g 0, 603, .inl (fun _ => 0)))]) ++ [(AD 53 0 0, .inl (gC g 1, 3, .inl (fun _ => 0)))]) ++ [(AD 54 0 0, .inl (gC g 2, 1000, .inl (fun _ => 0)))]) ++ [(AD 55 0 0, .inl (gC g 0, 5, .inl (fun _ => 0)))]) ++ [(AD 56 0 0, .inl (gC g 0, 201, .inl (fun _ => 0)))]) ++ [(AD 57 0 0, .inl (gC g 0, 6, .inl (fun _ => 0)))]) ++ [(AD 58 0 0, .inl (gC g 0, 5, .inl (fun _ => 0)))]) ++ [(AD 59 0 0, .inl (gC g 0, 5, .inl (fun _ => 0)))]) ++ [(AD 60 0 0, .inl (gC g 0, 5, .inl (fun _ => 0)))]) ++ [(AD 61 0 0, .inl (gC g 0, 5, .inl (fun _ => 0)))]) ++ [(AD 62 0 0, .inl (gC g 0, 5, .inl (fun _ => 0)))]) ++ [(AD 63 0 0, .inl (gC g 0, 64, .inl (fun _ => 0)))]) ++ [(AD 64 0 0, .inl (gC g 0, 5, .inl (fun _ => 0)))]) ++ [(AD 65 0 0, .inl (gC g 0, 5, .inl (fun _ => 0)))]) ++ [(AD 66 0 0, .inl (gC g 0, 5, .inl (fun _ => 0)))]) ++ [(AD 67 0 0, .inl (gC g 0, 5, .inl (fun _ => 0)))]) ++ [(AD 68 0 0, .inl (gC g 0, 5, .inl (fun _ => 0)))]) ++ [(AD 69 0 0, .inl (gC g 0, 5, .inl (fun _ => 0)))]) ++ [(AD 70 0 0, .inl (gC g 0, 5, .inl (fun _ => 0)))]) ++ [(AD 71 0 0, .inl (gC g 1, 5, .inl (fun _ => 0)))]) ++ [(AD 72 0 0, .inl (gC g 0, 5, .inl (fun _ => 0)))]) ++ [(AD 73 0 0, .inl (gC g 0, 5, .inl (fun _ => 0)))]) ++ [(AD 74 0 0, .inl (gC g 3, 5, .inr (.inr (.inl (fun _ => 0)))))]) ++ [(AD 75 0 0, .inl (gC g 0, 5, .inl (fun _ => 0)))]) ++ [(AD 76 0 0, .inl (gC g 1, 5, .inl (fun _ => 0)))]) ++ [(AD 77 0 0, .inl (gC g 0, 5, .inl (fun _ => 0)))]) ++ [(AD 78 0 0, .inl (gC g 0, 5, .inl (fun _ => 0)))]) ++ [(AD 79 0 0, .inl (gC g 3, 5, .inr (.inr (.inl (fun _ => 0)))))]) ++ [(AD 80 0 0, .inl (gC g 4, 5, .inr (.inr (.inr (.inl (fun _ => 0))))))]) ++ [(AD 81 0 0, .inl (gC g 0, 5, .inl (fun _ => 0)))]) ++ [(AD 82 0 0, .inl (gC g 0, 1000, .inl (fun _ => 0)))]) ++ [(AD 83 0 0, .inl (gC g 0, 255, .inl (fun _ => 0)))]) ++ [(AD 84 0 0, .inl (gC g 1, 19, .inl (fun _ => 0)))]) ++ [(AD 85 0 0, .inl (gC g 1, 3, .inl (fun _ => 0)))]) ++ [(AD 86 0 0, .inl (gC g 1, 3, .inl (fun _ => 0)))]) ++ [(AD 87 0 0, .inl (gC g 0, 200, .inl (fun _ => 0)))]) ++ [(AD 88 0 0, .inl (gC g 0, 4000, .inl (fun _ => 0)))]) ++ [(AD 89 0 0, .inl (gC g 0, 4000, .inl (fun _ => 0)))]) ++ [(AD 90 0 0, .inl (gC g 0, 4000, .inl (fun _ => 0)))]) ++ [(AD 91 0 0, .inl (gC g 0, 4000, .inl (fun _ => 0)))]) := by
  unfold L_X10
  simp only [wsLw_cons, wsLw_app, x10_nil, x10_c50, x10_c51, x10_c52, x10_c53, x10_c54, x10_c55, x10_c56, x10_c57, x10_c58, x10_c59, x10_c60, x10_c61, x10_c62, x10_c63, x10_c64, x10_c65, x10_c66, x10_c67, x10_c68, x10_c69, x10_c70, x10_c71, x10_c72, x10_c73, x10_c74, x10_c75, x10_c76, x10_c77, x10_c78, x10_c79, x10_c80, x10_c81, x10_c82, x10_c83, x10_c84, x10_c85, x10_c86, x10_c87, x10_c88, x10_c89, x10_c90, x10_c91]
set_option maxRecDepth 100000 in
set_option maxHeartbeats 4000000 in
theorem x10_ws (g : Gw) (h0 q1 q2 q3 q4 q5 q6 q7 q8 q9 q10 q11 q12 q13 q14 q15 q16 q17 q18 q19 q20 q21 q22 q23 q24 q25 q26 q27 q28 q29 q30 q31 q32 q33 q34 q35 q36 q37 q38 q39 q40 q41 : Nat) : ∃ AD : Nat → Nat → Nat → Nat, wsLw g L_X10 AD = (h0, .inr (10, [.int 0, .ref q1, .ref q2, .ref q3, .ref q4, .int 0, .ref q5, .int 0, .int 0, .int 0, .int 0, .int 0, .int 0, .int (-1), .ref q6, .ref q7, .ref q8, .ref q9, .ref q10, .ref q11, .ref q12, .int 0, .ref q13, .int (-1), .int (-1), .int 0, .int 0, .int 0, .ref q14, .ref q15, .ref q16, .ref q17, .ref q18, .ref q19, .ref q20, .ref q21, .ref q22, .ref q23, .ref q24, .ref q25, .ref q26, .ref q27, .ref q28, .ref q29, .ref q30, .ref q31, .ref q32, .ref q33, .ref q34, .ref q35, .ref q36, .ref q37, .ref q38, .ref q39, .ref q40, .ref q41, .int 0, .int 0, .int 0, .int 0, .int 0, .int 0])) :: ((((((((((((((((((((((((((((((((((((((((([] ++ [(q1, .inl (gC g 0, 201, .inl (fun _ => 0)))]) ++ [(q2, .inl (gC g 0, 603, .inl (fun _ => 0)))]) ++ [(q3, .inl (gC g 1, 3, .inl (fun _ => 0)))]) ++ [(q4, .inl (gC g 2, 1000, .inl (fun _ => 0)))]) ++ [(q5, .inl (gC g 0, 5, .inl (fun _ => 0)))]) ++ [(q6, .inl (gC g 0, 201, .inl (fun _ => 0)))]) ++ [(q7, .inl (gC g 0, 6, .inl (fun _ => 0)))]) ++ [(q8, .inl (gC g 0, 5, .inl (fun _ => 0)))]) ++ [(q9, .inl (gC g 0, 5, .inl (fun _ => 0)))]) ++ [(q10, .inl (gC g 0, 5, .inl (fun _ => 0)))]) ++ [(q11, .inl (gC g 0, 5, .inl (fun _ => 0)))]) ++ [(q12, .inl (gC g 0, 5, .inl (fun _ => 0)))]) ++ [(q13, .inl (gC g 0, 64, .inl (fun _ => 0)))]) ++ [(q14, .inl (gC g 0, 5, .inl (fun _ => 0)))]) ++ [(q15, .inl (gC g 0, 5, .inl (fun _ => 0)))]) ++ [(q16, .inl (gC g 0, 5, .inl (fun _ => 0)))]) ++ [(q17, .inl (gC g 0, 5, .inl (fun _ => 0)))]) ++ [(q18, .inl (gC g 0, 5, .inl (fun _ => 0)))]) ++ [(q19, .inl (gC g 0, 5, .inl (fun _ => 0)))]) ++ [(q20, .inl (gC g 0, 5, .inl (fun _ => 0)))]) ++ [(q21, .inl (gC g 1, 5, .inl (fun _ => 0)))]) ++ [(q22, .inl (gC g 0, 5, .inl (fun _ => 0)))]) ++ [(q23, .inl (gC g 0, 5, .inl (fun _ => 0)))]) ++ [(q24, .inl (gC g 3, 5, .inr (.inr (.inl (fun _ => 0)))))]) ++ [(q25, .inl (gC g 0, 5, .inl (fun _ => 0)))]) ++ [(q26, .inl (gC g 1, 5, .inl (fun _ => 0)))]) ++ [(q27, .inl (gC g 0, 5, .inl (fun _ => 0)))]) ++ [(q28, .inl (gC g 0, 5, .inl (fun _ => 0)))]) ++ [(q29, .inl (gC g 3, 5, .inr (.inr (.inl (fun _ => 0)))))]) ++ [(q30, .inl (gC g 4, 5, .inr (.inr (.inr (.inl (fun _ => 0))))))]) ++ [(q31, .inl (gC g 0, 5, .inl (fun _ => 0)))]) ++ [(q32, .inl (gC g 0, 1000, .inl (fun _ => 0)))]) ++ [(q33, .inl (gC g 0, 255, .inl (fun _ => 0)))]) ++ [(q34, .inl (gC g 1, 19, .inl (fun _ => 0)))]) ++ [(q35, .inl (gC g 1, 3, .inl (fun _ => 0)))]) ++ [(q36, .inl (gC g 1, 3, .inl (fun _ => 0)))]) ++ [(q37, .inl (gC g 0, 200, .inl (fun _ => 0)))]) ++ [(q38, .inl (gC g 0, 4000, .inl (fun _ => 0)))]) ++ [(q39, .inl (gC g 0, 4000, .inl (fun _ => 0)))]) ++ [(q40, .inl (gC g 0, 4000, .inl (fun _ => 0)))]) ++ [(q41, .inl (gC g 0, 4000, .inl (fun _ => 0)))]) := by
  obtain ⟨AD, a50, a51, a52, a53, a54, a55, a56, a57, a58, a59, a60, a61, a62, a63, a64, a65, a66, a67, a68, a69, a70, a71, a72, a73, a74, a75, a76, a77, a78, a79, a80, a81, a82, a83, a84, a85, a86, a87, a88, a89, a90, a91⟩ : ∃ AD : Nat → Nat → Nat → Nat, AD 50 0 0 = h0 ∧ AD 51 0 0 = q1 ∧ AD 52 0 0 = q2 ∧ AD 53 0 0 = q3 ∧ AD 54 0 0 = q4 ∧ AD 55 0 0 = q5 ∧ AD 56 0 0 = q6 ∧ AD 57 0 0 = q7 ∧ AD 58 0 0 = q8 ∧ AD 59 0 0 = q9 ∧ AD 60 0 0 = q10 ∧ AD 61 0 0 = q11 ∧ AD 62 0 0 = q12 ∧ AD 63 0 0 = q13 ∧ AD 64 0 0 = q14 ∧ AD 65 0 0 = q15 ∧ AD 66 0 0 = q16 ∧ AD 67 0 0 = q17 ∧ AD 68 0 0 = q18 ∧ AD 69 0 0 = q19 ∧ AD 70 0 0 = q20 ∧ AD 71 0 0 = q21 ∧ AD 72 0 0 = q22 ∧ AD 73 0 0 = q23 ∧ AD 74 0 0 = q24 ∧ AD 75 0 0 = q25 ∧ AD 76 0 0 = q26 ∧ AD 77 0 0 = q27 ∧ AD 78 0 0 = q28 ∧ AD 79 0 0 = q29 ∧ AD 80 0 0 = q30 ∧ AD 81 0 0 = q31 ∧ AD 82 0 0 = q32 ∧ AD 83 0 0 = q33 ∧ AD 84 0 0 = q34 ∧ AD 85 0 0 = q35 ∧ AD 86 0 0 = q36 ∧ AD 87 0 0 = q37 ∧ AD 88 0 0 = q38 ∧ AD 89 0 0 = q39 ∧ AD 90 0 0 = q40 ∧ AD 91 0 0 = q41 := ⟨(fun κ _ _ => List.getD [h0, q1, q2, q3, q4, q5, q6, q7, q8, q9, q10, q11, q12, q13, q14, q15, q16, q17, q18, q19, q20, q21, q22, q23, q24, q25, q26, q27, q28, q29, q30, q31, q32, q33, q34, q35, q36, q37, q38, q39, q40, q41] (κ - 50) 0), rfl, rfl, rfl, rfl, rfl, rfl, rfl, rfl, rfl, rfl, rfl, rfl, rfl, rfl, rfl, rfl, rfl, rfl, rfl, rfl, rfl, rfl, rfl, rfl, rfl, rfl, rfl, rfl, rfl, rfl, rfl, rfl, rfl, rfl, rfl, rfl, rfl, rfl, rfl, rfl, rfl, rfl⟩
  refine ⟨AD, ?_⟩
  rw [x10_wsA]
  simp only [a50, a51, a52, a53, a54, a55, a56, a57, a58, a59, a60, a61, a62, a63, a64, a65, a66, a67, a68, a69, a70, a71, a72, a73, a74, a75, a76, a77, a78, a79, a80, a81, a82, a83, a84, a85, a86, a87, a88, a89, a90, a91]
set_option maxRecDepth 100000 in
set_option maxHeartbeats 8000000 in
theorem n_X10_init (g : Gw) (l : Launch) (h0 sz : Nat) : NMet g l yX10_init cX10_init 1 1 41 19678 h0 10 [.int 0, .null, .null, .null, .null, .int 0, .null, .int 0, .int 0, .int 0, .int 0, .int 0, .int 0, .int 0, .null, .null, .null, .null, .null, .null, .null, .int 0, .null, .int 0, .int 0, .int 0, .int 0, .int 0, .null, .null, .null, .null, .null, .null, .null, .null, .null, .null, .null, .null, .null, .null, .null, .null, .null, .null, .null, .null, .null, .null, .null, .null, .null, .null, .null, .null, .int 0, .int 0, .int 0, .int 0, .int 0, .int 0] sz (wsLw g (L_X10)) := by
  refine NMet.of (own := RX10) (by decide +kernel) rfl rfl (by decide) ?_
  intro p e R s m args below meth c A hx hb hml hown hts hK hCN hA hR hlk hr hnm H ls hP hD hS hl
  obtain ⟨fs0, hf0⟩ : ∃ x, x = ([.int 0, .null, .null, .null, .null, .int 0, .null, .int 0, .int 0, .int 0, .int 0, .int 0, .int 0, .int 0, .null, .null, .null, .null, .null, .null, .null, .int 0, .null, .int 0, .int 0, .int 0, .int 0, .int 0, .null, .null, .null, .null, .null, .null, .null, .null, .null, .null, .null, .null, .null, .null, .null, .null, .null, .null, .null, .null, .null, .null, .null, .null, .null, .null, .null, .null, .int 0, .int 0, .int 0, .int 0, .int 0, .int 0] : List Value) := ⟨_, rfl⟩
  rw [← hf0] at hP hD
  have e0 : fs0.length = 62 := by rw [hf0]; rfl
  refine lv_aload_n hx hb dX10_init_0 rfl (lv_at hl 0 rfl) ?_
  refine W.objInit hx hb hown (hts _ u_1105) (hts _ u_151) (hts _ u_152) rfl (by rw [hml]; exact hl.1) rfl dX10_init_1 (by rw [hR]; exact Nat.le_of_ble_eq_true rfl) (by rw [hR]; exact Nat.le_of_ble_eq_true rfl) ?_
  refine W.eq (g2 := F0 m 4 ls []) rfl ?_
  refine x10_1 hx hb hown hts hK hA hR hnm e0 hP hD hS hl (by decide) (by decide) (fun q1 H locs hP2 hD2 hS2 => ?_)
  clear hP hD hS
  have e1 := (List.length_set (as := _) (i := 1) (a := Value.ref q1)).trans e0
  have hP := hP2
  have hD := hD2
  have hS := hS2
  clear hP2 hD2 hS2
  refine W.widen (k := 1) (n := 201) (by decide) (by decide) ?_
  refine x10_2 hx hb hown hts hK hA hR hnm e1 hP hD hS hl (by decide) (by decide) (fun q2 H locs hP2 hD2 hS2 => ?_)
  clear hP hD hS
  have e2 := (List.length_set (as := _) (i := 2) (a := Value.ref q2)).trans e1
  have hP := hP2
  have hD := hD2
  have hS := hS2
  clear hP2 hD2 hS2
  refine W.widen (k := 2) (n := 804) (by decide) (by decide) ?_
  refine x10_3 hx hb hown hts hK hA hR hnm e2 hP hD hS hl (by decide) (by decide) (fun q3 H locs hP2 hD2 hS2 => ?_)
  clear hP hD hS
  have e3 := (List.length_set (as := _) (i := 3) (a := Value.ref q3)).trans e2
  have hP := hP2
  have hD := hD2
  have hS := hS2
  clear hP2 hD2 hS2
  refine W.widen (k := 3) (n := 807) (by decide) (by decide) ?_
  refine x10_4 hx hb hown hts hK hA hR hnm e3 hP hD hS hl (by decide) (by decide) (fun q4 H locs hP2 hD2 hS2 => ?_)
  clear hP hD hS
  have e4 := (List.length_set (as := _) (i := 4) (a := Value.ref q4)).trans e3
  have hP := hP2
  have hD := hD2
  have hS := hS2
  clear hP2 hD2 hS2
  refine W.widen (k := 4) (n := 1807) (by decide) (by decide) ?_
  refine x10_5 hx hb hown hts hK hA hR hnm e4 hP hD hS hl (by decide) (by decide) (fun q5 H locs hP2 hD2 hS2 => ?_)
  clear hP hD hS
  have e5 := (List.length_set (as := _) (i := 6) (a := Value.ref q5)).trans e4
  have hP := hP2
  have hD := hD2
  have hS := hS2
  clear hP2 hD2 hS2
  refine W.widen (k := 5) (n := 1812) (by decide) (by decide) ?_
  refine x10_6 hx hb hown hts hK hA hR hnm e5 hP hD hS hl (fun H locs hP2 hD2 hS2 => ?_)
  clear hP hD hS
  have e6 := (List.length_set (as := _) (i := 13) (a := Value.int (-1))).trans e5
  have hP := hP2
  have hD := hD2
  have hS := hS2
  clear hP2 hD2 hS2
  refine x10_7 hx hb hown hts hK hA hR hnm e6 hP hD hS hl (by decide) (by decide) (fun q6 H locs hP2 hD2 hS2 => ?_)
  clear hP hD hS
  have e7 := (List.length_set (as := _) (i := 14) (a := Value.ref q6)).trans e6
  have hP := hP2
  have hD := hD2
  have hS := hS2
  clear hP2 hD2 hS2
  refine W.widen (k := 6) (n := 2013) (by decide) (by decide) ?_
  refine x10_8 hx hb hown hts hK hA hR hnm e7 hP hD hS hl (by decide) (by decide) (fun q7 H locs hP2 hD2 hS2 => ?_)
  clear hP hD hS
  have e8 := (List.length_set (as := _) (i := 15) (a := Value.ref q7)).trans e7
  have hP := hP2
  have hD := hD2
  have hS := hS2
  clear hP2 hD2 hS2
  refine W.widen (k := 7) (n := 2019) (by decide) (by decide) ?_
  refine x10_9 hx hb hown hts hK hA hR hnm e8 hP hD hS hl (by decide) (by decide) (fun q8 H locs hP2 hD2 hS2 => ?_)
  clear hP hD hS
  have e9 := (List.length_set (as := _) (i := 16) (a := Value.ref q8)).trans e8
  have hP := hP2
  have hD := hD2
  have hS := hS2
  clear hP2 hD2 hS2
  refine W.widen (k := 8) (n := 2024) (by decide) (by decide) ?_
  refine x10_10 hx hb hown hts hK hA hR hnm e9 hP hD hS hl (by decide) (by decide) (fun q9 H locs hP2 hD2 hS2 => ?_)
  clear hP hD hS
  have e10 := (List.length_set (as := _) (i := 17) (a := Value.ref q9)).trans e9
  have hP := hP2
  have hD := hD2
  have hS := hS2
  clear hP2 hD2 hS2
  refine W.widen (k := 9) (n := 2029) (by decide) (by decide) ?_
  refine x10_11 hx hb hown hts hK hA hR hnm e10 hP hD hS hl (by decide) (by decide) (fun q10 H locs hP2 hD2 hS2 => ?_)
  clear hP hD hS
  have e11 := (List.length_set (as := _) (i := 18) (a := Value.ref q10)).trans e10
  have hP := hP2
  have hD := hD2
  have hS := hS2
  clear hP2 hD2 hS2
  refine W.widen (k := 10) (n := 2034) (by decide) (by decide) ?_
  refine x10_12 hx hb hown hts hK hA hR hnm e11 hP hD hS hl (by decide) (by decide) (fun q11 H locs hP2 hD2 hS2 => ?_)
  clear hP hD hS
  have e12 := (List.length_set (as := _) (i := 19) (a := Value.ref q11)).trans e11
  have hP := hP2
  have hD := hD2
  have hS := hS2
  clear hP2 hD2 hS2
  refine W.widen (k := 11) (n := 2039) (by decide) (by decide) ?_
  refine x10_13 hx hb hown hts hK hA hR hnm e12 hP hD hS hl (by decide) (by decide) (fun q12 H locs hP2 hD2 hS2 => ?_)
  clear hP hD hS
  have e13 := (List.length_set (as := _) (i := 20) (a := Value.ref q12)).trans e12
  have hP := hP2
  have hD := hD2
  have hS := hS2
  clear hP2 hD2 hS2
  refine W.widen (k := 12) (n := 2044) (by decide) (by decide) ?_
  refine x10_14 hx hb hown hts hK hA hR hnm e13 hP hD hS hl (by decide) (by decide) (fun q13 H locs hP2 hD2 hS2 => ?_)
  clear hP hD hS
  have e14 := (List.length_set (as := _) (i := 22) (a := Value.ref q13)).trans e13
  have hP := hP2
  have hD := hD2
  have hS := hS2
  clear hP2 hD2 hS2
  refine W.widen (k := 13) (n := 2108) (by decide) (by decide) ?_
  refine x10_15 hx hb hown hts hK hA hR hnm e14 hP hD hS hl (fun H locs hP2 hD2 hS2 => ?_)
  clear hP hD hS
  have e15 := (List.length_set (as := _) (i := 23) (a := Value.int (-1))).trans e14
  have hP := hP2
  have hD := hD2
  have hS := hS2
  clear hP2 hD2 hS2
  refine x10_16 hx hb hown hts hK hA hR hnm e15 hP hD hS hl (fun H locs hP2 hD2 hS2 => ?_)
  clear hP hD hS
  have e16 := (List.length_set (as := _) (i := 24) (a := Value.int (-1))).trans e15
  have hP := hP2
  have hD := hD2
  have hS := hS2
  clear hP2 hD2 hS2
  refine x10_17 hx hb hown hts hK hA hR hnm e16 hP hD hS hl (by decide) (by decide) (fun q14 H locs hP2 hD2 hS2 => ?_)
  clear hP hD hS
  have e17 := (List.length_set (as := _) (i := 28) (a := Value.ref q14)).trans e16
  have hP := hP2
  have hD := hD2
  have hS := hS2
  clear hP2 hD2 hS2
  refine W.widen (k := 14) (n := 2113) (by decide) (by decide) ?_
  refine x10_18 hx hb hown hts hK hA hR hnm e17 hP hD hS hl (by decide) (by decide) (fun q15 H locs hP2 hD2 hS2 => ?_)
  clear hP hD hS
  have e18 := (List.length_set (as := _) (i := 29) (a := Value.ref q15)).trans e17
  have hP := hP2
  have hD := hD2
  have hS := hS2
  clear hP2 hD2 hS2
  refine W.widen (k := 15) (n := 2118) (by decide) (by decide) ?_
  refine x10_19 hx hb hown hts hK hA hR hnm e18 hP hD hS hl (by decide) (by decide) (fun q16 H locs hP2 hD2 hS2 => ?_)
  clear hP hD hS
  have e19 := (List.length_set (as := _) (i := 30) (a := Value.ref q16)).trans e18
  have hP := hP2
  have hD := hD2
  have hS := hS2
  clear hP2 hD2 hS2
  refine W.widen (k := 16) (n := 2123) (by decide) (by decide) ?_
  refine x10_20 hx hb hown hts hK hA hR hnm e19 hP hD hS hl (by decide) (by decide) (fun q17 H locs hP2 hD2 hS2 => ?_)
  clear hP hD hS
  have e20 := (List.length_set (as := _) (i := 31) (a := Value.ref q17)).trans e19
  have hP := hP2
  have hD := hD2
  have hS := hS2
  clear hP2 hD2 hS2
  refine W.widen (k := 17) (n := 2128) (by decide) (by decide) ?_
  refine x10_21 hx hb hown hts hK hA hR hnm e20 hP hD hS hl (by decide) (by decide) (fun q18 H locs hP2 hD2 hS2 => ?_)
  clear hP hD hS
  have e21 := (List.length_set (as := _) (i := 32) (a := Value.ref q18)).trans e20
  have hP := hP2
  have hD := hD2
  have hS := hS2
  clear hP2 hD2 hS2
  refine W.widen (k := 18) (n := 2133) (by decide) (by decide) ?_
  refine x10_22 hx hb hown hts hK hA hR hnm e21 hP hD hS hl (by decide) (by decide) (fun q19 H locs hP2 hD2 hS2 => ?_)
  clear hP hD hS
  have e22 := (List.length_set (as := _) (i := 33) (a := Value.ref q19)).trans e21
  have hP := hP2
  have hD := hD2
  have hS := hS2
  clear hP2 hD2 hS2
  refine W.widen (k := 19) (n := 2138) (by decide) (by decide) ?_
  refine x10_23 hx hb hown hts hK hA hR hnm e22 hP hD hS hl (by decide) (by decide) (fun q20 H locs hP2 hD2 hS2 => ?_)
  clear hP hD hS
  have e23 := (List.length_set (as := _) (i := 34) (a := Value.ref q20)).trans e22
  have hP := hP2
  have hD := hD2
  have hS := hS2
  clear hP2 hD2 hS2
  refine W.widen (k := 20) (n := 2143) (by decide) (by decide) ?_
  refine x10_24 hx hb hown hts hK hA hR hnm e23 hP hD hS hl (by decide) (by decide) (fun q21 H locs hP2 hD2 hS2 => ?_)
  clear hP hD hS
  have e24 := (List.length_set (as := _) (i := 35) (a := Value.ref q21)).trans e23
  have hP := hP2
  have hD := hD2
  have hS := hS2
  clear hP2 hD2 hS2
  refine W.widen (k := 21) (n := 2148) (by decide) (by decide) ?_
  refine x10_25 hx hb hown hts hK hA hR hnm e24 hP hD hS hl (by decide) (by decide) (fun q22 H locs hP2 hD2 hS2 => ?_)
  clear hP hD hS
  have e25 := (List.length_set (as := _) (i := 36) (a := Value.ref q22)).trans e24
  have hP := hP2
  have hD := hD2
  have hS := hS2
  clear hP2 hD2 hS2
  refine W.widen (k := 22) (n := 2153) (by decide) (by decide) ?_
  refine x10_26 hx hb hown hts hK hA hR hnm e25 hP hD hS hl (by decide) (by decide) (fun q23 H locs hP2 hD2 hS2 => ?_)
  clear hP hD hS
  have e26 := (List.length_set (as := _) (i := 37) (a := Value.ref q23)).trans e25
  have hP := hP2
  have hD := hD2
  have hS := hS2
  clear hP2 hD2 hS2
  refine W.widen (k := 23) (n := 2158) (by decide) (by decide) ?_
  refine x10_27 hx hb hown hts hK hA hR hnm e26 hP hD hS hl (by decide) (by decide) (fun q24 H locs hP2 hD2 hS2 => ?_)
  clear hP hD hS
  have e27 := (List.length_set (as := _) (i := 38) (a := Value.ref q24)).trans e26
  have hP := hP2
  have hD := hD2
  have hS := hS2
  clear hP2 hD2 hS2
  refine W.widen (k := 24) (n := 2163) (by decide) (by decide) ?_
  refine x10_28 hx hb hown hts hK hA hR hnm e27 hP hD hS hl (by decide) (by decide) (fun q25 H locs hP2 hD2 hS2 => ?_)
  clear hP hD hS
  have e28 := (List.length_set (as := _) (i := 39) (a := Value.ref q25)).trans e27
  have hP := hP2
  have hD := hD2
  have hS := hS2
  clear hP2 hD2 hS2
  refine W.widen (k := 25) (n := 2168) (by decide) (by decide) ?_
  refine x10_29 hx hb hown hts hK hA hR hnm e28 hP hD hS hl (by decide) (by decide) (fun q26 H locs hP2 hD2 hS2 => ?_)
  clear hP hD hS
  have e29 := (List.length_set (as := _) (i := 40) (a := Value.ref q26)).trans e28
  have hP := hP2
  have hD := hD2
  have hS := hS2
  clear hP2 hD2 hS2
  refine W.widen (k := 26) (n := 2173) (by decide) (by decide) ?_
  refine x10_30 hx hb hown hts hK hA hR hnm e29 hP hD hS hl (by decide) (by decide) (fun q27 H locs hP2 hD2 hS2 => ?_)
  clear hP hD hS
  have e30 := (List.length_set (as := _) (i := 41) (a := Value.ref q27)).trans e29
  have hP := hP2
  have hD := hD2
  have hS := hS2
  clear hP2 hD2 hS2
  refine W.widen (k := 27) (n := 2178) (by decide) (by decide) ?_
  refine x10_31 hx hb hown hts hK hA hR hnm e30 hP hD hS hl (by decide) (by decide) (fun q28 H locs hP2 hD2 hS2 => ?_)
  clear hP hD hS
  have e31 := (List.length_set (as := _) (i := 42) (a := Value.ref q28)).trans e30
  have hP := hP2
  have hD := hD2
  have hS := hS2
  clear hP2 hD2 hS2
  refine W.widen (k := 28) (n := 2183) (by decide) (by decide) ?_
  refine x10_32 hx hb hown hts hK hA hR hnm e31 hP hD hS hl (by decide) (by decide) (fun q29 H locs hP2 hD2 hS2 => ?_)
  clear hP hD hS
  have e32 := (List.length_set (as := _) (i := 43) (a := Value.ref q29)).trans e31
  have hP := hP2
  have hD := hD2
  have hS := hS2
  clear hP2 hD2 hS2
  refine W.widen (k := 29) (n := 2188) (by decide) (by decide) ?_
  refine x10_33 hx hb hown hts hK hA hR hnm e32 hP hD hS hl (by decide) (by decide) (fun q30 H locs hP2 hD2 hS2 => ?_)
  clear hP hD hS
  have e33 := (List.length_set (as := _) (i := 44) (a := Value.ref q30)).trans e32
  have hP := hP2
  have hD := hD2
  have hS := hS2
  clear hP2 hD2 hS2
  refine W.widen (k := 30) (n := 2193) (by decide) (by decide) ?_
  refine x10_34 hx hb hown hts hK hA hR hnm e33 hP hD hS hl (by decide) (by decide) (fun q31 H locs hP2 hD2 hS2 => ?_)
  clear hP hD hS
  have e34 := (List.length_set (as := _) (i := 45) (a := Value.ref q31)).trans e33
  have hP := hP2
  have hD := hD2
  have hS := hS2
  clear hP2 hD2 hS2
  refine W.widen (k := 31) (n := 2198) (by decide) (by decide) ?_
  refine x10_35 hx hb hown hts hK hA hR hnm e34 hP hD hS hl (by decide) (by decide) (fun q32 H locs hP2 hD2 hS2 => ?_)
  clear hP hD hS
  have e35 := (List.length_set (as := _) (i := 46) (a := Value.ref q32)).trans e34
  have hP := hP2
  have hD := hD2
  have hS := hS2
  clear hP2 hD2 hS2
  refine W.widen (k := 32) (n := 3198) (by decide) (by decide) ?_
  refine x10_36 hx hb hown hts hK hA hR hnm e35 hP hD hS hl (by decide) (by decide) (fun q33 H locs hP2 hD2 hS2 => ?_)
  clear hP hD hS
  have e36 := (List.length_set (as := _) (i := 47) (a := Value.ref q33)).trans e35
  have hP := hP2
  have hD := hD2
  have hS := hS2
  clear hP2 hD2 hS2
  refine W.widen (k := 33) (n := 3453) (by decide) (by decide) ?_
  refine x10_37 hx hb hown hts hK hA hR hnm e36 hP hD hS hl (by decide) (by decide) (fun q34 H locs hP2 hD2 hS2 => ?_)
  clear hP hD hS
  have e37 := (List.length_set (as := _) (i := 48) (a := Value.ref q34)).trans e36
  have hP := hP2
  have hD := hD2
  have hS := hS2
  clear hP2 hD2 hS2
  refine W.widen (k := 34) (n := 3472) (by decide) (by decide) ?_
  refine x10_38 hx hb hown hts hK hA hR hnm e37 hP hD hS hl (by decide) (by decide) (fun q35 H locs hP2 hD2 hS2 => ?_)
  clear hP hD hS
  have e38 := (List.length_set (as := _) (i := 49) (a := Value.ref q35)).trans e37
  have hP := hP2
  have hD := hD2
  have hS := hS2
  clear hP2 hD2 hS2
  refine W.widen (k := 35) (n := 3475) (by decide) (by decide) ?_
  refine x10_39 hx hb hown hts hK hA hR hnm e38 hP hD hS hl (by decide) (by decide) (fun q36 H locs hP2 hD2 hS2 => ?_)
  clear hP hD hS
  have e39 := (List.length_set (as := _) (i := 50) (a := Value.ref q36)).trans e38
  have hP := hP2
  have hD := hD2
  have hS := hS2
  clear hP2 hD2 hS2
  refine W.widen (k := 36) (n := 3478) (by decide) (by decide) ?_
  refine x10_40 hx hb hown hts hK hA hR hnm e39 hP hD hS hl (by decide) (by decide) (fun q37 H locs hP2 hD2 hS2 => ?_)
  clear hP hD hS
  have e40 := (List.length_set (as := _) (i := 51) (a := Value.ref q37)).trans e39
  have hP := hP2
  have hD := hD2
  have hS := hS2
  clear hP2 hD2 hS2
  refine W.widen (k := 37) (n := 3678) (by decide) (by decide) ?_
  refine x10_41 hx hb hown hts hK hA hR hnm e40 hP hD hS hl (by decide) (by decide) (fun q38 H locs hP2 hD2 hS2 => ?_)
  clear hP hD hS
  have e41 := (List.length_set (as := _) (i := 52) (a := Value.ref q38)).trans e40
  have hP := hP2
  have hD := hD2
  have hS := hS2
  clear hP2 hD2 hS2
  refine W.widen (k := 38) (n := 7678) (by decide) (by decide) ?_
  refine x10_42 hx hb hown hts hK hA hR hnm e41 hP hD hS hl (by decide) (by decide) (fun q39 H locs hP2 hD2 hS2 => ?_)
  clear hP hD hS
  have e42 := (List.length_set (as := _) (i := 53) (a := Value.ref q39)).trans e41
  have hP := hP2
  have hD := hD2
  have hS := hS2
  clear hP2 hD2 hS2
  refine W.widen (k := 39) (n := 11678) (by decide) (by decide) ?_
  refine x10_43 hx hb hown hts hK hA hR hnm e42 hP hD hS hl (by decide) (by decide) (fun q40 H locs hP2 hD2 hS2 => ?_)
  clear hP hD hS
  have e43 := (List.length_set (as := _) (i := 54) (a := Value.ref q40)).trans e42
  have hP := hP2
  have hD := hD2
  have hS := hS2
  clear hP2 hD2 hS2
  refine W.widen (k := 40) (n := 15678) (by decide) (by decide) ?_
  refine x10_44 hx hb hown hts hK hA hR hnm e43 hP hD hS hl (by decide) (by decide) (fun q41 H locs hP2 hD2 hS2 => ?_)
  clear hP hD hS
  have e44 := (List.length_set (as := _) (i := 55) (a := Value.ref q41)).trans e43
  have hP := hP2
  have hD := hD2
  have hS := hS2
  clear hP2 hD2 hS2
  refine W.widen (k := 41) (n := 19678) (by decide) (by decide) ?_
  obtain ⟨AD, hAD⟩ := x10_ws g h0 q1 q2 q3 q4 q5 q6 q7 q8 q9 q10 q11 q12 q13 q14 q15 q16 q17 q18 q19 q20 q21 q22 q23 q24 q25 q26 q27 q28 q29 q30 q31 q32 q33 q34 q35 q36 q37 q38 q39 q40 q41
  have hP2 : va_P (gD g) vwCl (wsLw g L_X10 AD) H := by
    rw [hAD, ← x10_fs q1 q2 q3 q4 q5 q6 q7 q8 q9 q10 q11 q12 q13 q14 q15 q16 q17 q18 q19 q20 q21 q22 q23 q24 q25 q26 q27 q28 q29 q30 q31 q32 q33 q34 q35 q36 q37 q38 q39 q40 q41, ← hf0]
    exact hP
  have hD2 : va_D A (wsLw g L_X10 AD) := by
    rw [hAD, ← x10_fs q1 q2 q3 q4 q5 q6 q7 q8 q9 q10 q11 q12 q13 q14 q15 q16 q17 q18 q19 q20 q21 q22 q23 q24 q25 q26 q27 q28 q29 q30 q31 q32 q33 q34 q35 q36 q37 q38 q39 q40 q41, ← hf0]
    exact hD
  exact W.vret hx hb hr (fun t ht hW => ⟨rfl, ⟨AD, by rw [ht]; exact hP2, hD2, by rw [hAD]; rfl⟩, hS.F ht⟩) hS.2.2 dX10_init_331 hlk
