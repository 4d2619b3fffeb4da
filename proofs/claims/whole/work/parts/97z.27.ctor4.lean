theorem cw_0 {g : Gw} {ad ad' : Nat → Nat → Nat → Nat} {b i : Nat} {r : Nat → Int32} {f : Nat → UInt32} {d : Nat → UInt64} (h0 : ad 1 b 0 = ad' 1 b 0) (h1 : ad 2 b 0 = ad' 2 b 0) (h2 : ad 3 b 0 = ad' 3 b 0) (h3 : ad 5 b 0 = ad' 5 b 0) (h4 : ad 7 b 0 = ad' 7 b 0) (h5 : ad 9 b 0 = ad' 9 b 0) (h6 : ad 11 b 0 = ad' 11 b 0) : contW (gLw g ad) 0 b i r f d = contW (gLw g ad') 0 b i r f d := by
  rw [contW_0, contW_0]
  simp only [gLw, gA, gC, gK, gV, h0, h1, h2, h3, h4, h5, h6]
theorem cw_3 {g : Gw} {ad ad' : Nat → Nat → Nat → Nat} {b i : Nat} {r : Nat → Int32} {f : Nat → UInt32} {d : Nat → UInt64} (h : ∀ j, ad 4 b j = ad' 4 b j) : contW (gLw g ad) 3 b i r f d = contW (gLw g ad') 3 b i r f d := by
  rw [contW_3, contW_3]
  simp only [gLw, gA, gC, gK, gV, h]
theorem cw_5 {g : Gw} {ad ad' : Nat → Nat → Nat → Nat} {b i : Nat} {r : Nat → Int32} {f : Nat → UInt32} {d : Nat → UInt64} (h : ∀ j, ad 6 b j = ad' 6 b j) : contW (gLw g ad) 5 b i r f d = contW (gLw g ad') 5 b i r f d := by
  rw [contW_5, contW_5]
  simp only [gLw, gA, gC, gK, gV, h]
theorem cw_7 {g : Gw} {ad ad' : Nat → Nat → Nat → Nat} {b i : Nat} {r : Nat → Int32} {f : Nat → UInt32} {d : Nat → UInt64} (h : ∀ j, ad 8 b j = ad' 8 b j) : contW (gLw g ad) 7 b i r f d = contW (gLw g ad') 7 b i r f d := by
  rw [contW_7, contW_7]
  simp only [gLw, gA, gC, gK, gV, h]
theorem cw_9 {g : Gw} {ad ad' : Nat → Nat → Nat → Nat} {b i : Nat} {r : Nat → Int32} {f : Nat → UInt32} {d : Nat → UInt64} (h : ∀ j, ad 10 b j = ad' 10 b j) : contW (gLw g ad) 9 b i r f d = contW (gLw g ad') 9 b i r f d := by
  rw [contW_9, contW_9]
  simp only [gLw, gA, gC, gK, gV, h]
theorem cw_11 {g : Gw} {ad ad' : Nat → Nat → Nat → Nat} {b i : Nat} {r : Nat → Int32} {f : Nat → UInt32} {d : Nat → UInt64} (h : ∀ j, ad 12 b j = ad' 12 b j) : contW (gLw g ad) 11 b i r f d = contW (gLw g ad') 11 b i r f d := by
  rw [contW_11, contW_11]
  simp only [gLw, gA, gC, gK, gV, h]
theorem cw_13 {g : Gw} {ad ad' : Nat → Nat → Nat → Nat} {b i : Nat} {r : Nat → Int32} {f : Nat → UInt32} {d : Nat → UInt64} (h0 : ad 15 0 0 = ad' 15 0 0) (h1 : ad 0 0 0 = ad' 0 0 0) (h2 : ad 14 0 0 = ad' 14 0 0) : contW (gLw g ad) 13 b i r f d = contW (gLw g ad') 13 b i r f d := by
  rw [contW_13, contW_13]
  simp only [gLw, gA, gC, gK, gV, h0, h1, h2]
theorem cw_15 {g : Gw} {ad ad' : Nat → Nat → Nat → Nat} {b i : Nat} {r : Nat → Int32} {f : Nat → UInt32} {d : Nat → UInt64} (h0 : ad 16 0 0 = ad' 16 0 0) : contW (gLw g ad) 15 b i r f d = contW (gLw g ad') 15 b i r f d := by
  rw [contW_15, contW_15]
  simp only [gLw, gA, gC, gK, gV, h0]
theorem cw_17 {g : Gw} {ad ad' : Nat → Nat → Nat → Nat} {b i : Nat} {r : Nat → Int32} {f : Nat → UInt32} {d : Nat → UInt64} (h0 : ad 18 0 0 = ad' 18 0 0) (h1 : ad 20 0 0 = ad' 20 0 0) : contW (gLw g ad) 17 b i r f d = contW (gLw g ad') 17 b i r f d := by
  rw [contW_17, contW_17]
  simp only [gLw, gA, gC, gK, gV, h0, h1]
theorem cw_18 {g : Gw} {ad ad' : Nat → Nat → Nat → Nat} {b i : Nat} {r : Nat → Int32} {f : Nat → UInt32} {d : Nat → UInt64} (h : ∀ j, ad 19 b j = ad' 19 b j) : contW (gLw g ad) 18 b i r f d = contW (gLw g ad') 18 b i r f d := by
  rw [contW_18, contW_18]
  simp only [gLw, gA, gC, gK, gV, h]
theorem cw_21 {g : Gw} {ad ad' : Nat → Nat → Nat → Nat} {b i : Nat} {r : Nat → Int32} {f : Nat → UInt32} {d : Nat → UInt64} (h0 : ad 22 0 0 = ad' 22 0 0) : contW (gLw g ad) 21 b i r f d = contW (gLw g ad') 21 b i r f d := by
  rw [contW_21, contW_21]
  simp only [gLw, gA, gC, gK, gV, h0]
theorem cw_23 {g : Gw} {ad ad' : Nat → Nat → Nat → Nat} {b i : Nat} {r : Nat → Int32} {f : Nat → UInt32} {d : Nat → UInt64} (h0 : ad 0 (b + 5) 0 = ad' 0 (b + 5) 0) (h1 : ad 24 b 0 = ad' 24 b 0) (h2 : ad 26 b 0 = ad' 26 b 0) (h3 : ad 29 b 0 = ad' 29 b 0) (h4 : ad 31 b 0 = ad' 31 b 0) (h5 : ad 32 b 0 = ad' 32 b 0) (h6 : ad 33 b 0 = ad' 33 b 0) (h7 : ad 34 b 0 = ad' 34 b 0) (h8 : ad 35 b 0 = ad' 35 b 0) : contW (gLw g ad) 23 b i r f d = contW (gLw g ad') 23 b i r f d := by
  rw [contW_23, contW_23]
  simp only [gLw, gA, gC, gK, gV, h0, h1, h2, h3, h4, h5, h6, h7, h8]
theorem cw_24 {g : Gw} {ad ad' : Nat → Nat → Nat → Nat} {b i : Nat} {r : Nat → Int32} {f : Nat → UInt32} {d : Nat → UInt64} (h : ∀ j, ad 25 b j = ad' 25 b j) : contW (gLw g ad) 24 b i r f d = contW (gLw g ad') 24 b i r f d := by
  rw [contW_24, contW_24]
  simp only [gLw, gA, gC, gK, gV, h]
theorem cw_26 {g : Gw} {ad ad' : Nat → Nat → Nat → Nat} {b i : Nat} {r : Nat → Int32} {f : Nat → UInt32} {d : Nat → UInt64} (h0 : ad 27 b 0 = ad' 27 b 0) : contW (gLw g ad) 26 b i r f d = contW (gLw g ad') 26 b i r f d := by
  rw [contW_26, contW_26]
  simp only [gLw, gA, gC, gK, gV, h0]
theorem cw_27 {g : Gw} {ad ad' : Nat → Nat → Nat → Nat} {b i : Nat} {r : Nat → Int32} {f : Nat → UInt32} {d : Nat → UInt64} (h : ∀ j, ad 28 b j = ad' 28 b j) : contW (gLw g ad) 27 b i r f d = contW (gLw g ad') 27 b i r f d := by
  rw [contW_27, contW_27]
  simp only [gLw, gA, gC, gK, gV, h]
theorem cw_29 {g : Gw} {ad ad' : Nat → Nat → Nat → Nat} {b i : Nat} {r : Nat → Int32} {f : Nat → UInt32} {d : Nat → UInt64} (h : ∀ j, ad 30 b j = ad' 30 b j) : contW (gLw g ad) 29 b i r f d = contW (gLw g ad') 29 b i r f d := by
  rw [contW_29, contW_29]
  simp only [gLw, gA, gC, gK, gV, h]
theorem cw_36 {g : Gw} {ad ad' : Nat → Nat → Nat → Nat} {b i : Nat} {r : Nat → Int32} {f : Nat → UInt32} {d : Nat → UInt64} (h0 : ad 37 0 0 = ad' 37 0 0) (h1 : ad 39 0 0 = ad' 39 0 0) (h2 : ad 23 2 0 = ad' 23 2 0) : contW (gLw g ad) 36 b i r f d = contW (gLw g ad') 36 b i r f d := by
  rw [contW_36, contW_36]
  simp only [gLw, gA, gC, gK, gV, h0, h1, h2]
theorem cw_37 {g : Gw} {ad ad' : Nat → Nat → Nat → Nat} {b i : Nat} {r : Nat → Int32} {f : Nat → UInt32} {d : Nat → UInt64} (h : ∀ j, ad 38 b j = ad' 38 b j) : contW (gLw g ad) 37 b i r f d = contW (gLw g ad') 37 b i r f d := by
  rw [contW_37, contW_37]
  simp only [gLw, gA, gC, gK, gV, h]
theorem cw_39 {g : Gw} {ad ad' : Nat → Nat → Nat → Nat} {b i : Nat} {r : Nat → Int32} {f : Nat → UInt32} {d : Nat → UInt64} (h : ∀ j, ad 40 b j = ad' 40 b j) : contW (gLw g ad) 39 b i r f d = contW (gLw g ad') 39 b i r f d := by
  rw [contW_39, contW_39]
  simp only [gLw, gA, gC, gK, gV, h]
theorem cw_41 {g : Gw} {ad ad' : Nat → Nat → Nat → Nat} {b i : Nat} {r : Nat → Int32} {f : Nat → UInt32} {d : Nat → UInt64} (h0 : ad 13 0 0 = ad' 13 0 0) (h1 : ad 0 1 0 = ad' 0 1 0) (h2 : ad 42 0 0 = ad' 42 0 0) (h3 : ad 43 0 0 = ad' 43 0 0) (h4 : ad 17 0 0 = ad' 17 0 0) (h5 : ad 21 0 0 = ad' 21 0 0) (h6 : ad 23 0 0 = ad' 23 0 0) (h7 : ad 23 1 0 = ad' 23 1 0) (h8 : ad 36 0 0 = ad' 36 0 0) : contW (gLw g ad) 41 b i r f d = contW (gLw g ad') 41 b i r f d := by
  rw [contW_41, contW_41]
  simp only [gLw, gA, gC, gK, gV, h0, h1, h2, h3, h4, h5, h6, h7, h8]
theorem cw_42 {g : Gw} {ad ad' : Nat → Nat → Nat → Nat} {b i : Nat} {r : Nat → Int32} {f : Nat → UInt32} {d : Nat → UInt64} (h : ∀ j, ad 0 (j + 2) 0 = ad' 0 (j + 2) 0) : contW (gLw g ad) 42 b i r f d = contW (gLw g ad') 42 b i r f d := by
  rw [contW_42, contW_42]
  simp only [gLw, gA, gC, gK, gV, h]
theorem wsLw_congr {g : Gw} {L : List (Nat × Nat × Nat)} {ad ad' : Nat → Nat → Nat → Nat} (h : ∀ t ∈ L, ad t.1 t.2.1 t.2.2 = ad' t.1 t.2.1 t.2.2 ∧ cellW (gLw g ad) M0w t.1 t.2.1 t.2.2 = cellW (gLw g ad') M0w t.1 t.2.1 t.2.2) : wsLw g L ad = wsLw g L ad' := by
  unfold wsLw
  apply List.map_congr_left
  intro t ht
  rw [(h t ht).1, (h t ht).2]
theorem wsLw_rg {g : Gw} {κ b n : Nat} {ad ad' : Nat → Nat → Nat → Nat} (h : ∀ i, ad κ b i = ad' κ b i) (hc : ∀ i, cellW (gLw g ad) M0w κ b i = cellW (gLw g ad') M0w κ b i) : wsLw g ((List.range n).map (fun i => (κ, b, i))) ad = wsLw g ((List.range n).map (fun i => (κ, b, i))) ad' := by
  apply wsLw_congr
  intro t ht
  obtain ⟨i, -, rfl⟩ := List.mem_map.mp ht
  exact ⟨h i, hc i⟩
theorem wsLw_nil (g : Gw) (ad : Nat → Nat → Nat → Nat) : wsLw g [] ad = [] := rfl
theorem cg_X6 {g : Gw} {ad ad' : Nat → Nat → Nat → Nat} (h : ∀ κ i, 15 ≤ κ → κ ≤ 16 → ad κ 0 i = ad' κ 0 i) : wsLw g (L_X6) ad = wsLw g (L_X6) ad' := by
  have h15 := fun i => h 15 i (by decide) (by decide)
  have h16 := fun i => h 16 i (by decide) (by decide)
  unfold L_X6
  simp only [wsLw_cons, wsLw_app, List.append_eq, wsLw_nil]
  have c15 : cellW (gLw g ad) M0w 15 0 0 = cellW (gLw g ad') M0w 15 0 0 := cw_15 (h16 0)
  have c16 : cellW (gLw g ad) M0w 16 0 0 = cellW (gLw g ad') M0w 16 0 0 := rfl
  rw [h15 0, c15, h16 0, c16]
theorem cg_X2 {g : Gw} {ad ad' : Nat → Nat → Nat → Nat} (h : ∀ κ i, 17 ≤ κ → κ ≤ 20 → ad κ 0 i = ad' κ 0 i) : wsLw g (L_X2) ad = wsLw g (L_X2) ad' := by
  have h17 := fun i => h 17 i (by decide) (by decide)
  have h18 := fun i => h 18 i (by decide) (by decide)
  have h19 := fun i => h 19 i (by decide) (by decide)
  have h20 := fun i => h 20 i (by decide) (by decide)
  unfold L_X2
  simp only [wsLw_cons, wsLw_app, List.append_eq, wsLw_nil]
  have c17 : cellW (gLw g ad) M0w 17 0 0 = cellW (gLw g ad') M0w 17 0 0 := cw_17 (h18 0) (h20 0)
  have c18 : cellW (gLw g ad) M0w 18 0 0 = cellW (gLw g ad') M0w 18 0 0 := cw_18 h19
  have r19 : wsLw g ((List.range 6).map (fun i => (19, 0, i))) ad = wsLw g ((List.range 6).map (fun i => (19, 0, i))) ad' := wsLw_rg h19 (fun i => rfl)
  have c20 : cellW (gLw g ad) M0w 20 0 0 = cellW (gLw g ad') M0w 20 0 0 := rfl
  rw [h17 0, c17, h18 0, c18, r19, h20 0, c20]
theorem cg_X3 {g : Gw} {ad ad' : Nat → Nat → Nat → Nat} (h : ∀ κ i, 21 ≤ κ → κ ≤ 22 → ad κ 0 i = ad' κ 0 i) : wsLw g (L_X3) ad = wsLw g (L_X3) ad' := by
  have h21 := fun i => h 21 i (by decide) (by decide)
  have h22 := fun i => h 22 i (by decide) (by decide)
  unfold L_X3
  simp only [wsLw_cons, wsLw_app, List.append_eq, wsLw_nil]
  have c21 : cellW (gLw g ad) M0w 21 0 0 = cellW (gLw g ad') M0w 21 0 0 := cw_21 (h22 0)
  have c22 : cellW (gLw g ad) M0w 22 0 0 = cellW (gLw g ad') M0w 22 0 0 := rfl
  rw [h21 0, c21, h22 0, c22]
theorem cg_X0 {g : Gw} (b : Nat) {ad ad' : Nat → Nat → Nat → Nat} (h : ∀ κ i, 0 ≤ κ → κ ≤ 12 → ad κ b i = ad' κ b i) : wsLw g (L_X0 b) ad = wsLw g (L_X0 b) ad' := by
  have h0 := fun i => h 0 i (by decide) (by decide)
  have h1 := fun i => h 1 i (by decide) (by decide)
  have h2 := fun i => h 2 i (by decide) (by decide)
  have h3 := fun i => h 3 i (by decide) (by decide)
  have h4 := fun i => h 4 i (by decide) (by decide)
  have h5 := fun i => h 5 i (by decide) (by decide)
  have h6 := fun i => h 6 i (by decide) (by decide)
  have h7 := fun i => h 7 i (by decide) (by decide)
  have h8 := fun i => h 8 i (by decide) (by decide)
  have h9 := fun i => h 9 i (by decide) (by decide)
  have h10 := fun i => h 10 i (by decide) (by decide)
  have h11 := fun i => h 11 i (by decide) (by decide)
  have h12 := fun i => h 12 i (by decide) (by decide)
  unfold L_X0
  simp only [wsLw_cons, wsLw_app, List.append_eq, wsLw_nil]
  have c0 : cellW (gLw g ad) M0w 0 b 0 = cellW (gLw g ad') M0w 0 b 0 := cw_0 (h1 0) (h2 0) (h3 0) (h5 0) (h7 0) (h9 0) (h11 0)
  have c1 : cellW (gLw g ad) M0w 1 b 0 = cellW (gLw g ad') M0w 1 b 0 := rfl
  have c2 : cellW (gLw g ad) M0w 2 b 0 = cellW (gLw g ad') M0w 2 b 0 := rfl
  have c3 : cellW (gLw g ad) M0w 3 b 0 = cellW (gLw g ad') M0w 3 b 0 := cw_3 h4
  have r4 : wsLw g ((List.range 5).map (fun i => (4, b, i))) ad = wsLw g ((List.range 5).map (fun i => (4, b, i))) ad' := wsLw_rg h4 (fun i => rfl)
  have c5 : cellW (gLw g ad) M0w 5 b 0 = cellW (gLw g ad') M0w 5 b 0 := cw_5 h6
  have r6 : wsLw g ((List.range 5).map (fun i => (6, b, i))) ad = wsLw g ((List.range 5).map (fun i => (6, b, i))) ad' := wsLw_rg h6 (fun i => rfl)
  have c7 : cellW (gLw g ad) M0w 7 b 0 = cellW (gLw g ad') M0w 7 b 0 := cw_7 h8
  have r8 : wsLw g ((List.range 5).map (fun i => (8, b, i))) ad = wsLw g ((List.range 5).map (fun i => (8, b, i))) ad' := wsLw_rg h8 (fun i => rfl)
  have c9 : cellW (gLw g ad) M0w 9 b 0 = cellW (gLw g ad') M0w 9 b 0 := cw_9 h10
  have r10 : wsLw g ((List.range 5).map (fun i => (10, b, i))) ad = wsLw g ((List.range 5).map (fun i => (10, b, i))) ad' := wsLw_rg h10 (fun i => rfl)
  have c11 : cellW (gLw g ad) M0w 11 b 0 = cellW (gLw g ad') M0w 11 b 0 := cw_11 h12
  have r12 : wsLw g ((List.range 19).map (fun i => (12, b, i))) ad = wsLw g ((List.range 19).map (fun i => (12, b, i))) ad' := wsLw_rg h12 (fun i => rfl)
  rw [h0 0, c0, h1 0, c1, h2 0, c2, h3 0, c3, r4, h5 0, c5, r6, h7 0, c7, r8, h9 0, c9, r10, h11 0, c11, r12]
theorem cg_X4 {g : Gw} (b : Nat) {ad ad' : Nat → Nat → Nat → Nat} (h : ∀ κ i, 26 ≤ κ → κ ≤ 28 → ad κ b i = ad' κ b i) : wsLw g (L_X4 b) ad = wsLw g (L_X4 b) ad' := by
  have h26 := fun i => h 26 i (by decide) (by decide)
  have h27 := fun i => h 27 i (by decide) (by decide)
  have h28 := fun i => h 28 i (by decide) (by decide)
  unfold L_X4
  simp only [wsLw_cons, wsLw_app, List.append_eq, wsLw_nil]
  have c26 : cellW (gLw g ad) M0w 26 b 0 = cellW (gLw g ad') M0w 26 b 0 := cw_26 (h27 0)
  have c27 : cellW (gLw g ad) M0w 27 b 0 = cellW (gLw g ad') M0w 27 b 0 := cw_27 h28
  have r28 : wsLw g ((List.range 128).map (fun i => (28, b, i))) ad = wsLw g ((List.range 128).map (fun i => (28, b, i))) ad' := wsLw_rg h28 (fun i => rfl)
  rw [h26 0, c26, h27 0, c27, r28]
theorem cg_X10 {g : Gw} {ad ad' : Nat → Nat → Nat → Nat} (h : ∀ κ i, 50 ≤ κ → ad κ 0 i = ad' κ 0 i) : wsLw g L_X10 ad = wsLw g L_X10 ad' := by
  apply List.map_congr_left
  intro t ht
  have h1 : ∀ t ∈ L_X10, 50 ≤ t.1 ∧ t.1 ≤ 91 ∧ t.2.1 = 0 := by decide +kernel
  obtain ⟨a, a2, e⟩ := h1 t ht
  obtain ⟨κ, b, i⟩ := t
  have e : b = 0 := e
  subst e
  have a : 50 ≤ κ := a
  have a2 : κ ≤ 91 := a2
  have e1 : ad κ 0 i = ad' κ 0 i := h κ i a
  have e2 : cellW (gLw g ad) M0w κ 0 i = cellW (gLw g ad') M0w κ 0 i := by
    by_cases c : κ = 50
    · subst c
      show contW (gLw g ad) 50 0 i _ _ _ = contW (gLw g ad') 50 0 i _ _ _
      rw [contW_50, contW_50]
      simp only [gLw, gA, gC, gK, gV, h 51 0 (by decide), h 52 0 (by decide), h 53 0 (by decide), h 54 0 (by decide), h 55 0 (by decide), h 56 0 (by decide), h 57 0 (by decide), h 58 0 (by decide), h 59 0 (by decide), h 60 0 (by decide), h 61 0 (by decide), h 62 0 (by decide), h 63 0 (by decide), h 64 0 (by decide), h 65 0 (by decide), h 66 0 (by decide), h 67 0 (by decide), h 68 0 (by decide), h 69 0 (by decide), h 70 0 (by decide), h 71 0 (by decide), h 72 0 (by decide), h 73 0 (by decide), h 74 0 (by decide), h 75 0 (by decide), h 76 0 (by decide), h 77 0 (by decide), h 78 0 (by decide), h 79 0 (by decide), h 80 0 (by decide), h 81 0 (by decide), h 82 0 (by decide), h 83 0 (by decide), h 84 0 (by decide), h 85 0 (by decide), h 86 0 (by decide), h 87 0 (by decide), h 88 0 (by decide), h 89 0 (by decide), h 90 0 (by decide), h 91 0 (by decide)]
    · rcases (by omega : κ = 51 ∨ κ = 52 ∨ κ = 53 ∨ κ = 54 ∨ κ = 55 ∨ κ = 56 ∨ κ = 57 ∨ κ = 58 ∨ κ = 59 ∨ κ = 60 ∨ κ = 61 ∨ κ = 62 ∨ κ = 63 ∨ κ = 64 ∨ κ = 65 ∨ κ = 66 ∨ κ = 67 ∨ κ = 68 ∨ κ = 69 ∨ κ = 70 ∨ κ = 71 ∨ κ = 72 ∨ κ = 73 ∨ κ = 74 ∨ κ = 75 ∨ κ = 76 ∨ κ = 77 ∨ κ = 78 ∨ κ = 79 ∨ κ = 80 ∨ κ = 81 ∨ κ = 82 ∨ κ = 83 ∨ κ = 84 ∨ κ = 85 ∨ κ = 86 ∨ κ = 87 ∨ κ = 88 ∨ κ = 89 ∨ κ = 90 ∨ κ = 91) with rfl | rfl | rfl | rfl | rfl | rfl | rfl | rfl | rfl | rfl | rfl | rfl | rfl | rfl | rfl | rfl | rfl | rfl | rfl | rfl | rfl | rfl | rfl | rfl | rfl | rfl | rfl | rfl | rfl | rfl | rfl | rfl | rfl | rfl | rfl | rfl | rfl | rfl | rfl | rfl | rfl <;> rfl
  show (ad κ 0 i, cellW (gLw g ad) M0w κ 0 i) = (ad' κ 0 i, cellW (gLw g ad') M0w κ 0 i)
  rw [e1, e2]
def L_X1 : List (Nat × Nat × Nat) := (13, 0, 0) :: ((([] ++ (L_X6)) ++ (L_X0 0)) ++ [(14, 0, 0)])
set_option maxRecDepth 100000 in
set_option maxHeartbeats 8000000 in
theorem n_X1_init (g : Gw) (l : Launch) (h0 sz : Nat) : NMet g l yX1_init cX1_init 1 2 50 1272 h0 1 [.null, .null, .int 0, .int 0, .null] sz (wsLw g (L_X1)) := by
  refine NMet.of (own := RX1) (by decide +kernel) rfl rfl (by decide) ?_
  intro p e R s m args below meth c A hx hb hml hown hts hK hCN hA hR hlk hr hnm H ls hP hD hS hl
  refine lv_aload_n hx hb dX1_init_0 rfl (lv_at hl 0 rfl) ?_
  refine W.objInit hx hb hown (hts _ u_157) (hts _ u_151) (hts _ u_152) rfl (by rw [hml]; exact hl.1) rfl dX1_init_1 (by rw [hR]; exact Nat.le_of_ble_eq_true rfl) (by rw [hR]; exact Nat.le_of_ble_eq_true rfl) ?_
  refine W.eq (g2 := F0 m 4 ls []) rfl ?_
  refine lv_aload_n hx hb dX1_init_4 rfl (lv_at hl 0 rfl) ?_
  refine va_new (ci := 6) (fs := [.null, .int 0, .int 0, .int 0, .int 0, .int 0]) (C := RX6) (T := TX6) (N := 6) hx hb hts inUX6 tyX6 tyX6_ok hown (hts _ u_158) (hts _ u_159) (hts _ u_127) hK hP hD hS hA rfl (by decide +kernel) (by rw [hR]; exact Nat.le_of_ble_eq_true rfl) (by rw [hR]; exact Nat.le_of_ble_eq_true rfl) dX1_init_5 (fun q1 H hP2 hD2 hS2 => ?_)
  refine W.widen (k := 1) (n := 6) (by decide) (by decide) ?_
  clear hP hD hS
  have hP := hP2
  have hD := hD2
  have hS := hS2
  clear hP2 hD2 hS2
  refine lv_dup hx hb dX1_init_8 rfl ?_
  refine n_callN (rest := [.ref q1, .ref h0]) (wr := ((h0, .inr (1, [.null, .null, .int 0, .int 0, .null])) :: [])) hx hb hml hown hts hK hCN hA hR hl hP hD hS (n_X6_init g l q1 _) dX1_init_9 ⟨"WatchStack", by decide +kernel⟩ rfl u_160 mi_X6_init (by decide) (Nat.le_of_ble_eq_true rfl) (by decide) (by decide) (fun ad1 H locs hh hP2 hD2 hS2 => ?_)
  have hh2 : ad1 15 0 0 = q1 := Option.some.inj hh
  clear hh
  clear hP hD hS
  have hP : va_P (gD g) vwCl ((h0, .inr (1, [.null, .null, .int 0, .int 0, .null])) :: ([] ++ wsLw g (L_X6) ad1)) H := hP2
  have hD : va_D A ((h0, .inr (1, [.null, .null, .int 0, .int 0, .null])) :: ([] ++ wsLw g (L_X6) ad1)) := hD2
  have hS := hS2
  clear hP2 hD2 hS2
  subst hh2
  refine W.widen (k := 2) (n := 1006) (by decide) (by decide) ?_
  refine va_putF (D := gD g) (ci := 1) (v := .ref (ad1 15 0 0)) (ty := (.object "WatchStack$Tape")) (C := RX1) (T := TX1) (N := 5) hx hb hts inUX1 tyX1 tyX1_ok nmX1 hown hK hP hD hS 0 rfl rfl 0 (by decide) (hts _ u_239) (fun _ h9 => h9) rfl hnm rfl (by decide +kernel) rfl rfl (Nat.le_of_ble_eq_true rfl) dX1_init_12 (fun H locs hP2 hD2 hS2 => ?_)
  clear hP hD hS
  have hP : va_P (gD g) vwCl ((h0, .inr (1, [.ref (ad1 15 0 0), .null, .int 0, .int 0, .null])) :: ([] ++ wsLw g (L_X6) ad1)) H := hP2
  have hD : va_D A ((h0, .inr (1, [.ref (ad1 15 0 0), .null, .int 0, .int 0, .null])) :: ([] ++ wsLw g (L_X6) ad1)) := hD2
  have hS := hS2
  clear hP2 hD2 hS2
  refine lv_aload_n hx hb dX1_init_15 rfl (lv_at hl 0 rfl) ?_
  refine va_new (ci := 0) (fs := [.int 0, .int 0, .int 0, .int 0, .int 0, .int 0, .int 0, .int 0, .null, .null, .null, .null, .null, .null, .null]) (C := RX0) (T := TX0) (N := 15) hx hb hts inUX0 tyX0 tyX0_ok hown (hts _ u_174) (hts _ u_175) (hts _ u_128) hK hP hD hS hA rfl (by decide +kernel) (by rw [hR]; exact Nat.le_of_ble_eq_true rfl) (by rw [hR]; exact Nat.le_of_ble_eq_true rfl) dX1_init_16 (fun q2 H hP2 hD2 hS2 => ?_)
  refine W.widen (k := 3) (n := 1021) (by decide) (by decide) ?_
  clear hP hD hS
  have hP := hP2
  have hD := hD2
  have hS := hS2
  clear hP2 hD2 hS2
  refine lv_dup hx hb dX1_init_19 rfl ?_
  refine n_callN (rest := [.ref q2, .ref h0]) (wr := ((h0, .inr (1, [.ref (ad1 15 0 0), .null, .int 0, .int 0, .null])) :: ([] ++ wsLw g (L_X6) ad1))) hx hb hml hown hts hK hCN hA hR hl hP hD hS (n_X0_init g l 0 q2 _) dX1_init_20 ⟨"WatchStack", by decide +kernel⟩ rfl u_176 mi_X0_init (by decide) (Nat.le_of_ble_eq_true rfl) (by decide) (by decide) (fun ad2 H locs hh hP2 hD2 hS2 => ?_)
  have hh2 : ad2 0 0 0 = q2 := Option.some.inj hh
  clear hh
  clear hP hD hS
  have hP : va_P (gD g) vwCl ((h0, .inr (1, [.ref (ad1 15 0 0), .null, .int 0, .int 0, .null])) :: (([] ++ wsLw g (L_X6) ad1) ++ wsLw g (L_X0 0) ad2)) H := hP2
  have hD : va_D A ((h0, .inr (1, [.ref (ad1 15 0 0), .null, .int 0, .int 0, .null])) :: (([] ++ wsLw g (L_X6) ad1) ++ wsLw g (L_X0 0) ad2)) := hD2
  have hS := hS2
  clear hP2 hD2 hS2
  subst hh2
  refine W.widen (k := 49) (n := 1266) (by decide) (by decide) ?_
  refine va_putF (D := gD g) (ci := 1) (v := .ref (ad2 0 0 0)) (ty := (.object "WatchStack$Board")) (C := RX1) (T := TX1) (N := 5) hx hb hts inUX1 tyX1 tyX1_ok nmX1 hown hK hP hD hS 0 rfl rfl 1 (by decide) (hts _ u_241) (fun _ h9 => h9) rfl hnm rfl (by decide +kernel) rfl rfl (Nat.le_of_ble_eq_true rfl) dX1_init_23 (fun H locs hP2 hD2 hS2 => ?_)
  clear hP hD hS
  have hP : va_P (gD g) vwCl ((h0, .inr (1, [.ref (ad1 15 0 0), .ref (ad2 0 0 0), .int 0, .int 0, .null])) :: (([] ++ wsLw g (L_X6) ad1) ++ wsLw g (L_X0 0) ad2)) H := hP2
  have hD : va_D A ((h0, .inr (1, [.ref (ad1 15 0 0), .ref (ad2 0 0 0), .int 0, .int 0, .null])) :: (([] ++ wsLw g (L_X6) ad1) ++ wsLw g (L_X0 0) ad2)) := hD2
  have hS := hS2
  clear hP2 hD2 hS2
  refine lv_aload_n hx hb dX1_init_26 rfl (lv_at hl 0 rfl) ?_
  refine lv_iconst (v := (-1)) hx hb dX1_init_27 (by decide) ?_
  refine va_put (D := gD g) (ci := 1) (v := .int (-1)) (ty := .int) (C := RX1) (T := TX1) (N := 5) hx hb hts inUX1 tyX1 tyX1_ok nmX1 hown hK hP hD hS 0 rfl rfl 3 (by decide) (hts _ u_245) (fun _ h9 => h9) rfl (by decide +kernel) rfl rfl (Nat.le_of_ble_eq_true rfl) dX1_init_28 (fun H locs hP2 hD2 hS2 => ?_)
  clear hP hD hS
  have hP : va_P (gD g) vwCl ((h0, .inr (1, [.ref (ad1 15 0 0), .ref (ad2 0 0 0), .int 0, .int (-1), .null])) :: (([] ++ wsLw g (L_X6) ad1) ++ wsLw g (L_X0 0) ad2)) H := hP2
  have hD : va_D A ((h0, .inr (1, [.ref (ad1 15 0 0), .ref (ad2 0 0 0), .int 0, .int (-1), .null])) :: (([] ++ wsLw g (L_X6) ad1) ++ wsLw g (L_X0 0) ad2)) := hD2
  have hS := hS2
  clear hP2 hD2 hS2
  refine lv_aload_n hx hb dX1_init_31 rfl (lv_at hl 0 rfl) ?_
  refine lv_bipush (v := 6) hx hb dX1_init_32 (by decide) ?_
  refine va_newa (atype := .int) (ty := .int) (a0 := (6, .inl (fun _ => 0))) (N' := 6) hx hb (hts _ u_173) rfl hK hP hD hS hA (fun cA => rfl) (by decide) (by decide) (by decide) (by rw [hR]; exact Nat.le_of_ble_eq_true rfl) (by rw [hR]; exact Nat.le_of_ble_eq_true rfl) dX1_init_34 (fun q3 cA H hK1 hP2 hD2 hS2 => ?_)
  obtain rfl := ca_0 hK hK1
  clear hK1
  clear hP hD hS
  have hP : va_P (gD g) vwCl ((h0, .inr (1, [.ref (ad1 15 0 0), .ref (ad2 0 0 0), .int 0, .int (-1), .null])) :: ((([] ++ wsLw g (L_X6) ad1) ++ wsLw g (L_X0 0) ad2) ++ [(q3, .inl (gC g 0, 6, .inl (fun _ => 0)))])) H := hP2
  have hD : va_D A ((h0, .inr (1, [.ref (ad1 15 0 0), .ref (ad2 0 0 0), .int 0, .int (-1), .null])) :: ((([] ++ wsLw g (L_X6) ad1) ++ wsLw g (L_X0 0) ad2) ++ [(q3, .inl (gC g 0, 6, .inl (fun _ => 0)))])) := hD2
  have hS := hS2
  clear hP2 hD2 hS2
  refine W.widen (k := 50) (n := 1272) (by decide) (by decide) ?_
  refine va_putF (D := gD g) (ci := 1) (v := .ref q3) (ty := (.array .int)) (C := RX1) (T := TX1) (N := 5) hx hb hts inUX1 tyX1 tyX1_ok nmX1 hown hK hP hD hS 0 rfl rfl 4 (by decide) (hts _ u_247) (fun _ h9 => h9) rfl hnm rfl (by decide +kernel) rfl rfl (Nat.le_of_ble_eq_true rfl) dX1_init_36 (fun H locs hP2 hD2 hS2 => ?_)
  clear hP hD hS
  have hP : va_P (gD g) vwCl ((h0, .inr (1, [.ref (ad1 15 0 0), .ref (ad2 0 0 0), .int 0, .int (-1), .ref q3])) :: ((([] ++ wsLw g (L_X6) ad1) ++ wsLw g (L_X0 0) ad2) ++ [(q3, .inl (gC g 0, 6, .inl (fun _ => 0)))])) H := hP2
  have hD : va_D A ((h0, .inr (1, [.ref (ad1 15 0 0), .ref (ad2 0 0 0), .int 0, .int (-1), .ref q3])) :: ((([] ++ wsLw g (L_X6) ad1) ++ wsLw g (L_X0 0) ad2) ++ [(q3, .inl (gC g 0, 6, .inl (fun _ => 0)))])) := hD2
  have hS := hS2
  clear hP2 hD2 hS2
  obtain ⟨AD, hAD⟩ : ∃ AD : Nat → Nat → Nat → Nat, AD = (fun κ b' i => if 15 ≤ κ ∧ κ ≤ 16 then ad1 κ b' i else if κ ≤ 12 then ad2 κ b' i else if κ = 14 then q3 else if κ = 13 then h0 else 0) := ⟨_, rfl⟩
  have e : wsLw g (L_X1) AD = ((h0, .inr (1, [.ref (ad1 15 0 0), .ref (ad2 0 0 0), .int 0, .int (-1), .ref q3])) :: ((([] ++ wsLw g (L_X6) ad1) ++ wsLw g (L_X0 0) ad2) ++ [(q3, .inl (gC g 0, 6, .inl (fun _ => 0)))])) := by
    have g0 : wsLw g L_X6 AD = wsLw g L_X6 ad1 := cg_X6 (fun κ i h8 h9 => by
      rw [hAD]
      exact if_pos (by omega))
    have g1 : wsLw g (L_X0 0) AD = wsLw g (L_X0 0) ad2 := cg_X0 0 (fun κ i h8 h9 => by
      rw [hAD]
      exact (if_neg (by omega)).trans (if_pos (by omega)))
    unfold L_X1
    simp only [wsLw_cons, wsLw_app, wsLw_nil]
    rw [g0, g1]
    subst hAD
    rfl
  rw [← e] at hP hD
  exact W.vret hx hb hr (fun t ht hW => ⟨rfl, ⟨AD, by rw [ht]; exact hP, hD, by rw [hAD]; rfl⟩, hS.F ht⟩) hS.2.2 dX1_init_39 hlk
theorem cg_X1 {g : Gw} {ad ad' : Nat → Nat → Nat → Nat} (h : ∀ κ b' i, ((13 ≤ κ ∧ κ ≤ 16 ∧ b' = 0) ∨ (κ ≤ 12 ∧ b' = 0)) → ad κ b' i = ad' κ b' i) : wsLw g (L_X1) ad = wsLw g (L_X1) ad' := by
  have h13 := fun i => h 13 0 i (by omega)
  have c1 : cellW (gLw g ad) M0w 13 0 0 = cellW (gLw g ad') M0w 13 0 0 := cw_13 (h 15 0 0 (by omega)) (h 0 0 0 (by omega)) (h 14 0 0 (by omega))
  have hC2 : wsLw g L_X6 ad = wsLw g L_X6 ad' := cg_X6 (fun κ i h8 h9 => h κ 0 i (by omega))
  have hC3 : wsLw g (L_X0 0) ad = wsLw g (L_X0 0) ad' := cg_X0 0 (fun κ i h8 h9 => h κ 0 i (by omega))
  have h14 := fun i => h 14 0 i (by omega)
  have c4 : cellW (gLw g ad) M0w 14 0 0 = cellW (gLw g ad') M0w 14 0 0 := rfl
  unfold L_X1
  simp only [wsLw_cons, wsLw_app, wsLw_nil]
  rw [h13 0, c1, hC2, hC3, h14 0, c4]
