section LAWCTOR
variable {p : Program} {l : Launch} {e : Env} {s : State} {m : MethodId} {args : Array Value} {below : List Frame} {meth : Method} {c : Code} {H : Heap} {locs : List Loc} {cells slots : Nat} {Q : State → Prop}
variable {pc : Nat} {ls : Array Slot} {rest : List Value} {g : Gw} {A : Nat → Prop}
theorem n_callL (hx : p.tables.exec = Jvm.exec) (hb : c.code = code) (hml : c.maxLocals = 4) (hown : s.vm.findClass "WatchStackLaw" = some m.cls) (hts : ∀ w ∈ U0w, w.before args s = true) (hK : va_K (gD g) vwCl (tyW g) s) (hCN : CNw s) (hA : ∀ q, s.heap.size ≤ q → A q) {y : MethodName} {Cn : String} {cc' : ByteArray} {nL' d' mc' ms' idx ci : Nat} {fs : List Value} {wr : va_W} {q : Nat} {wsN : (Nat → Nat → Nat → Nat) → va_W} {lv : List (Nat × Value)} (hl : lv_has ls 4 lv)
    (hP : va_P (gD g) vwCl (wr ++ [(q, .inr (ci, fs))]) H) (hD : va_D A (wr ++ [(q, .inr (ci, fs))])) (hS : va_S A s.heap H locs) (hM : NMet g l y cc' nL' d' mc' ms' q ci fs H.size wsN) (hd : decode code pc = .ok (.invokespecial idx, 3)) (hw1 : Cond.methodLink "WatchStackLaw" idx y ∈ U0w) (hnm : y.name = "<init>") (hw2 : Cond.instanceMethod y ∈ U0w) (hi : Mi y Cn cc' nL' none 0) (hdd : d' ≤ 100) (hnL : nL' ≤ 1000) (hcat : (rest.map fun v => v.category).sum ≤ 8) (hkc : cells + mc' ≤ 600000) (hks : slots + ms' ≤ 7302250)
    (kk : ∀ (ad : Nat → Nat → Nat → Nat) (H1 : Heap) (locs1 : List Loc), ((wsN ad)[0]?).map Prod.fst = some q → va_P (gD g) vwCl (wr ++ wsN ad) H1 → va_D A (wr ++ wsN ad) → va_S A s.heap H1 locs1 → W p l e room_1 s m args below meth c H1 locs1 (cells + mc') (slots + ms') Q (F0 m (pc + 3) ls rest)) : W p l e room_1 s m args below meth c H locs cells slots Q (F0 m pc ls (.ref q :: rest)) := by
  obtain ⟨i1, i2, i3, i4, i5⟩ := hi
  have cwG : GoodIn U0w (Cond.code y cc' nL' none :: U0w) := U0w_good (fun w hw => by
    rcases List.mem_cons.mp hw with h | h
    · rw [h]; exact i1
    · exact h)
  have hPc : va_P (gD g) vwCl [(q, .inr (ci, fs))] H := fun k x hx => by
    have hk : k < 1 := (List.getElem?_eq_some_iff.mp hx).1
    rw [show k = 0 by omega] at hx
    cases hx
    exact hP wr.length (q, .inr (ci, fs)) (by simp)
  have hDc : va_D (fun _ => True) [(q, .inr (ci, fs))] := ⟨fun i j a b ha hb' _ => by
    have h1 : i < 1 := (List.getElem?_eq_some_iff.mp ha).1
    have h2 : j < 1 := (List.getElem?_eq_some_iff.mp hb').1
    omega, fun _ _ _ => trivial⟩
  have hRR : d' + 1 ≤ room_1.frames ∧ 8 + (nL' + 11) + 100 * d' ≤ room_1.locals := ⟨by show d' + 1 ≤ 2048; omega, by show 8 + (nL' + 11) + 100 * d' ≤ 84000; omega⟩
  have cb : CallB room_1 s args "WatchStackLaw" idx y cc' nL' none (Cond.code y cc' nL' none :: U0w) { frames := d', cells := mc', slots := ms', locals := 100 * d' } mc' ms' 0 := callB_of 0 hts cwG rfl rfl rfl (by rw [i3]; exact hts _ i2) (hts _ hw1) i4 hRR
  exact n_behind hP hD hS hA (va_runI (n := 0) (nL := 4) (As := []) (rest := rest) ⟨hx, hb, hml, hown, hts⟩ hM ⟨cb, hnm, hts _ hw2⟩ ⟨PNw.blind, fun U hU hW => ⟨rfl, by rw [hU], by rw [hU]; exact hPc, va_K.moved hW.alike hK, hDc, CNw.warm hW hCN⟩⟩ rfl rfl hl.1 rfl (lv_room hcat) hd ⟨hkc, hks⟩) kk
end LAWCTOR
def nb0 (κ : Nat) : Nat := if κ ≤ 12 then 8 else if κ ≤ 22 then 1 else if κ ≤ 35 then 3 else if κ ≤ 43 then 1 else if κ < 50 then 0 else if κ ≤ 91 then 1 else if κ < 98 then 0 else 0
def lay0 : List (Nat × Nat × Nat) := (List.range 100).flatMap (fun κ => (List.range (nb0 κ)).flatMap (fun b => (List.range (niW κ)).map (fun i => (κ, b, i))))
theorem lay0_eq {g : Gw} (hT : gT g = 0) : layW g = lay0 := by
  have h : nbW g = nb0 := by
    funext κ
    unfold nbW nb0
    rw [hT]
  unfold layW lay0
  rw [h]
/-- a row of numbers that grow -/
def incr : Nat → List Nat → Bool
  | _, [] => true
  | a, b :: l => Nat.blt a b && incr b l
theorem incr_lt : ∀ (l : List Nat) (a : Nat), incr a l = true → ∀ x ∈ l, a < x := by
  intro l
  induction l with
  | nil => intro a _ x hx; exact absurd hx List.not_mem_nil
  | cons b l ih =>
    intro a h x hx
    unfold incr at h
    rw [Bool.and_eq_true] at h
    have hab : a < b := Nat.blt_eq.mp h.1
    rcases List.mem_cons.mp hx with rfl | hx
    · exact hab
    · exact Nat.lt_trans hab (ih b h.2 x hx)
theorem incr_at : ∀ (l : List Nat) (a : Nat), incr a l = true → ∀ (i j x y : Nat), i < j → l[i]? = some x → l[j]? = some y → x < y := by
  intro l
  induction l with
  | nil => intro a _ i j x y _ h; simp at h
  | cons b l ih =>
    intro a h i j x y hij hx hy
    unfold incr at h
    rw [Bool.and_eq_true] at h
    obtain ⟨j, rfl⟩ : ∃ j', j = j' + 1 := ⟨j - 1, by omega⟩
    rw [List.getElem?_cons_succ] at hy
    cases i with
    | zero =>
      rw [List.getElem?_cons_zero] at hx
      cases hx
      exact incr_lt l b h.2 y (List.mem_of_getElem? hy)
    | succ i =>
      rw [List.getElem?_cons_succ] at hx
      exact ih b h.2 i j x y (by omega) hx hy
def enc3 (t : Nat × Nat × Nat) : Nat := t.1 * 10000 + t.2.1 * 1000 + t.2.2 + 1
set_option maxRecDepth 100000 in
theorem lay0_inc : incr 0 (lay0.map enc3) = true := by decide +kernel
theorem lay0_at {i j : Nat} {t : Nat × Nat × Nat} (h1 : lay0[i]? = some t) (h2 : lay0[j]? = some t) : i = j := by
  have g1 : (lay0.map enc3)[i]? = some (enc3 t) := by rw [List.getElem?_map, h1]; rfl
  have g2 : (lay0.map enc3)[j]? = some (enc3 t) := by rw [List.getElem?_map, h2]; rfl
  rcases Nat.lt_trichotomy i j with h | h | h
  · exact absurd (incr_at _ _ lay0_inc i j _ _ h g1 g2) (Nat.lt_irrefl _)
  · exact h
  · exact absurd (incr_at _ _ lay0_inc j i _ _ h g2 g1) (Nat.lt_irrefl _)
theorem inL_X0 : ∀ κ, κ < 13 → ∀ b, b < 8 → ∀ i, i < niW κ → (κ, b, i) ∈ L_X0 b := by
  intro κ h1 b hb i hi
  rcases (by omega : κ = 0 ∨ κ = 1 ∨ κ = 2 ∨ κ = 3 ∨ κ = 4 ∨ κ = 5 ∨ κ = 6 ∨ κ = 7 ∨ κ = 8 ∨ κ = 9 ∨ κ = 10 ∨ κ = 11 ∨ κ = 12) with rfl | rfl | rfl | rfl | rfl | rfl | rfl | rfl | rfl | rfl | rfl | rfl | rfl <;> simp [niW] at hi <;> simp [L_X0] <;> omega
theorem sub0_0 {t : Nat × Nat × Nat} (h : t ∈ L_X0 0) : t ∈ L_X9 := by
  simp [L_X9, L_X1, L_X5, L_X8, h]
theorem sub0_1 {t : Nat × Nat × Nat} (h : t ∈ L_X0 1) : t ∈ L_X9 := by
  simp [L_X9, L_X1, L_X5, L_X8, h]
theorem sub0_2 {t : Nat × Nat × Nat} (h : t ∈ L_X0 2) : t ∈ L_X9 := by
  simp [L_X9, L_X1, L_X5, L_X8, h]
theorem sub0_3 {t : Nat × Nat × Nat} (h : t ∈ L_X0 3) : t ∈ L_X9 := by
  simp [L_X9, L_X1, L_X5, L_X8, h]
theorem sub0_4 {t : Nat × Nat × Nat} (h : t ∈ L_X0 4) : t ∈ L_X9 := by
  simp [L_X9, L_X1, L_X5, L_X8, h]
theorem sub0_5 {t : Nat × Nat × Nat} (h : t ∈ L_X0 5) : t ∈ L_X9 := by
  simp [L_X9, L_X1, L_X5, L_X8, h]
theorem sub0_6 {t : Nat × Nat × Nat} (h : t ∈ L_X0 6) : t ∈ L_X9 := by
  simp [L_X9, L_X1, L_X5, L_X8, h]
theorem sub0_7 {t : Nat × Nat × Nat} (h : t ∈ L_X0 7) : t ∈ L_X9 := by
  simp [L_X9, L_X1, L_X5, L_X8, h]
theorem inL_run : ∀ κ, 23 ≤ κ → κ < 36 → ∀ b, b < 3 → ∀ i, i < niW κ → (κ, b, i) ∈ L_X5 b := by
  intro κ h1 h2 b hb i hi
  rcases (by omega : κ = 23 ∨ κ = 24 ∨ κ = 25 ∨ κ = 26 ∨ κ = 27 ∨ κ = 28 ∨ κ = 29 ∨ κ = 30 ∨ κ = 31 ∨ κ = 32 ∨ κ = 33 ∨ κ = 34 ∨ κ = 35) with rfl | rfl | rfl | rfl | rfl | rfl | rfl | rfl | rfl | rfl | rfl | rfl | rfl <;> simp [niW] at hi <;> simp [L_X5, L_X4, L_X0] <;> omega
theorem sub5_0 {t : Nat × Nat × Nat} (h : t ∈ L_X5 0) : t ∈ L_X9 := by
  simp [L_X9, h]
theorem sub5_1 {t : Nat × Nat × Nat} (h : t ∈ L_X5 1) : t ∈ L_X9 := by
  simp [L_X9, h]
theorem sub5_2 {t : Nat × Nat × Nat} (h : t ∈ L_X5 2) : t ∈ L_X9 := by
  simp [L_X9, L_X8, h]
theorem inL_10 : ∀ κ, 50 ≤ κ → κ < 92 → (κ, 0, 0) ∈ L_X10 := by
  intro κ h1 h2
  simp [L_X10]
  omega
theorem inL_few : ∀ κ, 13 ≤ κ → κ < 44 → ¬ (23 ≤ κ ∧ κ < 36) → ∀ i, i < niW κ → (κ, 0, i) ∈ L_X9 := by
  intro κ h1 h2 h3 i hi
  rcases (by omega : κ = 13 ∨ κ = 14 ∨ κ = 15 ∨ κ = 16 ∨ κ = 17 ∨ κ = 18 ∨ κ = 19 ∨ κ = 20 ∨ κ = 21 ∨ κ = 22 ∨ κ = 36 ∨ κ = 37 ∨ κ = 38 ∨ κ = 39 ∨ κ = 40 ∨ κ = 41 ∨ κ = 42 ∨ κ = 43) with rfl | rfl | rfl | rfl | rfl | rfl | rfl | rfl | rfl | rfl | rfl | rfl | rfl | rfl | rfl | rfl | rfl | rfl <;> simp [niW] at hi <;> simp [L_X9, L_X1, L_X6, L_X2, L_X3, L_X8] <;> omega
theorem lay0_in : ∀ t ∈ lay0, t ∈ L_X9 ++ L_X10 := by
  rintro ⟨κ, b, i⟩ ht
  obtain ⟨κ', h1, ht⟩ := List.mem_flatMap.mp ht
  obtain ⟨b', h2, ht⟩ := List.mem_flatMap.mp ht
  obtain ⟨i', h3, ht⟩ := List.mem_map.mp ht
  cases ht
  have h1 := List.mem_range.mp h1
  have h2 := List.mem_range.mp h2
  have h3 := List.mem_range.mp h3
  unfold nb0 at h2
  by_cases c1 : κ ≤ 12
  · rw [if_pos c1] at h2
    have hm := inL_X0 κ (by omega) b h2 i h3
    refine List.mem_append_left _ ?_
    rcases (by omega : b = 0 ∨ b = 1 ∨ b = 2 ∨ b = 3 ∨ b = 4 ∨ b = 5 ∨ b = 6 ∨ b = 7) with rfl | rfl | rfl | rfl | rfl | rfl | rfl | rfl
    · exact sub0_0 hm
    · exact sub0_1 hm
    · exact sub0_2 hm
    · exact sub0_3 hm
    · exact sub0_4 hm
    · exact sub0_5 hm
    · exact sub0_6 hm
    · exact sub0_7 hm
  rw [if_neg c1] at h2
  by_cases c2 : κ ≤ 22
  · rw [if_pos c2] at h2
    obtain rfl : b = 0 := by omega
    exact List.mem_append_left _ (inL_few κ (by omega) (by omega) (by omega) i h3)
  rw [if_neg c2] at h2
  by_cases c3 : κ ≤ 35
  · rw [if_pos c3] at h2
    have hm := inL_run κ (by omega) (by omega) b h2 i h3
    refine List.mem_append_left _ ?_
    rcases (by omega : b = 0 ∨ b = 1 ∨ b = 2) with rfl | rfl | rfl
    · exact sub5_0 hm
    · exact sub5_1 hm
    · exact sub5_2 hm
  rw [if_neg c3] at h2
  by_cases c4 : κ ≤ 43
  · rw [if_pos c4] at h2
    obtain rfl : b = 0 := by omega
    exact List.mem_append_left _ (inL_few κ (by omega) (by omega) (by omega) i h3)
  rw [if_neg c4] at h2
  by_cases c5 : κ < 50
  · rw [if_pos c5] at h2
    omega
  rw [if_neg c5] at h2
  by_cases c6 : κ ≤ 91
  · rw [if_pos c6] at h2
    obtain rfl : b = 0 := by omega
    have e : niW κ = 1 := by
      unfold niW
      repeat rw [if_neg (by omega)]
    obtain rfl : i = 0 := by omega
    exact List.mem_append_right _ (inL_10 κ (by omega) (by omega))
  · rw [if_neg c6] at h2
    by_cases c7 : κ < 98
    · rw [if_pos c7] at h2
      omega
    · rw [if_neg c7] at h2
      omega
theorem start_P {g : Gw} {L : List (Nat × Nat × Nat)} {H : Heap} (hT : gT g = 0) (hL : ∀ t ∈ lay0, t ∈ L) (hP : va_P (gD g) vwCl (L.map (fun q => (gA g q.1 q.2.1 q.2.2, cellW g M0w q.1 q.2.1 q.2.2))) H) : va_P (gD g) vwCl (wlW g M0w) H := by
  intro k q hq
  obtain ⟨κ, b, i, h1, rfl⟩ := wlW_inv hq
  rw [lay0_eq hT] at h1
  obtain ⟨k', hk'⟩ := List.getElem?_of_mem (hL _ (List.mem_of_getElem? h1))
  exact hP k' _ (by rw [List.getElem?_map, hk']; rfl)
theorem start_D {g : Gw} {L : List (Nat × Nat × Nat)} {A : Nat → Prop} (hT : gT g = 0) (hL : ∀ t ∈ lay0, t ∈ L) (hD : va_D A (L.map (fun q => (gA g q.1 q.2.1 q.2.2, cellW g M0w q.1 q.2.1 q.2.2)))) : va_D A (wlW g M0w) := by
  refine ⟨fun i j a b ha hb hab => ?_, fun k q hq => ?_⟩
  · obtain ⟨κ, b1, i1, h1, rfl⟩ := wlW_inv ha
    obtain ⟨κ', b2, i2, h2, rfl⟩ := wlW_inv hb
    rw [lay0_eq hT] at h1 h2
    obtain ⟨k1, hk1⟩ := List.getElem?_of_mem (hL _ (List.mem_of_getElem? h1))
    obtain ⟨k2, hk2⟩ := List.getElem?_of_mem (hL _ (List.mem_of_getElem? h2))
    have e := hD.1 k1 k2 _ _ (by rw [List.getElem?_map, hk1]; rfl) (by rw [List.getElem?_map, hk2]; rfl) hab
    subst e
    rw [hk1] at hk2
    have e2 := Option.some.inj hk2
    rw [← e2] at h2
    exact lay0_at h1 h2
  · obtain ⟨κ, b1, i1, h1, rfl⟩ := wlW_inv hq
    rw [lay0_eq hT] at h1
    obtain ⟨k1, hk1⟩ := List.getElem?_of_mem (hL _ (List.mem_of_getElem? h1))
    exact hD.2 k1 (gA g κ b1 i1, cellW g M0w κ b1 i1) (by rw [List.getElem?_map, hk1]; rfl)
set_option maxRecDepth 100000 in
set_option maxHeartbeats 8000000 in
theorem whole_of {Inv : Mw → Prop} (hAll : AllOK Inv) (hI0 : Inv M0w) {p : Program} {e : Env} {s : State} {m : MethodId} {below : List Frame} {meth : Method} {c : Code} (l : Launch) (hflags : l.flags = flags0) {b L : Nat} {xs : Nat → Int32} (hL : L ≤ 3072) (C0 : lw_At p s m meth c b L xs) : W p l e room_1 s m #[Value.ref b] below meth c s.heap [] 0 0 (lw_Z below #[Value.ref b] s) (entryFrame m ([Value.ref b] : List Value).toArray 4) := by
  obtain ⟨hx, hb, hr, hml, hown, htb, hX, hbl, hlocks, hgv⟩ := id C0
  have hown : s.vm.findClass "WatchStackLaw" = some m.cls := hown
  have hts : ∀ w ∈ U0w, w.before #[Value.ref b] s = true := fun w hw => htb w (U0w_in w hw)
  have hf : ∀ c ∈ stFl, c.before #[Value.ref b] s = true := flat_of_before _ hgv
  obtain ⟨D, hKc⟩ := st_D hts
  obtain ⟨gc, hTy⟩ := st_ty hts htb
  have hCN : CNw s := st_CN htb
  have hA : ∀ q : Nat, s.heap.size ≤ q → (fun q : Nat => s.heap.size ≤ q) q := fun _ h => h
  obtain ⟨gK0, gV0, hStr, hTm⟩ := st_S (A := fun q : Nat => s.heap.size ≤ q) hf (fun a ha => Nat.not_le.mpr ha)
  obtain ⟨g0, hg0⟩ : ∃ g0 : Gw, g0 = (D, fun _ _ _ => 0, gc, gK0, gV0, 0) := ⟨_, rfl⟩
  have hK : va_K (gD g0) vwCl (tyW g0) s := by
    rw [hg0]
    exact ⟨hKc, hTy⟩
  have hS : va_S (fun q : Nat => s.heap.size ≤ q) s.heap s.heap [] := va_S.rf
  have hP : va_P (gD g0) vwCl [] s.heap := fun k q h => by simp at h
  have hD : va_D (fun q : Nat => s.heap.size ≤ q) [] := ⟨fun i j p q h => by simp at h, fun k q h => by simp at h⟩
  have hl := lv_entry ([.ref b]) (n := 4) (Nat.le_of_ble_eq_true rfl)
  rw [lg_entry_eq]
  generalize (lg_sl ([.ref b]) ++ List.replicate (4 - (lg_sl ([.ref b])).length) Slot.unset).toArray = ls at hl ⊢
  have hl : lv_has ls 4 [(0, .ref b)] := hl
  refine va_new (ci := 9) (fs := [.null, .null, .null, .null, .null, .null, .null, .null, .null]) (C := RX9) (T := TX9) (N := 9) hx hb hts inUX9 tyX9 tyX9_ok hown (hts _ u_145) (hts _ u_146) (hts _ u_125) hK hP hD hS hA rfl (by decide +kernel) (Nat.le_of_ble_eq_true rfl) (Nat.le_of_ble_eq_true rfl) dL_law_0 (fun q9 H hP2 hD2 hS2 => ?_)
  refine W.widen (k := 1) (n := 9) (by decide) (by decide) ?_
  refine lv_dup hx hb dL_law_3 rfl ?_
  refine n_callL (rest := [.ref q9]) (wr := []) hx hb hml hown hts hK hCN hA hl hP2 hD2 hS2 (n_X9_init g0 l q9 _) dL_law_4 u_147 rfl u_148 mi_X9_init (by decide) (by decide) (Nat.le_of_ble_eq_true rfl) (by decide) (by decide) (fun ad9 H locs hh hP hD hS => ?_)
  have hh9 : ad9 41 0 0 = q9 := Option.some.inj hh
  clear hP2 hD2 hS2 hh
  refine W.widen (k := 851) (n := 7890) (by decide) (by decide) ?_
  refine lv_astore_n (lv' := [(1, .ref q9), (0, .ref b)]) hx hb dL_law_7 rfl hl (by decide) rfl (fun ls hl => ?_)
  refine va_new (ci := 10) (fs := [.int 0, .null, .null, .null, .null, .int 0, .null, .int 0, .int 0, .int 0, .int 0, .int 0, .int 0, .int 0, .null, .null, .null, .null, .null, .null, .null, .int 0, .null, .int 0, .int 0, .int 0, .int 0, .int 0, .null, .null, .null, .null, .null, .null, .null, .null, .null, .null, .null, .null, .null, .null, .null, .null, .null, .null, .null, .null, .null, .null, .null, .null, .null, .null, .null, .null, .int 0, .int 0, .int 0, .int 0, .int 0, .int 0]) (C := RX10) (T := TX10) (N := 62) hx hb hts inUX10 tyX10 tyX10_ok hown (hts _ u_1100) (hts _ u_1101) (hts _ u_135) hK hP hD hS hA rfl (by decide +kernel) (Nat.le_of_ble_eq_true rfl) (Nat.le_of_ble_eq_true rfl) dL_law_8 (fun q10 H hP2 hD2 hS2 => ?_)
  refine lv_dup hx hb dL_law_11 rfl ?_
  refine n_callL (rest := [.ref q10]) (wr := [] ++ wsLw g0 L_X9 ad9) hx hb hml hown hts hK hCN hA hl hP2 hD2 hS2 (n_X10_init g0 l q10 _) dL_law_12 u_1102 rfl u_1103 mi_X10_init (by decide) (by decide) (Nat.le_of_ble_eq_true rfl) (by decide) (by decide) (fun ad10 H locs hh hP hD hS => ?_)
  have hh10 : ad10 50 0 0 = q10 := Option.some.inj hh
  clear hP2 hD2 hS2 hh
  refine W.widen (k := 893) (n := 27630) (by decide) (by decide) ?_
  refine lv_astore_n (lv' := [(2, .ref q10), (1, .ref q9), (0, .ref b)]) hx hb dL_law_15 rfl hl (by decide) rfl (fun ls hl => ?_)
  refine lv_iconst (v := 0) hx hb dL_law_16 (by decide) ?_
  refine lv_istore_n (lv' := [(3, .int 0), (2, .ref q10), (1, .ref q9), (0, .ref b)]) hx hb dL_law_17 rfl hl (by decide) rfl (fun ls hl => ?_)
  obtain ⟨AD, hAD⟩ : ∃ AD : Nat → Nat → Nat → Nat, AD = (fun κ b i => if κ ≤ 43 then ad9 κ b i else ad10 κ b i) := ⟨_, rfl⟩
  obtain ⟨g, hg⟩ : ∃ g : Gw, g = gLw g0 AD := ⟨_, rfl⟩
  have hT : gT g = 0 := by rw [hg]; rfl
  have e9 : wsLw g0 L_X9 AD = wsLw g0 L_X9 ad9 := cg_X9 (fun κ b' i h => by
    rw [hAD]
    show (if _ then _ else _) = _
    rw [if_pos (by omega)])
  have e10 : wsLw g0 L_X10 AD = wsLw g0 L_X10 ad10 := cg_X10 (fun κ i h => by
    rw [hAD]
    show (if _ then _ else _) = _
    rw [if_neg (by omega)])
  have hP : va_P (gD g) vwCl ((L_X9 ++ L_X10).map (fun q => (gA g q.1 q.2.1 q.2.2, cellW g M0w q.1 q.2.1 q.2.2))) H := by
    have h1 : va_P (gD g0) vwCl (wsLw g0 (L_X9 ++ L_X10) AD) H := by
      rw [wsLw_app, e9, e10]
      exact hP
    rw [hg]
    exact h1
  have hD : va_D (fun q : Nat => s.heap.size ≤ q) ((L_X9 ++ L_X10).map (fun q => (gA g q.1 q.2.1 q.2.2, cellW g M0w q.1 q.2.1 q.2.2))) := by
    have h1 : va_D (fun q : Nat => s.heap.size ≤ q) (wsLw g0 (L_X9 ++ L_X10) AD) := by
      rw [wsLw_app, e9, e10]
      exact hD
    rw [hg]
    exact h1
  have hP := start_P hT lay0_in hP
  have hD := start_D hT lay0_in hD
  have hAA : ∀ q, AAw g s.heap.size q → s.heap.size ≤ q := by
    rintro q (⟨κ, b', i', h1, rfl⟩ | h)
    · obtain ⟨k, hk⟩ := List.getElem?_of_mem h1
      exact hD.2 k (gA g κ b' i', cellW g M0w κ b' i') (wlW_at hk)
    · exact h
  have h41 : gA g 41 0 0 = q9 := by
    rw [hg, ← hh9]
    show AD 41 0 0 = _
    rw [hAD]
    rfl
  have h50 : gA g 50 0 0 = q10 := by
    rw [hg, ← hh10]
    show AD 50 0 0 = _
    rw [hAD]
    rfl
  have hKg : va_K (gD g) vwCl (tyW g) s := by
    rw [hg]
    exact hK
  have hSK : SKw g (AAw g s.heap.size) s s.heap := by
    refine SKw.narrow (A := fun q : Nat => s.heap.size ≤ q) ?_ hAA
    refine st_SK hts htb hf (fun a ha => Nat.not_le.mpr ha) ?_ ?_
    · intro i hi
      have h1 := hStr i hi
      rw [hg, hg0]
      exact h1
    · intro i hi
      have h1 := hTm i hi
      rw [hg, hg0]
      exact h1
  have hC : LCw (p, l, e, s, m, below, meth, c, lw_Z below #[Value.ref b] s) b L xs g :=
    ⟨hx, hb, hml, hown, hts, hKg, fun M => wlW_A s.heap.size hD, hSK, hX, hbl, fun h => absurd (hAA b h) (Nat.not_le.mpr hbl)⟩
  have hSg : va_S (AAw g s.heap.size) s.heap H locs := by
    refine ⟨hS.1, fun q h1 h2 => hS.2.1 q h1 (Nat.not_le.mpr h1), fun q hq => Or.inr (hS.2.2 q hq)⟩
  have hloop := law_loop (y := (p, l, e, s, m, below, meth, c, lw_Z below #[Value.ref b] s)) hT hC hL hAll (c0 := 893) (s0 := 27630) (by decide) (by decide) (fun M i cells slots hc hs H locs ls hP hS hl => by
    refine W.widen hc hs ?_
    refine va_forget (fun q hq => hAA _ (hS.2.2 q hq)) ?_
    refine lv_iconst (v := 1) hx hb dL_law_1840 (by decide) ?_
    exact lw_ret (d0 := s.drawn) (Drawn.sameBut.refl s.drawn lw_cs) hx hb hr hlocks dL_law_1841) 513 0 M0w (by omega) hI0
  have hl2 : lv_has ls 4 [(3, .int (nI (6 * 0))), (2, .ref (gA g 50 0 0)), (1, .ref (gA g 41 0 0)), (0, .ref b)] := by
    rw [h41, h50]
    exact hl
  exact hloop H locs ls hP hSg hl2
