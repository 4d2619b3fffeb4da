variable {g : Gw} {x : Xw} {cc : ByteArray} {own : String} {nL : Nat} {ret : Option FieldType} {d : Nat} {β : Type} {out : β → Option Value × Mw} {comp : Option β} {M : Mw} {k n pc : Nat} {lv : List (Nat × Value)} {rest : List Value}
theorem lt85 {r : Nat} (h : r < 3) : r + 5 < 8 := by omega
theorem lt32 {r : Nat} (h : r < 3) : r + 2 < 8 := by omega
theorem xk0 {x : Xw} {a b : Nat} (h : x.2.2.2.2.2.2.2.2.2.2.2 = (a, b)) : a = x.2.2.2.2.2.2.2.2.2.2.2.1 := (congrArg Prod.fst h).symm
theorem xn0 {x : Xw} {a b : Nat} (h : x.2.2.2.2.2.2.2.2.2.2.2 = (a, b)) : b = x.2.2.2.2.2.2.2.2.2.2.2.2 := (congrArg Prod.snd h).symm
theorem xk1 {x : Xw} {a b k : Nat} (h : x.2.2.2.2.2.2.2.2.2.2.2 = (a, b)) (hk : k ≤ a) : k ≤ x.2.2.2.2.2.2.2.2.2.2.2.1 := by rw [← xk0 h]; exact hk
theorem xn1 {x : Xw} {a b k : Nat} (h : x.2.2.2.2.2.2.2.2.2.2.2 = (a, b)) (hk : k ≤ b) : k ≤ x.2.2.2.2.2.2.2.2.2.2.2.2 := by rw [← xn0 h]; exact hk
theorem bz0 : bz 0 = true := by decide
theorem bz1 : bz 1 = true := by decide
theorem i32_of (a : Int32) : Int32.ofInt a.toInt = a := by simp
theorem ts_out {a : Int32} {lo hi : Int} (h : ∀ z : Int, lo ≤ z → z ≤ hi → a ≠ Int32.ofInt z) : a.toInt < lo ∨ hi < a.toInt := by
  rcases Int.lt_or_le a.toInt lo with h1 | h1
  · exact Or.inl h1
  · rcases Int.lt_or_le hi a.toInt with h2 | h2
    · exact Or.inr h2
    · exact absurd (i32_of a).symm (h a.toInt h1 h2)
theorem r_widen {k' n' : Nat} {st : List Value} (h1 : k ≤ k') (h2 : n ≤ n') (kk : Sw g x out M k' n' pc lv st comp) : Sw g x out M k n pc lv st comp := by
  intro r hr H locs ls hP hS hl
  exact W.widen h1 h2 (kk r hr H locs ls hP hS hl)
theorem r_istore_n0 (C : Cw g x cc own nL ret d) {kf : Fin 4} {i : Nat} {a : Int32} {lv' : List (Nat × Value)} (hd : decode cc pc = .ok (.istore_n kf, 1)) (hi : (kf : Nat) = i) (hn : i < nL) (hl2 : (i, Value.int a) :: lv.filter (fun q => !(q.1 == i) && !(q.1 + 1 == i && q.2.category == 2)) = lv') (kk : Sw g x out M k n (pc + 1) lv' rest comp) : Sw g x out M k n pc lv (.int a :: rest) comp := by
  obtain ⟨hx, hb, hml, hown, hts, hK, hD, hSK, hR, hlk, hrt, hnl⟩ := C
  intro r hr H locs ls hP hS hl
  subst hnl
  exact lv_istore_n hx hb hd hi hl hn hl2 (fun ls2 hl3 => kk r hr H locs ls2 hP hS hl3)
theorem r_istore0 (C : Cw g x cc own nL ret d) {i : Nat} {a : Int32} {lv' : List (Nat × Value)} (hd : decode cc pc = .ok (.istore i, 2)) (hn : i < nL) (hl2 : (i, Value.int a) :: lv.filter (fun q => !(q.1 == i) && !(q.1 + 1 == i && q.2.category == 2)) = lv') (kk : Sw g x out M k n (pc + 2) lv' rest comp) : Sw g x out M k n pc lv (.int a :: rest) comp := by
  obtain ⟨hx, hb, hml, hown, hts, hK, hD, hSK, hR, hlk, hrt, hnl⟩ := C
  intro r hr H locs ls hP hS hl
  subst hnl
  exact lv_istore hx hb hd hl hn hl2 (fun ls2 hl3 => kk r hr H locs ls2 hP hS hl3)
theorem r_ialdc (C : Cw g x cc own nL ret d) {κ b i N j : Nat} {ix : Int32} (hd : decode cc pc = .ok (.iaload, 1)) (hin : (κ, b, i) ∈ layW g) (he : cellW g M κ b i = .inl (gC g 0, N, .inl (M.1 κ b i))) (h : inb ix N = true) (hj : ix.toNatClampNeg = j) (kk : Sw g x out M k n (pc + 1) lv (.int (M.1 κ b i j) :: rest) comp) : Sw g x out M k n pc lv (.int ix :: .ref (gA g κ b i) :: rest) comp := by
  obtain ⟨hx, hb, hml, hown, hts, hK, hD, hSK, hR, hlk, hrt, hnl⟩ := C
  intro r hr H locs ls hP hS hl
  subst hj
  obtain ⟨q0, -, hq⟩ := wlW_get hin
  exact va_iald hx hb hK hP q0 0 (by rw [hq M, he]) rfl (inb_in h) hd (kk r hr H locs ls hP hS hl)
theorem r_zaldc (C : Cw g x cc own nL ret d) {κ b i N j : Nat} {ix : Int32} (hd : decode cc pc = .ok (.baload, 1)) (hin : (κ, b, i) ∈ layW g) (he : cellW g M κ b i = .inl (gC g 1, N, .inl (M.1 κ b i))) (h : inb ix N = true) (hj : ix.toNatClampNeg = j) (kk : Sw g x out M k n (pc + 1) lv (.int (M.1 κ b i j) :: rest) comp) : Sw g x out M k n pc lv (.int ix :: .ref (gA g κ b i) :: rest) comp := by
  obtain ⟨hx, hb, hml, hown, hts, hK, hD, hSK, hR, hlk, hrt, hnl⟩ := C
  intro r hr H locs ls hP hS hl
  subst hj
  obtain ⟨q0, -, hq⟩ := wlW_get hin
  exact va_zald hx hb hK hP q0 1 (by rw [hq M, he]) rfl (inb_in h) hd (kk r hr H locs ls hP hS hl)
theorem r_iastc (C : Cw g x cc own nL ret d) {κ b i N j : Nat} {ix : Int32} {v : Int32} {comp : Mw → Option β} (hd : decode cc pc = .ok (.iastore, 1)) (hin : (κ, b, i) ∈ layW g) (he : ∀ r f d', contW g κ b i r f d' = .inl (gC g 0, N, .inl r)) (h : inb ix N = true) (hj : ix.toNatClampNeg = j) (kk : ∀ M : Mw, Sw g x out M k n (pc + 1) lv rest (comp M)) : Sw g x out M k n pc lv (.int v :: .int ix :: .ref (gA g κ b i) :: rest) (bd (uIw M κ b i j v) comp) := by
  subst hj
  have h2 := r_iast (ix := ix) (M := M) (k := k) (n := n) (out := out) (lv := lv) (rest := rest) (v := v) C hd hin he (fun M _ => kk M)
  rw [if_pos h] at h2
  exact h2
theorem r_zretc (C : Cw g x cc own nL ret d) {a : Int32} {v : β} (hd : decode cc pc = .ok (.ireturn, 1)) (hret : ret = some .boolean) (hz : bz a = true) (ho : out v = (some (.int a), M)) (hk : k = x.2.2.2.2.2.2.2.2.2.2.2.1) (hn : n = x.2.2.2.2.2.2.2.2.2.2.2.2) : Sw g x out M k n pc lv [.int a] (some v) := by
  have h := r_zret (lv := lv) C hd hret ho hk hn
  rw [if_pos hz] at h
  exact h
theorem r_ccret (C : Cw g x cc own nL ret d) {a : Int32} {v : β} (hd : decode cc pc = .ok (.ireturn, 1)) (hret : ret = some .char) (ho : out v = (some (.int a), M)) (hk : k = x.2.2.2.2.2.2.2.2.2.2.2.1) (hn : n = x.2.2.2.2.2.2.2.2.2.2.2.2) : Sw g x out M k n pc lv [.int a] (if (a.toUInt32 % 65536).toInt32 = a then some v else none) := r_ite (fun h => r_cret C hd hret (by have h2 := pk_nc a; rw [h] at h2; exact h2) ho hk hn) (fun _ => r_none)
theorem va_ldcFw {p : Program} {l : Launch} {e : Env} {R : Room} {s : State} {m : MethodId} {args : Array Value} {below : List Frame} {meth : Method} {c : Code} {T : State} {locs : List Loc} {cells slots : Nat} (X : Stand p l e R s m args below meth c T locs cells slots) (hexec : p.tables.exec = Jvm.exec) {own : String} {index : Nat} {b : UInt32} (hown : s.vm.findClass own = some m.cls)
    (hconst : (Cond.constantFloat own index b).before args s = true) {gf : JFrame} (hg : gf.method = m) (hdg : decode c.code gf.pc = .ok (.ldc_w index, 3)) :
    ∀ target, Steps p.tables e below (T.setTop { gf with pc := gf.pc + 3, stack := .float b :: gf.stack }) target → Steps p.tables e below (T.setTop gf) target := by
  obtain ⟨k, cf, hk, hcf, hcp⟩ := Cond.constantFloat_spec hown hconst
  obtain ⟨k', hk', he⟩ := X.warmed.alike.2.2 _ _ hk
  intro target hrest
  subst hg
  jvm_step X.here [hexec, hdg, ldc_w.wp_float (s := T) (f := gf) X.here.top hk' (by rw [he]; exact hcf) hcp]
  exact hrest
theorem r_ldcfw (C : Cw g x cc own nL ret d) {idx : Nat} {v : UInt32} (hw : Jvm.Cond.constantFloat own idx v ∈ U0w) (hd : decode cc pc = .ok (.ldc_w idx, 3)) (kk : Sw g x out M k n (pc + 3) lv (.float v :: rest) comp) : Sw g x out M k n pc lv rest comp := by
  obtain ⟨hx, hb, hml, hown, hts, hK, hD, hSK, hR, hlk, hrt, hnl⟩ := C
  intro r hr H locs ls hP hS hl
  intro T hT X
  obtain ⟨t, a1, b1⟩ := kk r hr H locs ls hP hS hl T hT X
  exact ⟨t, va_ldcFw X hx hown (hts _ hw) (gf := F0 _ pc ls rest) rfl (by rw [hb]; exact hd) t a1, b1⟩
theorem r_getSV (C : Cw g x cc own nL ret d) {t idx : Nat} (hd : decode cc pc = .ok (.getfield idx, 3)) (hw : Cond.fieldLink own idx "java/lang/String" "value" "[B" ∈ U0w) (ht : t < nStW) (kk : Sw g x out M k n (pc + 3) lv (.ref (gV g t) :: rest) comp) : Sw g x out M k n pc lv (.ref (gK g t) :: rest) comp := by
  obtain ⟨hx, hb, hml, hown, hts, hK, hD, hSK, hR, hlk, hrt, hnl⟩ := C
  intro r hr H locs ls hP hS hl
  exact vk_getf hx hb (hSK.1 t ht).2.2.1 hS hown (hts _ hw) (fun _ h9 => h9) hd (kk r hr H locs ls hP hS hl)
theorem r_getSC (C : Cw g x cc own nL ret d) {t idx : Nat} (hd : decode cc pc = .ok (.getfield idx, 3)) (hw : Cond.fieldLink own idx "java/lang/String" "coder" "B" ∈ U0w) (ht : t < nStW) (kk : Sw g x out M k n (pc + 3) lv (.int 0 :: rest) comp) : Sw g x out M k n pc lv (.ref (gK g t) :: rest) comp := by
  obtain ⟨hx, hb, hml, hown, hts, hK, hD, hSK, hR, hlk, hrt, hnl⟩ := C
  intro r hr H locs ls hP hS hl
  exact vk_getf hx hb (hSK.1 t ht).2.1 hS hown (hts _ hw) (fun _ h9 => h9) hd (kk r hr H locs ls hP hS hl)
theorem r_svLen (C : Cw g x cc own nL ret d) {t : Nat} (hd : decode cc pc = .ok (.arraylength, 1)) (ht : t < nStW) (kk : Sw g x out M k n (pc + 1) lv (.int (nI (lenStW t)) :: rest) comp) : Sw g x out M k n pc lv (.ref (gV g t) :: rest) comp := by
  obtain ⟨hx, hb, hml, hown, hts, hK, hD, hSK, hR, hlk, hrt, hnl⟩ := C
  intro r hr H locs ls hP hS hl
  exact va_tlen hx hb (hSK.1 t ht).2.2.2 hS rfl hd (kk r hr H locs ls hP hS hl)
theorem r_svAt (C : Cw g x cc own nL ret d) {t : Nat} {ix : Int32} (hd : decode cc pc = .ok (.baload, 1)) (ht : t < nStW) (kk : Sw g x out M k n (pc + 1) lv (.int (chStW t ix.toNatClampNeg) :: rest) comp) : Sw g x out M k n pc lv (.int ix :: .ref (gV g t) :: rest) (if inb ix (lenStW t) then comp else none) := by
  obtain ⟨hx, hb, hml, hown, hts, hK, hD, hSK, hR, hlk, hrt, hnl⟩ := C
  intro r hr H locs ls hP hS hl
  by_cases h : inb ix (lenStW t) = true
  · rw [if_pos h] at hr
    exact va_tb hx hb (hSK.1 t ht).2.2.2 hS (inb_in h) rfl hd (kk r hr H locs ls hP hS hl)
  · rw [if_neg h] at hr
    cases hr
theorem r_gsC (C : Cw g x cc own nL ret d) {idx : Nat} (hd : decode cc pc = .ok (.getstatic idx, 3)) (hw : Cond.fieldLink own idx "java/lang/String" "COMPACT_STRINGS" "Z" ∈ U0w) (kk : Sw g x out M k n (pc + 3) lv (.int 1 :: rest) comp) : Sw g x out M k n pc lv rest comp := by
  obtain ⟨hx, hb, hml, hown, hts, hK, hD, hSK, hR, hlk, hrt, hnl⟩ := C
  intro r hr H locs ls hP hS hl
  exact va_gets hx hb hSK.2.2.1 hS hown (hts _ hw) (fun _ h9 => h9) hd (kk r hr H locs ls hP hS hl)
theorem r_gsF (C : Cw g x cc own nL ret d) {idx : Nat} (hd : decode cc pc = .ok (.getstatic idx, 3)) (hw : Cond.fieldLink own idx "jdk/internal/util/Preconditions" "SIOOBE_FORMATTER" "Ljava/util/function/BiFunction;" ∈ U0w) (kk : ∀ a : Nat, Sw g x out M k n (pc + 3) lv (.ref a :: rest) comp) (kn : Sw g x out M k n (pc + 3) lv (.null :: rest) comp) : Sw g x out M k n pc lv rest comp := by
  obtain ⟨hx, hb, hml, hown, hts, hK, hD, hSK, hR, hlk, hrt, hnl⟩ := C
  intro r hr H locs ls hP hS hl
  obtain ⟨v, hv, ha⟩ := hSK.2.2.2.1
  rcases hv with rfl | ⟨a, rfl⟩
  · exact va_gets hx hb ha hS hown (hts _ hw) (fun _ h9 => h9) hd (kn r hr H locs ls hP hS hl)
  · exact va_gets hx hb ha hS hown (hts _ hw) (fun _ h9 => h9) hd (kk a r hr H locs ls hP hS hl)
theorem r_f2bits (C : Cw g x cc own nL ret d) {idx : Nat} {a : UInt32} (hw1 : Cond.methodLink own idx ⟨"java/lang/Float", "floatToRawIntBits", "(F)I"⟩ ∈ U0w) (hw2 : Cond.native ⟨"java/lang/Float", "floatToRawIntBits", "(F)I"⟩ ∈ U0w) (hw3 : Cond.static ⟨"java/lang/Float", "floatToRawIntBits", "(F)I"⟩ ∈ U0w) (hw4 : Cond.initialized "java/lang/Float" ∈ U0w) (hd : decode cc pc = .ok (.invokestatic idx, 3)) (hdd : 1 ≤ d) (hcat : (rest.map fun v => v.category).sum ≤ 8) (kk : Sw g x out M k n (pc + 3) lv (.int a.toInt32 :: rest) comp) : Sw g x out M k n pc lv (.float a :: rest) comp := by
  obtain ⟨hx, hb, hml, hown, hts, hK, hD, hSK, hR, hlk, hrt, hnl⟩ := C
  intro r hr H locs ls hP hS hl
  exact vn_f2i hx hb (by rw [hml, ← hnl]; exact hl.1.symm) hown (hts _ hw1) (hts _ hw2) (hts _ hw3) (hts _ hw4) (by rw [hR]; exact hdd) (by rw [hR]; show _ + 15 ≤ 100 * d; omega) hd (kk r hr H locs ls hP hS hl)
theorem r_d2bits (C : Cw g x cc own nL ret d) {idx : Nat} {a : UInt64} (hw1 : Cond.methodLink own idx ⟨"java/lang/Double", "doubleToRawLongBits", "(D)J"⟩ ∈ U0w) (hw2 : Cond.native ⟨"java/lang/Double", "doubleToRawLongBits", "(D)J"⟩ ∈ U0w) (hw3 : Cond.static ⟨"java/lang/Double", "doubleToRawLongBits", "(D)J"⟩ ∈ U0w) (hw4 : Cond.initialized "java/lang/Double" ∈ U0w) (hd : decode cc pc = .ok (.invokestatic idx, 3)) (hdd : 1 ≤ d) (hcat : (rest.map fun v => v.category).sum ≤ 8) (kk : Sw g x out M k n (pc + 3) lv (.long a.toInt64 :: rest) comp) : Sw g x out M k n pc lv (.double a :: rest) comp := by
  obtain ⟨hx, hb, hml, hown, hts, hK, hD, hSK, hR, hlk, hrt, hnl⟩ := C
  intro r hr H locs ls hP hS hl
  exact vn_d2l hx hb (by rw [hml, ← hnl]; exact hl.1.symm) hown (hts _ hw1) (hts _ hw2) (hts _ hw3) (hts _ hw4) (by rw [hR]; exact hdd) (by rw [hR]; show _ + 15 ≤ 100 * d; omega) hd (kk r hr H locs ls hP hS hl)
theorem r_callN (C : Cw g x cc own nL ret d) {y : MethodName} {Cn host : String} {cc' : ByteArray} {nL' d' mc ms idx np : Nat} {ret' : Option FieldType} {As st : List Value} {α : Type} {out' : α → Option Value × Mw} {comp1 : Option α} {K : α → Option β} (hM : Kw g x.2.1 y cc' nL' ret' d' mc ms As M out' comp1) (hd : decode cc pc = .ok (.invokestatic idx, 3)) (hw1 : (own, idx, y, host) ∈ tabNestW) (hw2 : Cond.static y ∈ U0w) (hi : Mi y Cn cc' nL' ret' np) (hdd : d' + 1 ≤ d) (hnp : As.length = np) (hst : st = As.reverse ++ rest) (hcat : (rest.map fun v => v.category).sum ≤ 8) (hkc : k + mc ≤ x.2.2.2.2.2.2.2.2.2.2.2.1) (hks : n + ms ≤ x.2.2.2.2.2.2.2.2.2.2.2.2)
    (kk : ∀ r : α, comp1 = some r → Sw g x out (out' r).2 (k + mc) (n + ms) (pc + 3) lv ((out' r).1.toList ++ rest) (K r)) : Sw g x out M k n pc lv st (comp1.bind K) := by
  obtain ⟨hx, hb, hml, hown, hts, hK, hD, hSK, hR, hlk, hrt, hnl⟩ := C
  intro r hr H locs ls hP hS hl
  cases hc1 : comp1 with
  | none => rw [hc1] at hr; cases hr
  | some r1 =>
    rw [hc1] at hr
    obtain ⟨i1, i2, i3, i4, i5⟩ := hi
    have hMM := hM H.size r1 hc1
    have cwG : GoodIn U0w (Cond.code y cc' nL' ret' :: U0w) := U0w_good (fun w hw => by
      rcases List.mem_cons.mp hw with h | h
      · rw [h]; exact i1
      · exact h)
    have cb : va_CN x.2.2.2.1 x.2.2.2.2.1 x.2.2.2.2.2.2.1 own idx y host cc' nL' ret' (Cond.code y cc' nL' ret' :: U0w) { frames := d', cells := mc, slots := ms, locals := 100 * d' } mc ms np := va_cnB (R := x.2.2.2.1) np hts cwG rfl rfl rfl (hSK.2.2.2.2 _ hw1) (by rw [i3]; exact hts _ i2) i4 (by rw [hR]; exact ⟨hdd, by show 8 + (nL' + 11) + 100 * d' ≤ 100 * d; omega⟩)
    subst hst
    exact va_callG (o := out' r1) (va_runSN (n := np) (nL := nL) (As := As) (rest := rest) ⟨hx, hb, hml, hown, hts⟩ hMM ⟨cb, hts _ hw2, trivial⟩ ⟨PIw.blind, fun U hU hW => ⟨rfl, by rw [hU], by rw [hU]; exact hP, va_K.moved hW.alike hK, ⟨(hD M).1, fun _ _ _ => trivial⟩, by rw [hU]; exact SKw.warm hW ((hSK.kept (fun a h1 h2 => hS.2.1 a h1 h2)).narrow (AAw_mono hS.1))⟩⟩ rfl hnp (hl.1.trans hnl) rfl (lv_room hcat) hd (by rw [hR]; exact ⟨hkc, hks⟩)) hS (fun H1 locs1 hP1 hS1 => kk r1 hc1 r hr H1 locs1 ls hP1 hS1 hl)
theorem r_callNRi (C : Cw g x cc own nL ret d) {y : MethodName} {Cn host : String} {cc' : ByteArray} {nL' d' mc ms idx np : Nat} {ret' : Option FieldType} {As st : List Value} {comp1 : Option Int32} {K : Int32 → Option β} (hM : Kw g x.2.1 y cc' nL' ret' d' mc ms As M (fun v : Int32 => (some (.int v), M)) comp1) (hd : decode cc pc = .ok (.invokestatic idx, 3)) (hw1 : (own, idx, y, host) ∈ tabNestW) (hw2 : Cond.static y ∈ U0w) (hi : Mi y Cn cc' nL' ret' np) (hdd : d' + 1 ≤ d) (hnp : As.length = np) (hst : st = As.reverse ++ rest) (hcat : (rest.map fun v => v.category).sum ≤ 8) (hkc : k + mc ≤ x.2.2.2.2.2.2.2.2.2.2.2.1) (hks : n + ms ≤ x.2.2.2.2.2.2.2.2.2.2.2.2) (kk : ∀ v : Int32, comp1 = some v → Sw g x out M (k + mc) (n + ms) (pc + 3) lv (.int v :: rest) (K v)) : Sw g x out M k n pc lv st (comp1.bind K) := r_callN C hM hd hw1 hw2 hi hdd hnp hst hcat hkc hks kk
theorem r_callSE (C : Cw g x cc own nL ret d) {y : MethodName} {Cn : String} {cc' : ByteArray} {nL' d' mc ms idx np : Nat} {ret' : Option FieldType} {As st : List Value} {comp1 : Option Unit} {K : Unit → Option β} (hM : Kw g x.2.1 y cc' nL' ret' d' mc ms As M (fun _ : Unit => (none, M)) comp1) (hd : decode cc pc = .ok (.invokestatic idx, 3)) (hw1 : Cond.methodLink own idx y ∈ U0w) (hw2 : Cond.static y ∈ U0w) (hi : Mi y Cn cc' nL' ret' np) (hdd : d' + 1 ≤ d) (hnp : As.length = np) (hst : st = As.reverse ++ rest) (hcat : (rest.map fun v => v.category).sum ≤ 8) (hkc : k + mc ≤ x.2.2.2.2.2.2.2.2.2.2.2.1) (hks : n + ms ≤ x.2.2.2.2.2.2.2.2.2.2.2.2) (kk : ∀ v : Unit, comp1 = some v → Sw g x out M (k + mc) (n + ms) (pc + 3) lv rest (K v)) : Sw g x out M k n pc lv st (comp1.bind K) := r_callS C hM hd hw1 hw2 hi hdd hnp hst hcat hkc hks kk
theorem r_callTX {t : Nat} (C : Cw g x cc own nL ret d) {y : MethodName} {Cn : String} {cc' : ByteArray} {nL' d' mc ms idx np : Nat} {ret' : Option FieldType} {As st : List Value} {α : Type} {out' : α → Option Value × Mw} {comp1 : Option α} {K : α → Option β} (hM : Kw g x.2.1 y cc' nL' ret' d' mc ms (.ref (gK g t) :: As) M out' comp1) (hd : decode cc pc = .ok (.invokevirtual idx, 3)) (hw1 : Cond.methodLink own idx y ∈ U0w) (ht : t < nStW) (hw2 : Cond.instanceMethod y ∈ U0w) (hw3 : Cond.selects "java/lang/String" y y ∈ U0w) (hi : Mi y Cn cc' nL' ret' np) (hdd : d' + 1 ≤ d) (hnp : As.length = np) (hst : st = As.reverse ++ .ref (gK g t) :: rest) (hcat : (rest.map fun v => v.category).sum ≤ 8) (hkc : k + mc ≤ x.2.2.2.2.2.2.2.2.2.2.2.1) (hks : n + ms ≤ x.2.2.2.2.2.2.2.2.2.2.2.2)
    (kk : ∀ r : α, comp1 = some r → Sw g x out (out' r).2 (k + mc) (n + ms) (pc + 3) lv ((out' r).1.toList ++ rest) (K r)) : Sw g x out M k n pc lv st (comp1.bind K) := by
  obtain ⟨hx, hb, hml, hown, hts, hK, hD, hSK, hR, hlk, hrt, hnl⟩ := C
  intro r hr H locs ls hP hS hl
  cases hc1 : comp1 with
  | none => rw [hc1] at hr; cases hr
  | some r1 =>
    rw [hc1] at hr
    obtain ⟨i1, i2, i3, i4, i5⟩ := hi
    have hMM := hM H.size r1 hc1
    have cwG : GoodIn U0w (Cond.code y cc' nL' ret' :: U0w) := U0w_good (fun w hw => by
      rcases List.mem_cons.mp hw with h | h
      · rw [h]; exact i1
      · exact h)
    have cb : CallB x.2.2.2.1 x.2.2.2.2.1 x.2.2.2.2.2.2.1 own idx y cc' nL' ret' (Cond.code y cc' nL' ret' :: U0w) { frames := d', cells := mc, slots := ms, locals := 100 * d' } mc ms np := callB_of (R := x.2.2.2.1) np hts cwG rfl rfl rfl (by rw [i3]; exact hts _ i2) (hts _ hw1) i4 (by rw [hR]; exact ⟨hdd, by show 8 + (nL' + 11) + 100 * d' ≤ 100 * d; omega⟩)
    have hrv : ∃ cellB : Cell, H[gK g t]? = some cellB ∧ cellB.vm.isStatics = false ∧ x.2.2.2.2.1.vm.findClass "java/lang/String" = some cellB.cls := by
      obtain ⟨cell, e1, e2, e3, -⟩ := (hSK.1 t ht).1.kept (fun a h1 h2 => hS.2.1 a h1 h2)
      exact ⟨cell, e1, e2, e3⟩
    subst hst
    exact va_callG (o := out' r1) (va_runV (C := "java/lang/String") (n := np) (nL := nL) (As := As) (rest := rest) ⟨hx, hb, hml, hown, hts⟩ hMM ⟨cb, hts _ hw2, hts _ hw3⟩ ⟨PIw.blind, hrv, fun U hU hW => ⟨rfl, by rw [hU], by rw [hU]; exact hP, va_K.moved hW.alike hK, ⟨(hD M).1, fun _ _ _ => trivial⟩, by rw [hU]; exact SKw.warm hW ((hSK.kept (fun a h1 h2 => hS.2.1 a h1 h2)).narrow (AAw_mono hS.1))⟩⟩ rfl hnp (hl.1.trans hnl) rfl (lv_room hcat) hd (by rw [hR]; exact ⟨hkc, hks⟩)) hS (fun H1 locs1 hP1 hS1 => kk r1 hc1 r hr H1 locs1 ls hP1 hS1 hl)
theorem r_callTRi {t : Nat} (C : Cw g x cc own nL ret d) {y : MethodName} {Cn : String} {cc' : ByteArray} {nL' d' mc ms idx np : Nat} {ret' : Option FieldType} {As st : List Value} {comp1 : Option Int32} {K : Int32 → Option β} (hM : Kw g x.2.1 y cc' nL' ret' d' mc ms (.ref (gK g t) :: As) M (fun v : Int32 => (some (.int v), M)) comp1) (hd : decode cc pc = .ok (.invokevirtual idx, 3)) (hw1 : Cond.methodLink own idx y ∈ U0w) (ht : t < nStW) (hw2 : Cond.instanceMethod y ∈ U0w) (hw3 : Cond.selects "java/lang/String" y y ∈ U0w) (hi : Mi y Cn cc' nL' ret' np) (hdd : d' + 1 ≤ d) (hnp : As.length = np) (hst : st = As.reverse ++ .ref (gK g t) :: rest) (hcat : (rest.map fun v => v.category).sum ≤ 8) (hkc : k + mc ≤ x.2.2.2.2.2.2.2.2.2.2.2.1) (hks : n + ms ≤ x.2.2.2.2.2.2.2.2.2.2.2.2) (kk : ∀ v : Int32, comp1 = some v → Sw g x out M (k + mc) (n + ms) (pc + 3) lv (.int v :: rest) (K v)) : Sw g x out M k n pc lv st (comp1.bind K) := r_callTX C hM hd hw1 ht hw2 hw3 hi hdd hnp hst hcat hkc hks kk
set_option maxHeartbeats 4000000 in
theorem Kw.ofF {g : Gw} {l : Launch} {y : MethodName} {cc : ByteArray} {nL : Nat} {ret : Option FieldType} {d mc ms : Nat} {av : List Value} {M : Mw} {β : Type} {out : β → Option Value × Mw} {comp : Option β} {own : String} {lv0 : List (Nat × Value)} (hy : plainFor y = true) (hown : y.cls = own) (hlen : (lg_sl av).length ≤ nL) (hlv : lv_args 0 av = lv0)
    (body : ∀ x : Xw, Cw g x cc own nL ret d → x.2.1 = l → x.2.2.2.2.2.2.2.2.2.2.2 = (mc, ms) → Sw g x out M 0 0 0 lv0 [] comp) : Kw g l y cc nL ret d mc ms av M out comp := by
  intro sz r hr
  refine va_MetF (cc := cc) (maxL := nL) (ret := ret) hy rfl ?_
  intro p e s m args below meth c s₁ B hml hv
  obtain ⟨rfl, hsz, hP, hK, hD, hSK⟩ := hv
  have hts := atoms_spec (ws := .code y cc nL ret :: U0w) B.pre
  have hfc : s.vm.findClass own = some m.cls := by rw [← hown]; exact findClass_of_methodNamed B.named
  subst hsz
  have C : Cw g (p, l, e, (headSpec (Cond.code y cc nL ret :: U0w) { frames := d, cells := mc, slots := ms, locals := 100 * d }).room, s, m, av.toArray, below, meth, c, nL, mc, ms) cc own nL ret d :=
    ⟨B.exec, B.bytes, hml, hfc, fun w hw => hts w (List.mem_cons_of_mem _ hw), hK, fun M' => wlW_A _ hD, hSK, rfl, B.notSynchronized, B.returns, rfl⟩
  have hb := body _ C rfl rfl
  have hl := lv_entry av (n := nL) hlen
  rw [lg_entry_eq]
  generalize (lg_sl av ++ List.replicate (nL - (lg_sl av).length) Slot.unset).toArray = ls at hl ⊢
  rw [hlv] at hl
  exact hb r hr s.heap [] ls hP va_S.rf hl
theorem in_0 {g : Gw} {b : Nat} (hb : b < 8) : (0, b, 0) ∈ layW g := layW_mem (by decide) hb (by decide)
theorem in_1 {g : Gw} {b : Nat} (hb : b < 8) : (1, b, 0) ∈ layW g := layW_mem (by decide) hb (by decide)
theorem in_2 {g : Gw} {b : Nat} (hb : b < 8) : (2, b, 0) ∈ layW g := layW_mem (by decide) hb (by decide)
theorem in_3 {g : Gw} {b : Nat} (hb : b < 8) : (3, b, 0) ∈ layW g := layW_mem (by decide) hb (by decide)
theorem in_4 {g : Gw} {b : Nat} {i : Nat} (hb : b < 8) (hi : i < 5) : (4, b, i) ∈ layW g := layW_mem (by decide) hb hi
theorem in_5 {g : Gw} {b : Nat} (hb : b < 8) : (5, b, 0) ∈ layW g := layW_mem (by decide) hb (by decide)
theorem in_6 {g : Gw} {b : Nat} {i : Nat} (hb : b < 8) (hi : i < 5) : (6, b, i) ∈ layW g := layW_mem (by decide) hb hi
theorem in_7 {g : Gw} {b : Nat} (hb : b < 8) : (7, b, 0) ∈ layW g := layW_mem (by decide) hb (by decide)
theorem in_8 {g : Gw} {b : Nat} {i : Nat} (hb : b < 8) (hi : i < 5) : (8, b, i) ∈ layW g := layW_mem (by decide) hb hi
theorem in_9 {g : Gw} {b : Nat} (hb : b < 8) : (9, b, 0) ∈ layW g := layW_mem (by decide) hb (by decide)
theorem in_10 {g : Gw} {b : Nat} {i : Nat} (hb : b < 8) (hi : i < 5) : (10, b, i) ∈ layW g := layW_mem (by decide) hb hi
theorem in_11 {g : Gw} {b : Nat} (hb : b < 8) : (11, b, 0) ∈ layW g := layW_mem (by decide) hb (by decide)
theorem in_12 {g : Gw} {b : Nat} {i : Nat} (hb : b < 8) (hi : i < 19) : (12, b, i) ∈ layW g := layW_mem (by decide) hb hi
theorem in_13 {g : Gw} : (13, 0, 0) ∈ layW g := layW_mem (by decide) (by show 0 < 1; decide) (by decide)
theorem in_14 {g : Gw} : (14, 0, 0) ∈ layW g := layW_mem (by decide) (by show 0 < 1; decide) (by decide)
theorem in_15 {g : Gw} : (15, 0, 0) ∈ layW g := layW_mem (by decide) (by show 0 < 1; decide) (by decide)
theorem in_16 {g : Gw} : (16, 0, 0) ∈ layW g := layW_mem (by decide) (by show 0 < 1; decide) (by decide)
theorem in_17 {g : Gw} : (17, 0, 0) ∈ layW g := layW_mem (by decide) (by show 0 < 1; decide) (by decide)
theorem in_18 {g : Gw} : (18, 0, 0) ∈ layW g := layW_mem (by decide) (by show 0 < 1; decide) (by decide)
theorem in_19 {g : Gw} {i : Nat} (hi : i < 6) : (19, 0, i) ∈ layW g := layW_mem (by decide) (by show 0 < 1; decide) hi
theorem in_20 {g : Gw} : (20, 0, 0) ∈ layW g := layW_mem (by decide) (by show 0 < 1; decide) (by decide)
theorem in_21 {g : Gw} : (21, 0, 0) ∈ layW g := layW_mem (by decide) (by show 0 < 1; decide) (by decide)
theorem in_22 {g : Gw} : (22, 0, 0) ∈ layW g := layW_mem (by decide) (by show 0 < 1; decide) (by decide)
theorem in_23 {g : Gw} {b : Nat} (hb : b < 3) : (23, b, 0) ∈ layW g := layW_mem (by decide) hb (by decide)
theorem in_24 {g : Gw} {b : Nat} (hb : b < 3) : (24, b, 0) ∈ layW g := layW_mem (by decide) hb (by decide)
theorem in_25 {g : Gw} {b : Nat} {i : Nat} (hb : b < 3) (hi : i < 5) : (25, b, i) ∈ layW g := layW_mem (by decide) hb hi
theorem in_26 {g : Gw} {b : Nat} (hb : b < 3) : (26, b, 0) ∈ layW g := layW_mem (by decide) hb (by decide)
theorem in_27 {g : Gw} {b : Nat} (hb : b < 3) : (27, b, 0) ∈ layW g := layW_mem (by decide) hb (by decide)
theorem in_28 {g : Gw} {b : Nat} {i : Nat} (hb : b < 3) (hi : i < 128) : (28, b, i) ∈ layW g := layW_mem (by decide) hb hi
theorem in_29 {g : Gw} {b : Nat} (hb : b < 3) : (29, b, 0) ∈ layW g := layW_mem (by decide) hb (by decide)
theorem in_30 {g : Gw} {b : Nat} {i : Nat} (hb : b < 3) (hi : i < 5) : (30, b, i) ∈ layW g := layW_mem (by decide) hb hi
theorem in_31 {g : Gw} {b : Nat} (hb : b < 3) : (31, b, 0) ∈ layW g := layW_mem (by decide) hb (by decide)
theorem in_32 {g : Gw} {b : Nat} (hb : b < 3) : (32, b, 0) ∈ layW g := layW_mem (by decide) hb (by decide)
theorem in_33 {g : Gw} {b : Nat} (hb : b < 3) : (33, b, 0) ∈ layW g := layW_mem (by decide) hb (by decide)
theorem in_34 {g : Gw} {b : Nat} (hb : b < 3) : (34, b, 0) ∈ layW g := layW_mem (by decide) hb (by decide)
theorem in_35 {g : Gw} {b : Nat} (hb : b < 3) : (35, b, 0) ∈ layW g := layW_mem (by decide) hb (by decide)
theorem in_36 {g : Gw} : (36, 0, 0) ∈ layW g := layW_mem (by decide) (by show 0 < 1; decide) (by decide)
theorem in_37 {g : Gw} : (37, 0, 0) ∈ layW g := layW_mem (by decide) (by show 0 < 1; decide) (by decide)
theorem in_38 {g : Gw} {i : Nat} (hi : i < 5) : (38, 0, i) ∈ layW g := layW_mem (by decide) (by show 0 < 1; decide) hi
theorem in_39 {g : Gw} : (39, 0, 0) ∈ layW g := layW_mem (by decide) (by show 0 < 1; decide) (by decide)
theorem in_40 {g : Gw} {i : Nat} (hi : i < 5) : (40, 0, i) ∈ layW g := layW_mem (by decide) (by show 0 < 1; decide) hi
theorem in_41 {g : Gw} : (41, 0, 0) ∈ layW g := layW_mem (by decide) (by show 0 < 1; decide) (by decide)
theorem in_42 {g : Gw} : (42, 0, 0) ∈ layW g := layW_mem (by decide) (by show 0 < 1; decide) (by decide)
theorem in_43 {g : Gw} : (43, 0, 0) ∈ layW g := layW_mem (by decide) (by show 0 < 1; decide) (by decide)
theorem in_50 {g : Gw} : (50, 0, 0) ∈ layW g := layW_mem (by decide) (by show 0 < 1; decide) (by decide)
theorem in_51 {g : Gw} : (51, 0, 0) ∈ layW g := layW_mem (by decide) (by show 0 < 1; decide) (by decide)
theorem in_52 {g : Gw} : (52, 0, 0) ∈ layW g := layW_mem (by decide) (by show 0 < 1; decide) (by decide)
theorem in_53 {g : Gw} : (53, 0, 0) ∈ layW g := layW_mem (by decide) (by show 0 < 1; decide) (by decide)
theorem in_54 {g : Gw} : (54, 0, 0) ∈ layW g := layW_mem (by decide) (by show 0 < 1; decide) (by decide)
theorem in_55 {g : Gw} : (55, 0, 0) ∈ layW g := layW_mem (by decide) (by show 0 < 1; decide) (by decide)
theorem in_56 {g : Gw} : (56, 0, 0) ∈ layW g := layW_mem (by decide) (by show 0 < 1; decide) (by decide)
theorem in_57 {g : Gw} : (57, 0, 0) ∈ layW g := layW_mem (by decide) (by show 0 < 1; decide) (by decide)
theorem in_58 {g : Gw} : (58, 0, 0) ∈ layW g := layW_mem (by decide) (by show 0 < 1; decide) (by decide)
theorem in_59 {g : Gw} : (59, 0, 0) ∈ layW g := layW_mem (by decide) (by show 0 < 1; decide) (by decide)
theorem in_60 {g : Gw} : (60, 0, 0) ∈ layW g := layW_mem (by decide) (by show 0 < 1; decide) (by decide)
theorem in_61 {g : Gw} : (61, 0, 0) ∈ layW g := layW_mem (by decide) (by show 0 < 1; decide) (by decide)
theorem in_62 {g : Gw} : (62, 0, 0) ∈ layW g := layW_mem (by decide) (by show 0 < 1; decide) (by decide)
theorem in_63 {g : Gw} : (63, 0, 0) ∈ layW g := layW_mem (by decide) (by show 0 < 1; decide) (by decide)
theorem in_64 {g : Gw} : (64, 0, 0) ∈ layW g := layW_mem (by decide) (by show 0 < 1; decide) (by decide)
theorem in_65 {g : Gw} : (65, 0, 0) ∈ layW g := layW_mem (by decide) (by show 0 < 1; decide) (by decide)
theorem in_66 {g : Gw} : (66, 0, 0) ∈ layW g := layW_mem (by decide) (by show 0 < 1; decide) (by decide)
theorem in_67 {g : Gw} : (67, 0, 0) ∈ layW g := layW_mem (by decide) (by show 0 < 1; decide) (by decide)
theorem in_68 {g : Gw} : (68, 0, 0) ∈ layW g := layW_mem (by decide) (by show 0 < 1; decide) (by decide)
theorem in_69 {g : Gw} : (69, 0, 0) ∈ layW g := layW_mem (by decide) (by show 0 < 1; decide) (by decide)
theorem in_70 {g : Gw} : (70, 0, 0) ∈ layW g := layW_mem (by decide) (by show 0 < 1; decide) (by decide)
theorem in_71 {g : Gw} : (71, 0, 0) ∈ layW g := layW_mem (by decide) (by show 0 < 1; decide) (by decide)
theorem in_72 {g : Gw} : (72, 0, 0) ∈ layW g := layW_mem (by decide) (by show 0 < 1; decide) (by decide)
theorem in_73 {g : Gw} : (73, 0, 0) ∈ layW g := layW_mem (by decide) (by show 0 < 1; decide) (by decide)
theorem in_74 {g : Gw} : (74, 0, 0) ∈ layW g := layW_mem (by decide) (by show 0 < 1; decide) (by decide)
theorem in_75 {g : Gw} : (75, 0, 0) ∈ layW g := layW_mem (by decide) (by show 0 < 1; decide) (by decide)
theorem in_76 {g : Gw} : (76, 0, 0) ∈ layW g := layW_mem (by decide) (by show 0 < 1; decide) (by decide)
theorem in_77 {g : Gw} : (77, 0, 0) ∈ layW g := layW_mem (by decide) (by show 0 < 1; decide) (by decide)
theorem in_78 {g : Gw} : (78, 0, 0) ∈ layW g := layW_mem (by decide) (by show 0 < 1; decide) (by decide)
theorem in_79 {g : Gw} : (79, 0, 0) ∈ layW g := layW_mem (by decide) (by show 0 < 1; decide) (by decide)
theorem in_80 {g : Gw} : (80, 0, 0) ∈ layW g := layW_mem (by decide) (by show 0 < 1; decide) (by decide)
theorem in_81 {g : Gw} : (81, 0, 0) ∈ layW g := layW_mem (by decide) (by show 0 < 1; decide) (by decide)
theorem in_82 {g : Gw} : (82, 0, 0) ∈ layW g := layW_mem (by decide) (by show 0 < 1; decide) (by decide)
theorem in_83 {g : Gw} : (83, 0, 0) ∈ layW g := layW_mem (by decide) (by show 0 < 1; decide) (by decide)
theorem in_84 {g : Gw} : (84, 0, 0) ∈ layW g := layW_mem (by decide) (by show 0 < 1; decide) (by decide)
theorem in_85 {g : Gw} : (85, 0, 0) ∈ layW g := layW_mem (by decide) (by show 0 < 1; decide) (by decide)
theorem in_86 {g : Gw} : (86, 0, 0) ∈ layW g := layW_mem (by decide) (by show 0 < 1; decide) (by decide)
theorem in_87 {g : Gw} : (87, 0, 0) ∈ layW g := layW_mem (by decide) (by show 0 < 1; decide) (by decide)
theorem in_88 {g : Gw} : (88, 0, 0) ∈ layW g := layW_mem (by decide) (by show 0 < 1; decide) (by decide)
theorem in_89 {g : Gw} : (89, 0, 0) ∈ layW g := layW_mem (by decide) (by show 0 < 1; decide) (by decide)
theorem in_90 {g : Gw} : (90, 0, 0) ∈ layW g := layW_mem (by decide) (by show 0 < 1; decide) (by decide)
theorem in_91 {g : Gw} : (91, 0, 0) ∈ layW g := layW_mem (by decide) (by show 0 < 1; decide) (by decide)
theorem in_98 {g : Gw} (hb : gT g = 1) : (98, 0, 0) ∈ layW g := layW_mem (by decide) (by show 0 < gT g; rw [hb]; decide) (by decide)
theorem in_99 {g : Gw} (hb : gT g = 1) : (99, 0, 0) ∈ layW g := layW_mem (by decide) (by show 0 < gT g; rw [hb]; decide) (by decide)
