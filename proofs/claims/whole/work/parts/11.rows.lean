variable {g : Gw} {x : Xw} {cc : ByteArray} {own : String} {nL : Nat} {ret : Option FieldType} {d : Nat} {β : Type} {out : β → Option Value × Mw} {comp : Option β} {M : Mw} {k n pc : Nat} {lv : List (Nat × Value)} {rest : List Value}
/-- a value by its name -/
def bd {α β : Type} (a : α) (f : α → β) : β := f a
/-- an index in a row -/
def inb (i : Int32) (n : Nat) : Bool := decide (0 ≤ i.toInt) && decide (i.toInt < n)
theorem inb_in {i : Int32} {n : Nat} (h : inb i n = true) : vp_in i n := by
  unfold inb at h
  rw [Bool.and_eq_true, decide_eq_true_iff, decide_eq_true_iff] at h
  exact vp_in_iff.mpr h
theorem inb_lt {i : Int32} {n : Nat} (h : inb i n = true) : i.toNatClampNeg < n := Nat.not_le.mp fun q => inb_in h (Or.inr q)
/-- a truth value -/
def bz (a : Int32) : Bool := a == 0 || a == 1
theorem bz_or {a : Int32} (h : bz a = true) : a = 0 ∨ a = 1 := by
  unfold bz at h
  rw [Bool.or_eq_true, beq_iff_eq, beq_iff_eq] at h
  exact h
theorem bz_nar {a : Int32} (h : bz a = true) : narrow .boolean (.int a) = .int a ∧ fits .boolean (.int a) = true := by
  rcases bz_or h with rfl | rfl <;> decide
/-- a number that is one -/
def nf (v : UInt32) : Bool := decide (v &&& 0x7fffffff ≤ 0x7f800000)
theorem nf_n {v : UInt32} (h : nf v = true) : vf_n32 v := by
  have h2 : v &&& 0x7fffffff ≤ 0x7f800000 := by simpa [nf] using h
  exact h2
def nd (v : UInt64) : Bool := decide (v &&& 0x7fffffffffffffff ≤ 0x7ff0000000000000)
theorem nd_n {v : UInt64} (h : nd v = true) : vf_n64 v := by
  have h2 : v &&& 0x7fffffffffffffff ≤ 0x7ff0000000000000 := by simpa [nd] using h
  exact h2

theorem r_iconst (C : Cw g x cc own nL ret d) {z : Int} {v : Int32} (hd : decode cc pc = .ok (.iconst z, 1)) (hv : Int32.ofInt z = v) (kk : Sw g x out M k n (pc + 1) lv (.int v :: rest) comp) : Sw g x out M k n pc lv rest comp := by
  obtain ⟨hx, hb, hml, hown, hts, hK, hD, hSK, hR, hlk, hrt, hnl⟩ := C
  intro r hr H locs ls hP hS hl
  exact lv_iconst hx hb hd hv (kk r hr H locs ls hP hS hl)
theorem r_bipush (C : Cw g x cc own nL ret d) {z : Int} {v : Int32} (hd : decode cc pc = .ok (.bipush z, 2)) (hv : (Int8.ofInt z).toInt32 = v) (kk : Sw g x out M k n (pc + 2) lv (.int v :: rest) comp) : Sw g x out M k n pc lv rest comp := by
  obtain ⟨hx, hb, hml, hown, hts, hK, hD, hSK, hR, hlk, hrt, hnl⟩ := C
  intro r hr H locs ls hP hS hl
  exact lv_bipush hx hb hd hv (kk r hr H locs ls hP hS hl)
theorem r_sipush (C : Cw g x cc own nL ret d) {z : Int} {v : Int32} (hd : decode cc pc = .ok (.sipush z, 3)) (hv : (Int16.ofInt z).toInt32 = v) (kk : Sw g x out M k n (pc + 3) lv (.int v :: rest) comp) : Sw g x out M k n pc lv rest comp := by
  obtain ⟨hx, hb, hml, hown, hts, hK, hD, hSK, hR, hlk, hrt, hnl⟩ := C
  intro r hr H locs ls hP hS hl
  exact lv_sipush hx hb hd hv (kk r hr H locs ls hP hS hl)
theorem r_lconst (C : Cw g x cc own nL ret d) {z : Fin 2} {v : Int64} (hd : decode cc pc = .ok (.lconst z, 1)) (hv : Int64.ofNat (z : Nat) = v) (kk : Sw g x out M k n (pc + 1) lv (.long v :: rest) comp) : Sw g x out M k n pc lv rest comp := by
  obtain ⟨hx, hb, hml, hown, hts, hK, hD, hSK, hR, hlk, hrt, hnl⟩ := C
  intro r hr H locs ls hP hS hl
  exact lv_lconst hx hb hd hv (kk r hr H locs ls hP hS hl)
theorem r_fconst0 (C : Cw g x cc own nL ret d) (hd : decode cc pc = .ok (.fconst 0, 1)) (kk : Sw g x out M k n (pc + 1) lv (.float FP.fconst0 :: rest) comp) : Sw g x out M k n pc lv rest comp := by
  obtain ⟨hx, hb, hml, hown, hts, hK, hD, hSK, hR, hlk, hrt, hnl⟩ := C
  intro r hr H locs ls hP hS hl
  exact lv_fconst0 hx hb hd (kk r hr H locs ls hP hS hl)
theorem r_fconst1 (C : Cw g x cc own nL ret d) (hd : decode cc pc = .ok (.fconst 1, 1)) (kk : Sw g x out M k n (pc + 1) lv (.float FP.fconst1 :: rest) comp) : Sw g x out M k n pc lv rest comp := by
  obtain ⟨hx, hb, hml, hown, hts, hK, hD, hSK, hR, hlk, hrt, hnl⟩ := C
  intro r hr H locs ls hP hS hl
  exact lv_fconst1 hx hb hd (kk r hr H locs ls hP hS hl)
theorem r_fconst2 (C : Cw g x cc own nL ret d) (hd : decode cc pc = .ok (.fconst 2, 1)) (kk : Sw g x out M k n (pc + 1) lv (.float FP.fconst2 :: rest) comp) : Sw g x out M k n pc lv rest comp := by
  obtain ⟨hx, hb, hml, hown, hts, hK, hD, hSK, hR, hlk, hrt, hnl⟩ := C
  intro r hr H locs ls hP hS hl
  exact lv_fconst2 hx hb hd (kk r hr H locs ls hP hS hl)
theorem r_dconst0 (C : Cw g x cc own nL ret d) (hd : decode cc pc = .ok (.dconst 0, 1)) (kk : Sw g x out M k n (pc + 1) lv (.double FP.dconst0 :: rest) comp) : Sw g x out M k n pc lv rest comp := by
  obtain ⟨hx, hb, hml, hown, hts, hK, hD, hSK, hR, hlk, hrt, hnl⟩ := C
  intro r hr H locs ls hP hS hl
  exact lv_dconst0 hx hb hd (kk r hr H locs ls hP hS hl)
theorem r_dconst1 (C : Cw g x cc own nL ret d) (hd : decode cc pc = .ok (.dconst 1, 1)) (kk : Sw g x out M k n (pc + 1) lv (.double FP.dconst1 :: rest) comp) : Sw g x out M k n pc lv rest comp := by
  obtain ⟨hx, hb, hml, hown, hts, hK, hD, hSK, hR, hlk, hrt, hnl⟩ := C
  intro r hr H locs ls hP hS hl
  exact lv_dconst1 hx hb hd (kk r hr H locs ls hP hS hl)
theorem r_ldc (C : Cw g x cc own nL ret d) {idx : Nat} {v : Int32} (hw : Jvm.Cond.constant own idx v ∈ U0w) (hd : decode cc pc = .ok (.ldc idx, 2)) (kk : Sw g x out M k n (pc + 2) lv (.int v :: rest) comp) : Sw g x out M k n pc lv rest comp := by
  obtain ⟨hx, hb, hml, hown, hts, hK, hD, hSK, hR, hlk, hrt, hnl⟩ := C
  intro r hr H locs ls hP hS hl
  exact lv_ldc hx hb hown (hts _ hw) hd (kk r hr H locs ls hP hS hl)
theorem r_ldcw (C : Cw g x cc own nL ret d) {idx : Nat} {v : Int32} (hw : Jvm.Cond.constant own idx v ∈ U0w) (hd : decode cc pc = .ok (.ldc_w idx, 3)) (kk : Sw g x out M k n (pc + 3) lv (.int v :: rest) comp) : Sw g x out M k n pc lv rest comp := by
  obtain ⟨hx, hb, hml, hown, hts, hK, hD, hSK, hR, hlk, hrt, hnl⟩ := C
  intro r hr H locs ls hP hS hl
  exact lv_ldcw hx hb hown (hts _ hw) hd (kk r hr H locs ls hP hS hl)
theorem r_ldcf (C : Cw g x cc own nL ret d) {idx : Nat} {v : UInt32} (hw : Jvm.Cond.constantFloat own idx v ∈ U0w) (hd : decode cc pc = .ok (.ldc idx, 2)) (kk : Sw g x out M k n (pc + 2) lv (.float v :: rest) comp) : Sw g x out M k n pc lv rest comp := by
  obtain ⟨hx, hb, hml, hown, hts, hK, hD, hSK, hR, hlk, hrt, hnl⟩ := C
  intro r hr H locs ls hP hS hl
  exact lv_ldcf hx hb hown (hts _ hw) hd (kk r hr H locs ls hP hS hl)
theorem r_ldc2 (C : Cw g x cc own nL ret d) {idx : Nat} {v : Int64} (hw : Jvm.Cond.constantLong own idx v ∈ U0w) (hd : decode cc pc = .ok (.ldc2_w idx, 3)) (kk : Sw g x out M k n (pc + 3) lv (.long v :: rest) comp) : Sw g x out M k n pc lv rest comp := by
  obtain ⟨hx, hb, hml, hown, hts, hK, hD, hSK, hR, hlk, hrt, hnl⟩ := C
  intro r hr H locs ls hP hS hl
  exact lv_ldc2 hx hb hown (hts _ hw) hd (kk r hr H locs ls hP hS hl)
theorem r_ldc2d (C : Cw g x cc own nL ret d) {idx : Nat} {v : UInt64} (hw : Jvm.Cond.constantDouble own idx v ∈ U0w) (hd : decode cc pc = .ok (.ldc2_w idx, 3)) (kk : Sw g x out M k n (pc + 3) lv (.double v :: rest) comp) : Sw g x out M k n pc lv rest comp := by
  obtain ⟨hx, hb, hml, hown, hts, hK, hD, hSK, hR, hlk, hrt, hnl⟩ := C
  intro r hr H locs ls hP hS hl
  exact lv_ldc2d hx hb hown (hts _ hw) hd (kk r hr H locs ls hP hS hl)
theorem r_ldcS (C : Cw g x cc own nL ret d) {idx i : Nat} {tx : String} (hw : (own, idx, tx, i) ∈ tabStW) (hd : decode cc pc = .ok (.ldc idx, 2)) (kk : Sw g x out M k n (pc + 2) lv (.ref (gK g i) :: rest) comp) : Sw g x out M k n pc lv rest comp := by
  obtain ⟨hx, hb, hml, hown, hts, hK, hD, hSK, hR, hlk, hrt, hnl⟩ := C
  intro r hr H locs ls hP hS hl
  exact va_ldcS hx hb hown (hSK.2.1 _ hw) hd (kk r hr H locs ls hP hS hl)
theorem va_ldcSwI {p : Program} {l : Launch} {e : Env} {R : Room} {s : State} {m : MethodId} {args : Array Value} {below : List Frame} {meth : Method} {c : Code} {T : State} {locs : List Loc} {cells slots : Nat} (X : Stand p l e R s m args below meth c T locs cells slots) (hexec : p.tables.exec = Jvm.exec) {own text : String} {index : Nat} {a : Addr} (hown : s.vm.findClass own = some m.cls)
    (hconst : (Cond.stringRef own index text).before args s = true) (hev : (Term.string own index).eval args s none [] s = some (.ref a)) {gf : JFrame} (hg : gf.method = m) (hdg : decode c.code gf.pc = .ok (.ldc_w index, 3)) :
    ∀ target, Steps p.tables e below (T.setTop { gf with pc := gf.pc + 3, stack := .ref a :: gf.stack }) target → Steps p.tables e below (T.setTop gf) target := by
  obtain ⟨k, cf, i, a', hk, hcf, hcp, -, hr, hev'⟩ := Cond.stringRef_spec hown hconst
  cases hev.symm.trans hev'
  obtain ⟨k', hk', he⟩ := X.warmed.alike.2.2 _ _ hk
  have hr' : k'.resolved[index]? = some (some (.string a)) := by
    rcases X.warmed.entry hk hk' index with h | ⟨h, -⟩
    · rw [h]; exact hr
    · rw [hr] at h; cases h
  intro target hrest
  subst hg
  jvm_step X.here [hexec, hdg, ldc_w.wp_string (e := e) (s := T) (f := gf) X.here.top hk' (by rw [he]; exact hcf) hcp hr']
  exact hrest
theorem r_ldcSw (C : Cw g x cc own nL ret d) {idx i : Nat} {tx : String} (hw : (own, idx, tx, i) ∈ tabStW) (hd : decode cc pc = .ok (.ldc_w idx, 3)) (kk : Sw g x out M k n (pc + 3) lv (.ref (gK g i) :: rest) comp) : Sw g x out M k n pc lv rest comp := by
  obtain ⟨hx, hb, hml, hown, hts, hK, hD, hSK, hR, hlk, hrt, hnl⟩ := C
  intro r hr H locs ls hP hS hl
  intro T hT X
  obtain ⟨t, a1, b1⟩ := kk r hr H locs ls hP hS hl T hT X
  have hZ := hSK.2.1 _ hw
  exact ⟨t, va_ldcSwI X hx hown (text := tx) (a := gK g i) hZ.1 hZ.2 (gf := F0 _ pc ls rest) rfl (by rw [hb]; exact hd) t a1, b1⟩
theorem r_iload_n (C : Cw g x cc own nL ret d) {kf : Fin 4} {i : Nat} {a : Int32} (j : Nat) (hd : decode cc pc = .ok (.iload_n kf, 1)) (hi : (kf : Nat) = i) (hj : lv[j]? = some (i, .int a)) (kk : Sw g x out M k n (pc + 1) lv (.int a :: rest) comp) : Sw g x out M k n pc lv rest comp := by
  obtain ⟨hx, hb, hml, hown, hts, hK, hD, hSK, hR, hlk, hrt, hnl⟩ := C
  intro r hr H locs ls hP hS hl
  exact lv_iload_n hx hb hd hi (lv_at hl j hj) (kk r hr H locs ls hP hS hl)
theorem r_iload (C : Cw g x cc own nL ret d) {i : Nat} {a : Int32} (j : Nat) (hd : decode cc pc = .ok (.iload i, 2)) (hj : lv[j]? = some (i, .int a)) (kk : Sw g x out M k n (pc + 2) lv (.int a :: rest) comp) : Sw g x out M k n pc lv rest comp := by
  obtain ⟨hx, hb, hml, hown, hts, hK, hD, hSK, hR, hlk, hrt, hnl⟩ := C
  intro r hr H locs ls hP hS hl
  exact lv_iload hx hb hd (lv_at hl j hj) (kk r hr H locs ls hP hS hl)
theorem r_istore_n (C : Cw g x cc own nL ret d) {kf : Fin 4} {i : Nat} {a : Int32} {lv' : Int32 → List (Nat × Value)} {comp : Int32 → Option β} (hd : decode cc pc = .ok (.istore_n kf, 1)) (hi : (kf : Nat) = i) (hn : i < nL) (hl2 : ∀ a : Int32, (i, Value.int a) :: lv.filter (fun q => !(q.1 == i) && !(q.1 + 1 == i && q.2.category == 2)) = lv' a) (kk : ∀ a : Int32, Sw g x out M k n (pc + 1) (lv' a) rest (comp a)) : Sw g x out M k n pc lv (.int a :: rest) (bd a comp) := by
  obtain ⟨hx, hb, hml, hown, hts, hK, hD, hSK, hR, hlk, hrt, hnl⟩ := C
  intro r hr H locs ls hP hS hl
  subst hnl
  exact lv_istore_n hx hb hd hi hl hn (hl2 a) (fun ls2 hl3 => kk a r hr H locs ls2 hP hS hl3)
theorem r_istore (C : Cw g x cc own nL ret d) {i : Nat} {a : Int32} {lv' : Int32 → List (Nat × Value)} {comp : Int32 → Option β} (hd : decode cc pc = .ok (.istore i, 2)) (hn : i < nL) (hl2 : ∀ a : Int32, (i, Value.int a) :: lv.filter (fun q => !(q.1 == i) && !(q.1 + 1 == i && q.2.category == 2)) = lv' a) (kk : ∀ a : Int32, Sw g x out M k n (pc + 2) (lv' a) rest (comp a)) : Sw g x out M k n pc lv (.int a :: rest) (bd a comp) := by
  obtain ⟨hx, hb, hml, hown, hts, hK, hD, hSK, hR, hlk, hrt, hnl⟩ := C
  intro r hr H locs ls hP hS hl
  subst hnl
  exact lv_istore hx hb hd hl hn (hl2 a) (fun ls2 hl3 => kk a r hr H locs ls2 hP hS hl3)
theorem r_lload_n (C : Cw g x cc own nL ret d) {kf : Fin 4} {i : Nat} {a : Int64} (j : Nat) (hd : decode cc pc = .ok (.lload_n kf, 1)) (hi : (kf : Nat) = i) (hj : lv[j]? = some (i, .long a)) (kk : Sw g x out M k n (pc + 1) lv (.long a :: rest) comp) : Sw g x out M k n pc lv rest comp := by
  obtain ⟨hx, hb, hml, hown, hts, hK, hD, hSK, hR, hlk, hrt, hnl⟩ := C
  intro r hr H locs ls hP hS hl
  exact lv_lload_n hx hb hd hi (lv_at hl j hj) (kk r hr H locs ls hP hS hl)
theorem r_lload (C : Cw g x cc own nL ret d) {i : Nat} {a : Int64} (j : Nat) (hd : decode cc pc = .ok (.lload i, 2)) (hj : lv[j]? = some (i, .long a)) (kk : Sw g x out M k n (pc + 2) lv (.long a :: rest) comp) : Sw g x out M k n pc lv rest comp := by
  obtain ⟨hx, hb, hml, hown, hts, hK, hD, hSK, hR, hlk, hrt, hnl⟩ := C
  intro r hr H locs ls hP hS hl
  exact lv_lload hx hb hd (lv_at hl j hj) (kk r hr H locs ls hP hS hl)
theorem r_lstore_n (C : Cw g x cc own nL ret d) {kf : Fin 4} {i : Nat} {a : Int64} {lv' : Int64 → List (Nat × Value)} {comp : Int64 → Option β} (hd : decode cc pc = .ok (.lstore_n kf, 1)) (hi : (kf : Nat) = i) (hn : i + 1 < nL) (hl2 : ∀ a : Int64, (i, Value.long a) :: lv.filter (fun q => !(q.1 == i) && (!(q.1 == i + 1) && !(q.1 + 1 == i && q.2.category == 2))) = lv' a) (kk : ∀ a : Int64, Sw g x out M k n (pc + 1) (lv' a) rest (comp a)) : Sw g x out M k n pc lv (.long a :: rest) (bd a comp) := by
  obtain ⟨hx, hb, hml, hown, hts, hK, hD, hSK, hR, hlk, hrt, hnl⟩ := C
  intro r hr H locs ls hP hS hl
  subst hnl
  exact lv_lstore_n hx hb hd hi hl hn (hl2 a) (fun ls2 hl3 => kk a r hr H locs ls2 hP hS hl3)
theorem r_lstore (C : Cw g x cc own nL ret d) {i : Nat} {a : Int64} {lv' : Int64 → List (Nat × Value)} {comp : Int64 → Option β} (hd : decode cc pc = .ok (.lstore i, 2)) (hn : i + 1 < nL) (hl2 : ∀ a : Int64, (i, Value.long a) :: lv.filter (fun q => !(q.1 == i) && (!(q.1 == i + 1) && !(q.1 + 1 == i && q.2.category == 2))) = lv' a) (kk : ∀ a : Int64, Sw g x out M k n (pc + 2) (lv' a) rest (comp a)) : Sw g x out M k n pc lv (.long a :: rest) (bd a comp) := by
  obtain ⟨hx, hb, hml, hown, hts, hK, hD, hSK, hR, hlk, hrt, hnl⟩ := C
  intro r hr H locs ls hP hS hl
  subst hnl
  exact lv_lstore hx hb hd hl hn (hl2 a) (fun ls2 hl3 => kk a r hr H locs ls2 hP hS hl3)
theorem r_fload_n (C : Cw g x cc own nL ret d) {kf : Fin 4} {i : Nat} {a : UInt32} (j : Nat) (hd : decode cc pc = .ok (.fload_n kf, 1)) (hi : (kf : Nat) = i) (hj : lv[j]? = some (i, .float a)) (kk : Sw g x out M k n (pc + 1) lv (.float a :: rest) comp) : Sw g x out M k n pc lv rest comp := by
  obtain ⟨hx, hb, hml, hown, hts, hK, hD, hSK, hR, hlk, hrt, hnl⟩ := C
  intro r hr H locs ls hP hS hl
  exact lv_fload_n hx hb hd hi (lv_at hl j hj) (kk r hr H locs ls hP hS hl)
theorem r_fload (C : Cw g x cc own nL ret d) {i : Nat} {a : UInt32} (j : Nat) (hd : decode cc pc = .ok (.fload i, 2)) (hj : lv[j]? = some (i, .float a)) (kk : Sw g x out M k n (pc + 2) lv (.float a :: rest) comp) : Sw g x out M k n pc lv rest comp := by
  obtain ⟨hx, hb, hml, hown, hts, hK, hD, hSK, hR, hlk, hrt, hnl⟩ := C
  intro r hr H locs ls hP hS hl
  exact lv_fload hx hb hd (lv_at hl j hj) (kk r hr H locs ls hP hS hl)
theorem r_fstore_n (C : Cw g x cc own nL ret d) {kf : Fin 4} {i : Nat} {a : UInt32} {lv' : UInt32 → List (Nat × Value)} {comp : UInt32 → Option β} (hd : decode cc pc = .ok (.fstore_n kf, 1)) (hi : (kf : Nat) = i) (hn : i < nL) (hl2 : ∀ a : UInt32, (i, Value.float a) :: lv.filter (fun q => !(q.1 == i) && !(q.1 + 1 == i && q.2.category == 2)) = lv' a) (kk : ∀ a : UInt32, Sw g x out M k n (pc + 1) (lv' a) rest (comp a)) : Sw g x out M k n pc lv (.float a :: rest) (bd a comp) := by
  obtain ⟨hx, hb, hml, hown, hts, hK, hD, hSK, hR, hlk, hrt, hnl⟩ := C
  intro r hr H locs ls hP hS hl
  subst hnl
  exact lv_fstore_n hx hb hd hi hl hn (hl2 a) (fun ls2 hl3 => kk a r hr H locs ls2 hP hS hl3)
theorem r_fstore (C : Cw g x cc own nL ret d) {i : Nat} {a : UInt32} {lv' : UInt32 → List (Nat × Value)} {comp : UInt32 → Option β} (hd : decode cc pc = .ok (.fstore i, 2)) (hn : i < nL) (hl2 : ∀ a : UInt32, (i, Value.float a) :: lv.filter (fun q => !(q.1 == i) && !(q.1 + 1 == i && q.2.category == 2)) = lv' a) (kk : ∀ a : UInt32, Sw g x out M k n (pc + 2) (lv' a) rest (comp a)) : Sw g x out M k n pc lv (.float a :: rest) (bd a comp) := by
  obtain ⟨hx, hb, hml, hown, hts, hK, hD, hSK, hR, hlk, hrt, hnl⟩ := C
  intro r hr H locs ls hP hS hl
  subst hnl
  exact lv_fstore hx hb hd hl hn (hl2 a) (fun ls2 hl3 => kk a r hr H locs ls2 hP hS hl3)
theorem r_dload_n (C : Cw g x cc own nL ret d) {kf : Fin 4} {i : Nat} {a : UInt64} (j : Nat) (hd : decode cc pc = .ok (.dload_n kf, 1)) (hi : (kf : Nat) = i) (hj : lv[j]? = some (i, .double a)) (kk : Sw g x out M k n (pc + 1) lv (.double a :: rest) comp) : Sw g x out M k n pc lv rest comp := by
  obtain ⟨hx, hb, hml, hown, hts, hK, hD, hSK, hR, hlk, hrt, hnl⟩ := C
  intro r hr H locs ls hP hS hl
  exact lv_dload_n hx hb hd hi (lv_at hl j hj) (kk r hr H locs ls hP hS hl)
theorem r_dload (C : Cw g x cc own nL ret d) {i : Nat} {a : UInt64} (j : Nat) (hd : decode cc pc = .ok (.dload i, 2)) (hj : lv[j]? = some (i, .double a)) (kk : Sw g x out M k n (pc + 2) lv (.double a :: rest) comp) : Sw g x out M k n pc lv rest comp := by
  obtain ⟨hx, hb, hml, hown, hts, hK, hD, hSK, hR, hlk, hrt, hnl⟩ := C
  intro r hr H locs ls hP hS hl
  exact lv_dload hx hb hd (lv_at hl j hj) (kk r hr H locs ls hP hS hl)
theorem r_dstore_n (C : Cw g x cc own nL ret d) {kf : Fin 4} {i : Nat} {a : UInt64} {lv' : UInt64 → List (Nat × Value)} {comp : UInt64 → Option β} (hd : decode cc pc = .ok (.dstore_n kf, 1)) (hi : (kf : Nat) = i) (hn : i + 1 < nL) (hl2 : ∀ a : UInt64, (i, Value.double a) :: lv.filter (fun q => !(q.1 == i) && (!(q.1 == i + 1) && !(q.1 + 1 == i && q.2.category == 2))) = lv' a) (kk : ∀ a : UInt64, Sw g x out M k n (pc + 1) (lv' a) rest (comp a)) : Sw g x out M k n pc lv (.double a :: rest) (bd a comp) := by
  obtain ⟨hx, hb, hml, hown, hts, hK, hD, hSK, hR, hlk, hrt, hnl⟩ := C
  intro r hr H locs ls hP hS hl
  subst hnl
  exact lv_dstore_n hx hb hd hi hl hn (hl2 a) (fun ls2 hl3 => kk a r hr H locs ls2 hP hS hl3)
theorem r_dstore (C : Cw g x cc own nL ret d) {i : Nat} {a : UInt64} {lv' : UInt64 → List (Nat × Value)} {comp : UInt64 → Option β} (hd : decode cc pc = .ok (.dstore i, 2)) (hn : i + 1 < nL) (hl2 : ∀ a : UInt64, (i, Value.double a) :: lv.filter (fun q => !(q.1 == i) && (!(q.1 == i + 1) && !(q.1 + 1 == i && q.2.category == 2))) = lv' a) (kk : ∀ a : UInt64, Sw g x out M k n (pc + 2) (lv' a) rest (comp a)) : Sw g x out M k n pc lv (.double a :: rest) (bd a comp) := by
  obtain ⟨hx, hb, hml, hown, hts, hK, hD, hSK, hR, hlk, hrt, hnl⟩ := C
  intro r hr H locs ls hP hS hl
  subst hnl
  exact lv_dstore hx hb hd hl hn (hl2 a) (fun ls2 hl3 => kk a r hr H locs ls2 hP hS hl3)
theorem r_aload_n (C : Cw g x cc own nL ret d) {kf : Fin 4} {i : Nat} {a : Nat} (j : Nat) (hd : decode cc pc = .ok (.aload_n kf, 1)) (hi : (kf : Nat) = i) (hj : lv[j]? = some (i, .ref a)) (kk : Sw g x out M k n (pc + 1) lv (.ref a :: rest) comp) : Sw g x out M k n pc lv rest comp := by
  obtain ⟨hx, hb, hml, hown, hts, hK, hD, hSK, hR, hlk, hrt, hnl⟩ := C
  intro r hr H locs ls hP hS hl
  exact lv_aload_n hx hb hd hi (lv_at hl j hj) (kk r hr H locs ls hP hS hl)
theorem r_aload (C : Cw g x cc own nL ret d) {i : Nat} {a : Nat} (j : Nat) (hd : decode cc pc = .ok (.aload i, 2)) (hj : lv[j]? = some (i, .ref a)) (kk : Sw g x out M k n (pc + 2) lv (.ref a :: rest) comp) : Sw g x out M k n pc lv rest comp := by
  obtain ⟨hx, hb, hml, hown, hts, hK, hD, hSK, hR, hlk, hrt, hnl⟩ := C
  intro r hr H locs ls hP hS hl
  exact lv_aload hx hb hd (lv_at hl j hj) (kk r hr H locs ls hP hS hl)
theorem r_astore_n (C : Cw g x cc own nL ret d) {kf : Fin 4} {i : Nat} {a : Nat} {lv' : List (Nat × Value)} (hd : decode cc pc = .ok (.astore_n kf, 1)) (hi : (kf : Nat) = i) (hn : i < nL) (hl2 : (i, Value.ref a) :: lv.filter (fun q => !(q.1 == i) && !(q.1 + 1 == i && q.2.category == 2)) = lv') (kk : Sw g x out M k n (pc + 1) lv' rest comp) : Sw g x out M k n pc lv (.ref a :: rest) comp := by
  obtain ⟨hx, hb, hml, hown, hts, hK, hD, hSK, hR, hlk, hrt, hnl⟩ := C
  intro r hr H locs ls hP hS hl
  subst hnl
  exact lv_astore_n hx hb hd hi hl hn hl2 (fun ls2 hl3 => kk r hr H locs ls2 hP hS hl3)
theorem r_astore (C : Cw g x cc own nL ret d) {i : Nat} {a : Nat} {lv' : List (Nat × Value)} (hd : decode cc pc = .ok (.astore i, 2)) (hn : i < nL) (hl2 : (i, Value.ref a) :: lv.filter (fun q => !(q.1 == i) && !(q.1 + 1 == i && q.2.category == 2)) = lv') (kk : Sw g x out M k n (pc + 2) lv' rest comp) : Sw g x out M k n pc lv (.ref a :: rest) comp := by
  obtain ⟨hx, hb, hml, hown, hts, hK, hD, hSK, hR, hlk, hrt, hnl⟩ := C
  intro r hr H locs ls hP hS hl
  subst hnl
  exact lv_astore hx hb hd hl hn hl2 (fun ls2 hl3 => kk r hr H locs ls2 hP hS hl3)
theorem r_iinc (C : Cw g x cc own nL ret d) {i : Nat} {z : Int} {a c : Int32} {lv' : Int32 → List (Nat × Value)} {comp : Int32 → Option β} (j : Nat) (hd : decode cc pc = .ok (.iinc i z, 3)) (hj : lv[j]? = some (i, .int a)) (hc : Int32.ofInt z = c) (hn : i < nL) (hl2 : ∀ a : Int32, (i, Value.int a) :: lv.filter (fun q => !(q.1 == i) && !(q.1 + 1 == i && q.2.category == 2)) = lv' a) (kk : ∀ a : Int32, Sw g x out M k n (pc + 3) (lv' a) rest (comp a)) : Sw g x out M k n pc lv rest (bd (a + c) comp) := by
  obtain ⟨hx, hb, hml, hown, hts, hK, hD, hSK, hR, hlk, hrt, hnl⟩ := C
  intro r hr H locs ls hP hS hl
  subst hnl
  subst hc
  exact lv_iinc hx hb hd hl (k := j) hj rfl hn (hl2 _) (fun ls2 hl3 => kk _ r hr H locs ls2 hP hS hl3)
theorem r_bd {α : Type} {a : α} {f : α → Option β} {st : List Value} {lv : List (Nat × Value)} (kk : Sw g x out M k n pc lv st (f a)) : Sw g x out M k n pc lv st (bd a f) := kk
theorem r_bdi {a : Int32} {f : Int32 → Option β} (kk : ∀ a : Int32, Sw g x out M k n pc lv (.int a :: rest) (f a)) : Sw g x out M k n pc lv (.int a :: rest) (bd a f) := kk a
theorem r_dup (C : Cw g x cc own nL ret d) {va : Value} (hva : va.category = 1) (hd : decode cc pc = .ok (.dup, 1)) (kk : Sw g x out M k n (pc + 1) lv (va :: va :: rest) comp) : Sw g x out M k n pc lv (va :: rest) comp := by
  obtain ⟨hx, hb, hml, hown, hts, hK, hD, hSK, hR, hlk, hrt, hnl⟩ := C
  intro r hr H locs ls hP hS hl
  exact lv_dup hx hb hd hva (kk r hr H locs ls hP hS hl)
theorem r_pop (C : Cw g x cc own nL ret d) {va : Value} (hva : va.category = 1) (hd : decode cc pc = .ok (.pop, 1)) (kk : Sw g x out M k n (pc + 1) lv (rest) comp) : Sw g x out M k n pc lv (va :: rest) comp := by
  obtain ⟨hx, hb, hml, hown, hts, hK, hD, hSK, hR, hlk, hrt, hnl⟩ := C
  intro r hr H locs ls hP hS hl
  exact lv_pop hx hb hd hva (kk r hr H locs ls hP hS hl)
theorem r_dup2 (C : Cw g x cc own nL ret d) {va vb : Value} (hva : va.category = 1) (hvb : vb.category = 1) (hd : decode cc pc = .ok (.dup2, 1)) (kk : Sw g x out M k n (pc + 1) lv (va :: vb :: va :: vb :: rest) comp) : Sw g x out M k n pc lv (va :: vb :: rest) comp := by
  obtain ⟨hx, hb, hml, hown, hts, hK, hD, hSK, hR, hlk, hrt, hnl⟩ := C
  intro r hr H locs ls hP hS hl
  exact lv_dup2_11 hx hb hd hva hvb (kk r hr H locs ls hP hS hl)
theorem r_dup_x1 (C : Cw g x cc own nL ret d) {va vb : Value} (hva : va.category = 1) (hvb : vb.category = 1) (hd : decode cc pc = .ok (.dup_x1, 1)) (kk : Sw g x out M k n (pc + 1) lv (va :: vb :: va :: rest) comp) : Sw g x out M k n pc lv (va :: vb :: rest) comp := by
  obtain ⟨hx, hb, hml, hown, hts, hK, hD, hSK, hR, hlk, hrt, hnl⟩ := C
  intro r hr H locs ls hP hS hl
  exact lv_dup_x1 hx hb hd hva hvb (kk r hr H locs ls hP hS hl)
theorem r_iadd (C : Cw g x cc own nL ret d) {a b : Int32} (hd : decode cc pc = .ok (.iadd, 1)) (kk : Sw g x out M k n (pc + 1) lv (.int (a + b) :: rest) comp) : Sw g x out M k n pc lv (.int b :: .int a :: rest) comp := by
  obtain ⟨hx, hb, hml, hown, hts, hK, hD, hSK, hR, hlk, hrt, hnl⟩ := C
  intro r hr H locs ls hP hS hl
  exact lv_iadd hx hb hd (kk r hr H locs ls hP hS hl)
theorem r_isub (C : Cw g x cc own nL ret d) {a b : Int32} (hd : decode cc pc = .ok (.isub, 1)) (kk : Sw g x out M k n (pc + 1) lv (.int (a - b) :: rest) comp) : Sw g x out M k n pc lv (.int b :: .int a :: rest) comp := by
  obtain ⟨hx, hb, hml, hown, hts, hK, hD, hSK, hR, hlk, hrt, hnl⟩ := C
  intro r hr H locs ls hP hS hl
  exact lv_isub hx hb hd (kk r hr H locs ls hP hS hl)
theorem r_imul (C : Cw g x cc own nL ret d) {a b : Int32} (hd : decode cc pc = .ok (.imul, 1)) (kk : Sw g x out M k n (pc + 1) lv (.int (a * b) :: rest) comp) : Sw g x out M k n pc lv (.int b :: .int a :: rest) comp := by
  obtain ⟨hx, hb, hml, hown, hts, hK, hD, hSK, hR, hlk, hrt, hnl⟩ := C
  intro r hr H locs ls hP hS hl
  exact lv_imul hx hb hd (kk r hr H locs ls hP hS hl)
theorem r_iand (C : Cw g x cc own nL ret d) {a b : Int32} (hd : decode cc pc = .ok (.iand, 1)) (kk : Sw g x out M k n (pc + 1) lv (.int (a &&& b) :: rest) comp) : Sw g x out M k n pc lv (.int b :: .int a :: rest) comp := by
  obtain ⟨hx, hb, hml, hown, hts, hK, hD, hSK, hR, hlk, hrt, hnl⟩ := C
  intro r hr H locs ls hP hS hl
  exact lv_iand hx hb hd (kk r hr H locs ls hP hS hl)
theorem r_ior (C : Cw g x cc own nL ret d) {a b : Int32} (hd : decode cc pc = .ok (.ior, 1)) (kk : Sw g x out M k n (pc + 1) lv (.int (a ||| b) :: rest) comp) : Sw g x out M k n pc lv (.int b :: .int a :: rest) comp := by
  obtain ⟨hx, hb, hml, hown, hts, hK, hD, hSK, hR, hlk, hrt, hnl⟩ := C
  intro r hr H locs ls hP hS hl
  exact lv_ior hx hb hd (kk r hr H locs ls hP hS hl)
theorem r_ixor (C : Cw g x cc own nL ret d) {a b : Int32} (hd : decode cc pc = .ok (.ixor, 1)) (kk : Sw g x out M k n (pc + 1) lv (.int (a ^^^ b) :: rest) comp) : Sw g x out M k n pc lv (.int b :: .int a :: rest) comp := by
  obtain ⟨hx, hb, hml, hown, hts, hK, hD, hSK, hR, hlk, hrt, hnl⟩ := C
  intro r hr H locs ls hP hS hl
  exact lv_ixor hx hb hd (kk r hr H locs ls hP hS hl)
theorem r_ishl (C : Cw g x cc own nL ret d) {a b : Int32} (hd : decode cc pc = .ok (.ishl, 1)) (kk : Sw g x out M k n (pc + 1) lv (.int (a <<< (b &&& 31)) :: rest) comp) : Sw g x out M k n pc lv (.int b :: .int a :: rest) comp := by
  obtain ⟨hx, hb, hml, hown, hts, hK, hD, hSK, hR, hlk, hrt, hnl⟩ := C
  intro r hr H locs ls hP hS hl
  exact lv_ishl hx hb hd (kk r hr H locs ls hP hS hl)
theorem r_ishr (C : Cw g x cc own nL ret d) {a b : Int32} (hd : decode cc pc = .ok (.ishr, 1)) (kk : Sw g x out M k n (pc + 1) lv (.int (a >>> (b &&& 31)) :: rest) comp) : Sw g x out M k n pc lv (.int b :: .int a :: rest) comp := by
  obtain ⟨hx, hb, hml, hown, hts, hK, hD, hSK, hR, hlk, hrt, hnl⟩ := C
  intro r hr H locs ls hP hS hl
  exact lv_ishr hx hb hd (kk r hr H locs ls hP hS hl)
theorem r_iushr (C : Cw g x cc own nL ret d) {a b : Int32} (hd : decode cc pc = .ok (.iushr, 1)) (kk : Sw g x out M k n (pc + 1) lv (.int ((a.toUInt32 >>> (b.toUInt32 &&& Int32.toUInt32 31)).toInt32) :: rest) comp) : Sw g x out M k n pc lv (.int b :: .int a :: rest) comp := by
  obtain ⟨hx, hb, hml, hown, hts, hK, hD, hSK, hR, hlk, hrt, hnl⟩ := C
  intro r hr H locs ls hP hS hl
  exact lv_iushr hx hb hd rfl (kk r hr H locs ls hP hS hl)
theorem r_ineg (C : Cw g x cc own nL ret d) {a : Int32} (hd : decode cc pc = .ok (.ineg, 1)) (kk : Sw g x out M k n (pc + 1) lv (.int (-a) :: rest) comp) : Sw g x out M k n pc lv (.int a :: rest) comp := by
  obtain ⟨hx, hb, hml, hown, hts, hK, hD, hSK, hR, hlk, hrt, hnl⟩ := C
  intro r hr H locs ls hP hS hl
  exact lv_ineg hx hb hd (kk r hr H locs ls hP hS hl)
theorem r_idiv (C : Cw g x cc own nL ret d) {a b : Int32} (hd : decode cc pc = .ok (.idiv, 1)) (kk : ¬ b = 0 → Sw g x out M k n (pc + 1) lv (.int (a / b) :: rest) comp) : Sw g x out M k n pc lv (.int b :: .int a :: rest) (if b = 0 then none else comp) := by
  obtain ⟨hx, hb, hml, hown, hts, hK, hD, hSK, hR, hlk, hrt, hnl⟩ := C
  intro r hr H locs ls hP hS hl
  by_cases h : b = 0
  · rw [if_pos h] at hr
    cases hr
  · rw [if_neg h] at hr
    exact lv_idiv hx hb hd h (kk h r hr H locs ls hP hS hl)
theorem r_irem (C : Cw g x cc own nL ret d) {a b : Int32} (hd : decode cc pc = .ok (.irem, 1)) (kk : ¬ b = 0 → Sw g x out M k n (pc + 1) lv (.int (a - a / b * b) :: rest) comp) : Sw g x out M k n pc lv (.int b :: .int a :: rest) (if b = 0 then none else comp) := by
  obtain ⟨hx, hb, hml, hown, hts, hK, hD, hSK, hR, hlk, hrt, hnl⟩ := C
  intro r hr H locs ls hP hS hl
  by_cases h : b = 0
  · rw [if_pos h] at hr
    cases hr
  · rw [if_neg h] at hr
    exact lv_irem hx hb hd h (kk h r hr H locs ls hP hS hl)
theorem r_fadd (C : Cw g x cc own nL ret d) {a b : UInt32} (hd : decode cc pc = .ok (.fadd, 1)) (kk : Sw g x out M k n (pc + 1) lv (.float (FP.fadd a b) :: rest) comp) : Sw g x out M k n pc lv (.float b :: .float a :: rest) (if nf (FP.fadd a b) then comp else none) := by
  obtain ⟨hx, hb, hml, hown, hts, hK, hD, hSK, hR, hlk, hrt, hnl⟩ := C
  intro r hr H locs ls hP hS hl
  by_cases h : nf (FP.fadd a b) = true
  · rw [if_pos h] at hr
    exact lv_fadd hx hb hd (nf_n h) (kk r hr H locs ls hP hS hl)
  · rw [if_neg h] at hr
    cases hr
theorem r_fsub (C : Cw g x cc own nL ret d) {a b : UInt32} (hd : decode cc pc = .ok (.fsub, 1)) (kk : Sw g x out M k n (pc + 1) lv (.float (FP.fsub a b) :: rest) comp) : Sw g x out M k n pc lv (.float b :: .float a :: rest) (if nf (FP.fsub a b) then comp else none) := by
  obtain ⟨hx, hb, hml, hown, hts, hK, hD, hSK, hR, hlk, hrt, hnl⟩ := C
  intro r hr H locs ls hP hS hl
  by_cases h : nf (FP.fsub a b) = true
  · rw [if_pos h] at hr
    exact lv_fsub hx hb hd (nf_n h) (kk r hr H locs ls hP hS hl)
  · rw [if_neg h] at hr
    cases hr
theorem r_fmul (C : Cw g x cc own nL ret d) {a b : UInt32} (hd : decode cc pc = .ok (.fmul, 1)) (kk : Sw g x out M k n (pc + 1) lv (.float (FP.fmul a b) :: rest) comp) : Sw g x out M k n pc lv (.float b :: .float a :: rest) (if nf (FP.fmul a b) then comp else none) := by
  obtain ⟨hx, hb, hml, hown, hts, hK, hD, hSK, hR, hlk, hrt, hnl⟩ := C
  intro r hr H locs ls hP hS hl
  by_cases h : nf (FP.fmul a b) = true
  · rw [if_pos h] at hr
    exact lv_fmul hx hb hd (nf_n h) (kk r hr H locs ls hP hS hl)
  · rw [if_neg h] at hr
    cases hr
theorem r_fdiv (C : Cw g x cc own nL ret d) {a b : UInt32} (hd : decode cc pc = .ok (.fdiv, 1)) (kk : Sw g x out M k n (pc + 1) lv (.float (FP.fdiv a b) :: rest) comp) : Sw g x out M k n pc lv (.float b :: .float a :: rest) (if nf (FP.fdiv a b) then comp else none) := by
  obtain ⟨hx, hb, hml, hown, hts, hK, hD, hSK, hR, hlk, hrt, hnl⟩ := C
  intro r hr H locs ls hP hS hl
  by_cases h : nf (FP.fdiv a b) = true
  · rw [if_pos h] at hr
    exact lv_fdiv hx hb hd (nf_n h) (kk r hr H locs ls hP hS hl)
  · rw [if_neg h] at hr
    cases hr
theorem r_dadd (C : Cw g x cc own nL ret d) {a b : UInt64} (hd : decode cc pc = .ok (.dadd, 1)) (kk : Sw g x out M k n (pc + 1) lv (.double (FP.dadd a b) :: rest) comp) : Sw g x out M k n pc lv (.double b :: .double a :: rest) (if nd (FP.dadd a b) then comp else none) := by
  obtain ⟨hx, hb, hml, hown, hts, hK, hD, hSK, hR, hlk, hrt, hnl⟩ := C
  intro r hr H locs ls hP hS hl
  by_cases h : nd (FP.dadd a b) = true
  · rw [if_pos h] at hr
    exact lv_dadd hx hb hd (nd_n h) (kk r hr H locs ls hP hS hl)
  · rw [if_neg h] at hr
    cases hr
theorem r_dsub (C : Cw g x cc own nL ret d) {a b : UInt64} (hd : decode cc pc = .ok (.dsub, 1)) (kk : Sw g x out M k n (pc + 1) lv (.double (FP.dsub a b) :: rest) comp) : Sw g x out M k n pc lv (.double b :: .double a :: rest) (if nd (FP.dsub a b) then comp else none) := by
  obtain ⟨hx, hb, hml, hown, hts, hK, hD, hSK, hR, hlk, hrt, hnl⟩ := C
  intro r hr H locs ls hP hS hl
  by_cases h : nd (FP.dsub a b) = true
  · rw [if_pos h] at hr
    exact lv_dsub hx hb hd (nd_n h) (kk r hr H locs ls hP hS hl)
  · rw [if_neg h] at hr
    cases hr
theorem r_dmul (C : Cw g x cc own nL ret d) {a b : UInt64} (hd : decode cc pc = .ok (.dmul, 1)) (kk : Sw g x out M k n (pc + 1) lv (.double (FP.dmul a b) :: rest) comp) : Sw g x out M k n pc lv (.double b :: .double a :: rest) (if nd (FP.dmul a b) then comp else none) := by
  obtain ⟨hx, hb, hml, hown, hts, hK, hD, hSK, hR, hlk, hrt, hnl⟩ := C
  intro r hr H locs ls hP hS hl
  by_cases h : nd (FP.dmul a b) = true
  · rw [if_pos h] at hr
    exact lv_dmul hx hb hd (nd_n h) (kk r hr H locs ls hP hS hl)
  · rw [if_neg h] at hr
    cases hr
theorem r_ddiv (C : Cw g x cc own nL ret d) {a b : UInt64} (hd : decode cc pc = .ok (.ddiv, 1)) (kk : Sw g x out M k n (pc + 1) lv (.double (FP.ddiv a b) :: rest) comp) : Sw g x out M k n pc lv (.double b :: .double a :: rest) (if nd (FP.ddiv a b) then comp else none) := by
  obtain ⟨hx, hb, hml, hown, hts, hK, hD, hSK, hR, hlk, hrt, hnl⟩ := C
  intro r hr H locs ls hP hS hl
  by_cases h : nd (FP.ddiv a b) = true
  · rw [if_pos h] at hr
    exact lv_ddiv hx hb hd (nd_n h) (kk r hr H locs ls hP hS hl)
  · rw [if_neg h] at hr
    cases hr
theorem r_f2d (C : Cw g x cc own nL ret d) {a : UInt32} (hd : decode cc pc = .ok (.f2d, 1)) (kk : Sw g x out M k n (pc + 1) lv (.double (FP.f2d a) :: rest) comp) : Sw g x out M k n pc lv (.float a :: rest) (if nd (FP.f2d a) then comp else none) := by
  obtain ⟨hx, hb, hml, hown, hts, hK, hD, hSK, hR, hlk, hrt, hnl⟩ := C
  intro r hr H locs ls hP hS hl
  by_cases h : nd (FP.f2d a) = true
  · rw [if_pos h] at hr
    exact lv_f2d hx hb hd (nd_n h) (kk r hr H locs ls hP hS hl)
  · rw [if_neg h] at hr
    cases hr
theorem r_fcmp (C : Cw g x cc own nL ret d) {a b : UInt32} {op : CmpOp} (hd : decode cc pc = .ok (.fcmp op, 1)) (kk : Sw g x out M k n (pc + 1) lv (.int (Op.cmpValue (FP.fcmp a b) op) :: rest) comp) : Sw g x out M k n pc lv (.float b :: .float a :: rest) comp := by
  obtain ⟨hx, hb, hml, hown, hts, hK, hD, hSK, hR, hlk, hrt, hnl⟩ := C
  intro r hr H locs ls hP hS hl
  exact lv_fcmp hx hb hd (kk r hr H locs ls hP hS hl)
theorem r_dcmp (C : Cw g x cc own nL ret d) {a b : UInt64} {op : CmpOp} (hd : decode cc pc = .ok (.dcmp op, 1)) (kk : Sw g x out M k n (pc + 1) lv (.int (Op.cmpValue (FP.dcmp a b) op) :: rest) comp) : Sw g x out M k n pc lv (.double b :: .double a :: rest) comp := by
  obtain ⟨hx, hb, hml, hown, hts, hK, hD, hSK, hR, hlk, hrt, hnl⟩ := C
  intro r hr H locs ls hP hS hl
  exact lv_dcmp hx hb hd (kk r hr H locs ls hP hS hl)
theorem r_i2f (C : Cw g x cc own nL ret d) {a : Int32} (hd : decode cc pc = .ok (.i2f, 1)) (kk : Sw g x out M k n (pc + 1) lv (.float (FP.i2f a) :: rest) comp) : Sw g x out M k n pc lv (.int a :: rest) comp := by
  obtain ⟨hx, hb, hml, hown, hts, hK, hD, hSK, hR, hlk, hrt, hnl⟩ := C
  intro r hr H locs ls hP hS hl
  exact lv_i2f hx hb hd (kk r hr H locs ls hP hS hl)
theorem r_i2d (C : Cw g x cc own nL ret d) {a : Int32} (hd : decode cc pc = .ok (.i2d, 1)) (kk : Sw g x out M k n (pc + 1) lv (.double (FP.i2d a) :: rest) comp) : Sw g x out M k n pc lv (.int a :: rest) comp := by
  obtain ⟨hx, hb, hml, hown, hts, hK, hD, hSK, hR, hlk, hrt, hnl⟩ := C
  intro r hr H locs ls hP hS hl
  exact lv_i2d hx hb hd (kk r hr H locs ls hP hS hl)
theorem r_f2i (C : Cw g x cc own nL ret d) {a : UInt32} (hd : decode cc pc = .ok (.f2i, 1)) (kk : Sw g x out M k n (pc + 1) lv (.int (FP.f2i a) :: rest) comp) : Sw g x out M k n pc lv (.float a :: rest) comp := by
  obtain ⟨hx, hb, hml, hown, hts, hK, hD, hSK, hR, hlk, hrt, hnl⟩ := C
  intro r hr H locs ls hP hS hl
  exact lv_f2i hx hb hd (kk r hr H locs ls hP hS hl)
theorem r_d2l (C : Cw g x cc own nL ret d) {a : UInt64} (hd : decode cc pc = .ok (.d2l, 1)) (kk : Sw g x out M k n (pc + 1) lv (.long (FP.d2l a) :: rest) comp) : Sw g x out M k n pc lv (.double a :: rest) comp := by
  obtain ⟨hx, hb, hml, hown, hts, hK, hD, hSK, hR, hlk, hrt, hnl⟩ := C
  intro r hr H locs ls hP hS hl
  exact lv_d2l hx hb hd (kk r hr H locs ls hP hS hl)
theorem r_i2l (C : Cw g x cc own nL ret d) {a : Int32} (hd : decode cc pc = .ok (.i2l, 1)) (kk : Sw g x out M k n (pc + 1) lv (.long (a.toInt64) :: rest) comp) : Sw g x out M k n pc lv (.int a :: rest) comp := by
  obtain ⟨hx, hb, hml, hown, hts, hK, hD, hSK, hR, hlk, hrt, hnl⟩ := C
  intro r hr H locs ls hP hS hl
  exact lv_i2l hx hb hd rfl (kk r hr H locs ls hP hS hl)
theorem r_i2b (C : Cw g x cc own nL ret d) {a : Int32} (hd : decode cc pc = .ok (.i2b, 1)) (kk : Sw g x out M k n (pc + 1) lv (.int (a.toInt8.toInt32) :: rest) comp) : Sw g x out M k n pc lv (.int a :: rest) comp := by
  obtain ⟨hx, hb, hml, hown, hts, hK, hD, hSK, hR, hlk, hrt, hnl⟩ := C
  intro r hr H locs ls hP hS hl
  exact lv_i2b hx hb hd rfl (kk r hr H locs ls hP hS hl)
theorem r_i2c (C : Cw g x cc own nL ret d) {a : Int32} (hd : decode cc pc = .ok (.i2c, 1)) (kk : Sw g x out M k n (pc + 1) lv (.int ((a.toUInt32 % 65536).toInt32) :: rest) comp) : Sw g x out M k n pc lv (.int a :: rest) comp := by
  obtain ⟨hx, hb, hml, hown, hts, hK, hD, hSK, hR, hlk, hrt, hnl⟩ := C
  intro r hr H locs ls hP hS hl
  exact lv_i2c hx hb hd rfl (kk r hr H locs ls hP hS hl)
theorem r_ladd (C : Cw g x cc own nL ret d) {a b : Int64} (hd : decode cc pc = .ok (.ladd, 1)) (kk : Sw g x out M k n (pc + 1) lv (.long (a + b) :: rest) comp) : Sw g x out M k n pc lv (.long b :: .long a :: rest) comp := by
  obtain ⟨hx, hb, hml, hown, hts, hK, hD, hSK, hR, hlk, hrt, hnl⟩ := C
  intro r hr H locs ls hP hS hl
  exact lv_ladd hx hb hd (kk r hr H locs ls hP hS hl)
theorem r_lsub (C : Cw g x cc own nL ret d) {a b : Int64} (hd : decode cc pc = .ok (.lsub, 1)) (kk : Sw g x out M k n (pc + 1) lv (.long (a - b) :: rest) comp) : Sw g x out M k n pc lv (.long b :: .long a :: rest) comp := by
  obtain ⟨hx, hb, hml, hown, hts, hK, hD, hSK, hR, hlk, hrt, hnl⟩ := C
  intro r hr H locs ls hP hS hl
  exact lv_lsub hx hb hd (kk r hr H locs ls hP hS hl)
theorem r_lshl (C : Cw g x cc own nL ret d) {a : Int64} {b : Int32} (hd : decode cc pc = .ok (.lshl, 1)) (kk : Sw g x out M k n (pc + 1) lv (.long (a <<< (b.toInt64 &&& 63)) :: rest) comp) : Sw g x out M k n pc lv (.int b :: .long a :: rest) comp := by
  obtain ⟨hx, hb, hml, hown, hts, hK, hD, hSK, hR, hlk, hrt, hnl⟩ := C
  intro r hr H locs ls hP hS hl
  exact lv_lshl hx hb hd rfl (kk r hr H locs ls hP hS hl)
theorem r_lcmp (C : Cw g x cc own nL ret d) {a b : Int64} (hd : decode cc pc = .ok (.lcmp, 1)) (kk : Sw g x out M k n (pc + 1) lv (.int (lg_cmp a b) :: rest) comp) : Sw g x out M k n pc lv (.long b :: .long a :: rest) comp := by
  obtain ⟨hx, hb, hml, hown, hts, hK, hD, hSK, hR, hlk, hrt, hnl⟩ := C
  intro r hr H locs ls hP hS hl
  exact W.lcmp hx hb hd (kk r hr H locs ls hP hS hl)
theorem r_if_eq (C : Cw g x cc own nL ret d) {A B : Option β} {a : Int32} {off : Int} {tgt : Nat} (hd : decode cc pc = .ok (.ifCond .eq off, 3)) (ht : (pc : Int) + off = (tgt : Int)) (kp : a = 0 → Sw g x out M k n tgt lv rest A) (kn : ¬ a = 0 → Sw g x out M k n (pc + 3) lv rest B) : Sw g x out M k n pc lv (.int a :: rest) (if a = 0 then A else B) := by
  obtain ⟨hx, hb, hml, hown, hts, hK, hD, hSK, hR, hlk, hrt, hnl⟩ := C
  intro r hr H locs ls hP hS hl
  exact lv_if_eq hx hb hd ht (fun h => kp h r (by rw [if_pos h] at hr; exact hr) H locs ls hP hS hl) (fun h => kn h r (by rw [if_neg h] at hr; exact hr) H locs ls hP hS hl)
theorem r_icmp_eq (C : Cw g x cc own nL ret d) {A B : Option β} {a b : Int32} {off : Int} {tgt : Nat} (hd : decode cc pc = .ok (.if_icmp .eq off, 3)) (ht : (pc : Int) + off = (tgt : Int)) (kp : a = b → Sw g x out M k n tgt lv rest A) (kn : ¬ a = b → Sw g x out M k n (pc + 3) lv rest B) : Sw g x out M k n pc lv (.int b :: .int a :: rest) (if a = b then A else B) := by
  obtain ⟨hx, hb, hml, hown, hts, hK, hD, hSK, hR, hlk, hrt, hnl⟩ := C
  intro r hr H locs ls hP hS hl
  exact lv_icmp_eq hx hb hd ht (fun h => kp h r (by rw [if_pos h] at hr; exact hr) H locs ls hP hS hl) (fun h => kn h r (by rw [if_neg h] at hr; exact hr) H locs ls hP hS hl)
theorem r_if_ne (C : Cw g x cc own nL ret d) {A B : Option β} {a : Int32} {off : Int} {tgt : Nat} (hd : decode cc pc = .ok (.ifCond .ne off, 3)) (ht : (pc : Int) + off = (tgt : Int)) (kp : a = 0 → Sw g x out M k n (pc + 3) lv rest B) (kn : ¬ a = 0 → Sw g x out M k n tgt lv rest A) : Sw g x out M k n pc lv (.int a :: rest) (if a = 0 then B else A) := by
  obtain ⟨hx, hb, hml, hown, hts, hK, hD, hSK, hR, hlk, hrt, hnl⟩ := C
  intro r hr H locs ls hP hS hl
  exact lv_if_ne hx hb hd ht (fun h => kn h r (by rw [if_neg h] at hr; exact hr) H locs ls hP hS hl) (fun h => kp h r (by rw [if_pos h] at hr; exact hr) H locs ls hP hS hl)
theorem r_icmp_ne (C : Cw g x cc own nL ret d) {A B : Option β} {a b : Int32} {off : Int} {tgt : Nat} (hd : decode cc pc = .ok (.if_icmp .ne off, 3)) (ht : (pc : Int) + off = (tgt : Int)) (kp : a = b → Sw g x out M k n (pc + 3) lv rest B) (kn : ¬ a = b → Sw g x out M k n tgt lv rest A) : Sw g x out M k n pc lv (.int b :: .int a :: rest) (if a = b then B else A) := by
  obtain ⟨hx, hb, hml, hown, hts, hK, hD, hSK, hR, hlk, hrt, hnl⟩ := C
  intro r hr H locs ls hP hS hl
  exact lv_icmp_ne hx hb hd ht (fun h => kn h r (by rw [if_neg h] at hr; exact hr) H locs ls hP hS hl) (fun h => kp h r (by rw [if_pos h] at hr; exact hr) H locs ls hP hS hl)
theorem r_if_lt (C : Cw g x cc own nL ret d) {A B : Option β} {a : Int32} {off : Int} {tgt : Nat} (hd : decode cc pc = .ok (.ifCond .lt off, 3)) (ht : (pc : Int) + off = (tgt : Int)) (kp : a < 0 → Sw g x out M k n tgt lv rest A) (kn : ¬ a < 0 → Sw g x out M k n (pc + 3) lv rest B) : Sw g x out M k n pc lv (.int a :: rest) (if a < 0 then A else B) := by
  obtain ⟨hx, hb, hml, hown, hts, hK, hD, hSK, hR, hlk, hrt, hnl⟩ := C
  intro r hr H locs ls hP hS hl
  exact lv_if_lt hx hb hd ht (fun h => kp h r (by rw [if_pos h] at hr; exact hr) H locs ls hP hS hl) (fun h => kn h r (by rw [if_neg h] at hr; exact hr) H locs ls hP hS hl)
theorem r_icmp_lt (C : Cw g x cc own nL ret d) {A B : Option β} {a b : Int32} {off : Int} {tgt : Nat} (hd : decode cc pc = .ok (.if_icmp .lt off, 3)) (ht : (pc : Int) + off = (tgt : Int)) (kp : a < b → Sw g x out M k n tgt lv rest A) (kn : ¬ a < b → Sw g x out M k n (pc + 3) lv rest B) : Sw g x out M k n pc lv (.int b :: .int a :: rest) (if a < b then A else B) := by
  obtain ⟨hx, hb, hml, hown, hts, hK, hD, hSK, hR, hlk, hrt, hnl⟩ := C
  intro r hr H locs ls hP hS hl
  exact lv_icmp_lt hx hb hd ht (fun h => kp h r (by rw [if_pos h] at hr; exact hr) H locs ls hP hS hl) (fun h => kn h r (by rw [if_neg h] at hr; exact hr) H locs ls hP hS hl)
theorem r_if_ge (C : Cw g x cc own nL ret d) {A B : Option β} {a : Int32} {off : Int} {tgt : Nat} (hd : decode cc pc = .ok (.ifCond .ge off, 3)) (ht : (pc : Int) + off = (tgt : Int)) (kp : 0 ≤ a → Sw g x out M k n tgt lv rest A) (kn : ¬ 0 ≤ a → Sw g x out M k n (pc + 3) lv rest B) : Sw g x out M k n pc lv (.int a :: rest) (if 0 ≤ a then A else B) := by
  obtain ⟨hx, hb, hml, hown, hts, hK, hD, hSK, hR, hlk, hrt, hnl⟩ := C
  intro r hr H locs ls hP hS hl
  exact lv_if_ge hx hb hd ht (fun h => kp h r (by rw [if_pos h] at hr; exact hr) H locs ls hP hS hl) (fun h => kn h r (by rw [if_neg h] at hr; exact hr) H locs ls hP hS hl)
theorem r_icmp_ge (C : Cw g x cc own nL ret d) {A B : Option β} {a b : Int32} {off : Int} {tgt : Nat} (hd : decode cc pc = .ok (.if_icmp .ge off, 3)) (ht : (pc : Int) + off = (tgt : Int)) (kp : b ≤ a → Sw g x out M k n tgt lv rest A) (kn : ¬ b ≤ a → Sw g x out M k n (pc + 3) lv rest B) : Sw g x out M k n pc lv (.int b :: .int a :: rest) (if b ≤ a then A else B) := by
  obtain ⟨hx, hb, hml, hown, hts, hK, hD, hSK, hR, hlk, hrt, hnl⟩ := C
  intro r hr H locs ls hP hS hl
  exact lv_icmp_ge hx hb hd ht (fun h => kp h r (by rw [if_pos h] at hr; exact hr) H locs ls hP hS hl) (fun h => kn h r (by rw [if_neg h] at hr; exact hr) H locs ls hP hS hl)
theorem r_if_gt (C : Cw g x cc own nL ret d) {A B : Option β} {a : Int32} {off : Int} {tgt : Nat} (hd : decode cc pc = .ok (.ifCond .gt off, 3)) (ht : (pc : Int) + off = (tgt : Int)) (kp : 0 < a → Sw g x out M k n tgt lv rest A) (kn : ¬ 0 < a → Sw g x out M k n (pc + 3) lv rest B) : Sw g x out M k n pc lv (.int a :: rest) (if 0 < a then A else B) := by
  obtain ⟨hx, hb, hml, hown, hts, hK, hD, hSK, hR, hlk, hrt, hnl⟩ := C
  intro r hr H locs ls hP hS hl
  exact lv_if_gt hx hb hd ht (fun h => kp h r (by rw [if_pos h] at hr; exact hr) H locs ls hP hS hl) (fun h => kn h r (by rw [if_neg h] at hr; exact hr) H locs ls hP hS hl)
theorem r_icmp_gt (C : Cw g x cc own nL ret d) {A B : Option β} {a b : Int32} {off : Int} {tgt : Nat} (hd : decode cc pc = .ok (.if_icmp .gt off, 3)) (ht : (pc : Int) + off = (tgt : Int)) (kp : b < a → Sw g x out M k n tgt lv rest A) (kn : ¬ b < a → Sw g x out M k n (pc + 3) lv rest B) : Sw g x out M k n pc lv (.int b :: .int a :: rest) (if b < a then A else B) := by
  obtain ⟨hx, hb, hml, hown, hts, hK, hD, hSK, hR, hlk, hrt, hnl⟩ := C
  intro r hr H locs ls hP hS hl
  exact lv_icmp_gt hx hb hd ht (fun h => kp h r (by rw [if_pos h] at hr; exact hr) H locs ls hP hS hl) (fun h => kn h r (by rw [if_neg h] at hr; exact hr) H locs ls hP hS hl)
theorem r_if_le (C : Cw g x cc own nL ret d) {A B : Option β} {a : Int32} {off : Int} {tgt : Nat} (hd : decode cc pc = .ok (.ifCond .le off, 3)) (ht : (pc : Int) + off = (tgt : Int)) (kp : a ≤ 0 → Sw g x out M k n tgt lv rest A) (kn : ¬ a ≤ 0 → Sw g x out M k n (pc + 3) lv rest B) : Sw g x out M k n pc lv (.int a :: rest) (if a ≤ 0 then A else B) := by
  obtain ⟨hx, hb, hml, hown, hts, hK, hD, hSK, hR, hlk, hrt, hnl⟩ := C
  intro r hr H locs ls hP hS hl
  exact lv_if_le hx hb hd ht (fun h => kp h r (by rw [if_pos h] at hr; exact hr) H locs ls hP hS hl) (fun h => kn h r (by rw [if_neg h] at hr; exact hr) H locs ls hP hS hl)
theorem r_icmp_le (C : Cw g x cc own nL ret d) {A B : Option β} {a b : Int32} {off : Int} {tgt : Nat} (hd : decode cc pc = .ok (.if_icmp .le off, 3)) (ht : (pc : Int) + off = (tgt : Int)) (kp : a ≤ b → Sw g x out M k n tgt lv rest A) (kn : ¬ a ≤ b → Sw g x out M k n (pc + 3) lv rest B) : Sw g x out M k n pc lv (.int b :: .int a :: rest) (if a ≤ b then A else B) := by
  obtain ⟨hx, hb, hml, hown, hts, hK, hD, hSK, hR, hlk, hrt, hnl⟩ := C
  intro r hr H locs ls hP hS hl
  exact lv_icmp_le hx hb hd ht (fun h => kp h r (by rw [if_pos h] at hr; exact hr) H locs ls hP hS hl) (fun h => kn h r (by rw [if_neg h] at hr; exact hr) H locs ls hP hS hl)
theorem r_goto (C : Cw g x cc own nL ret d) {off : Int} {tgt : Nat} (hd : decode cc pc = .ok (.goto off, 3)) (ht : (pc : Int) + off = (tgt : Int)) (kk : Sw g x out M k n tgt lv rest comp) : Sw g x out M k n pc lv rest comp := by
  obtain ⟨hx, hb, hml, hown, hts, hK, hD, hSK, hR, hlk, hrt, hnl⟩ := C
  intro r hr H locs ls hP hS hl
  exact lv_goto hx hb hd ht (kk r hr H locs ls hP hS hl)
theorem r_ite {c : Prop} [Decidable c] {A B : Option β} {st : List Value} (kp : c → Sw g x out M k n pc lv st A) (kn : ¬ c → Sw g x out M k n pc lv st B) : Sw g x out M k n pc lv st (if c then A else B) := by
  by_cases h : c
  · rw [if_pos h]
    exact kp h
  · rw [if_neg h]
    exact kn h
theorem r_tsIn (C : Cw g x cc own nL ret d) {dflt lo hi : Int} {offs : Array Int} {len : Nat} {a v : Int32} {off : Int} {tgt : Nat} (hd : decode cc pc = .ok (.tableswitch dflt lo hi offs, len)) (ha : a = v) (h1 : ¬ v.toInt < lo) (h2 : ¬ hi < v.toInt) (ho : offs[(v.toInt - lo).toNat]? = some off) (ht : (pc : Int) + off = (tgt : Int)) (kk : Sw g x out M k n tgt lv rest comp) : Sw g x out M k n pc lv (.int a :: rest) comp := by
  obtain ⟨hx, hb, hml, hown, hts, hK, hD, hSK, hR, hlk, hrt, hnl⟩ := C
  intro r hr H locs ls hP hS hl
  subst ha
  exact lv_tableIn hx hb hd h1 h2 ho ht (kk r hr H locs ls hP hS hl)
theorem r_tsOut (C : Cw g x cc own nL ret d) {dflt lo hi : Int} {offs : Array Int} {len : Nat} {a : Int32} {tgt : Nat} (hd : decode cc pc = .ok (.tableswitch dflt lo hi offs, len)) (h : a.toInt < lo ∨ hi < a.toInt) (ht : (pc : Int) + dflt = (tgt : Int)) (kk : Sw g x out M k n tgt lv rest comp) : Sw g x out M k n pc lv (.int a :: rest) comp := by
  obtain ⟨hx, hb, hml, hown, hts, hK, hD, hSK, hR, hlk, hrt, hnl⟩ := C
  intro r hr H locs ls hP hS hl
  exact lv_tableOut hx hb hd h ht (kk r hr H locs ls hP hS hl)
theorem r_lv {lv' : List (Nat × Value)} {st : List Value} (ks : List Nat) (hl2 : lv_pick lv ks = lv') (kk : Sw g x out M k n pc lv' st comp) : Sw g x out M k n pc lv st comp := by
  intro r hr H locs ls hP hS hl
  exact kk r hr H locs ls hP hS (lv_sub hl ks hl2)
theorem r_none {st : List Value} : Sw g x out M k n pc lv st none := by
  intro r hr
  cases hr
theorem r_alen (C : Cw g x cc own nL ret d) {κ b i N t0 : Nat} {cA : ClassId} {y : vp_A} {ty : FieldType} (hin : (κ, b, i) ∈ layW g) (he : cellW g M κ b i = .inl (cA, y)) (ht : (tyW g)[t0]? = some (cA, ty)) {v : Int32} (hv : Int32.ofNat y.1 = v) (hd : decode cc pc = .ok (.arraylength, 1)) (kk : Sw g x out M k n (pc + 1) lv (.int v :: rest) comp) : Sw g x out M k n pc lv (.ref (gA g κ b i) :: rest) comp := by
  obtain ⟨hx, hb, hml, hown, hts, hK, hD, hSK, hR, hlk, hrt, hnl⟩ := C
  intro r hr H locs ls hP hS hl
  obtain ⟨q0, -, hq⟩ := wlW_get hin
  exact va_alen hx hb hK hP q0 t0 (by rw [hq M, he]) ht hv hd (kk r hr H locs ls hP hS hl)
theorem r_iald (C : Cw g x cc own nL ret d) {κ b i N : Nat} {ix : Int32} (hd : decode cc pc = .ok (.iaload, 1)) (hin : (κ, b, i) ∈ layW g) (he : cellW g M κ b i = .inl (gC g 0, N, .inl (M.1 κ b i))) (kk : inb ix N = true → Sw g x out M k n (pc + 1) lv (.int (M.1 κ b i ix.toNatClampNeg) :: rest) comp) : Sw g x out M k n pc lv (.int ix :: .ref (gA g κ b i) :: rest) (if inb ix N then comp else none) := by
  obtain ⟨hx, hb, hml, hown, hts, hK, hD, hSK, hR, hlk, hrt, hnl⟩ := C
  intro r hr H locs ls hP hS hl
  by_cases h : inb ix N = true
  · rw [if_pos h] at hr
    obtain ⟨q0, -, hq⟩ := wlW_get hin
    exact va_iald hx hb hK hP q0 0 (by rw [hq M, he]) rfl (inb_in h) hd (kk h r hr H locs ls hP hS hl)
  · rw [if_neg h] at hr
    cases hr
theorem r_zald (C : Cw g x cc own nL ret d) {κ b i N : Nat} {ix : Int32} (hd : decode cc pc = .ok (.baload, 1)) (hin : (κ, b, i) ∈ layW g) (he : cellW g M κ b i = .inl (gC g 1, N, .inl (M.1 κ b i))) (kk : inb ix N = true → Sw g x out M k n (pc + 1) lv (.int (M.1 κ b i ix.toNatClampNeg) :: rest) comp) : Sw g x out M k n pc lv (.int ix :: .ref (gA g κ b i) :: rest) (if inb ix N then comp else none) := by
  obtain ⟨hx, hb, hml, hown, hts, hK, hD, hSK, hR, hlk, hrt, hnl⟩ := C
  intro r hr H locs ls hP hS hl
  by_cases h : inb ix N = true
  · rw [if_pos h] at hr
    obtain ⟨q0, -, hq⟩ := wlW_get hin
    exact va_zald hx hb hK hP q0 1 (by rw [hq M, he]) rfl (inb_in h) hd (kk h r hr H locs ls hP hS hl)
  · rw [if_neg h] at hr
    cases hr
theorem r_bald (C : Cw g x cc own nL ret d) {κ b i N : Nat} {ix : Int32} (hd : decode cc pc = .ok (.baload, 1)) (hin : (κ, b, i) ∈ layW g) (he : cellW g M κ b i = .inl (gC g 2, N, .inl (M.1 κ b i))) (kk : inb ix N = true → Sw g x out M k n (pc + 1) lv (.int (M.1 κ b i ix.toNatClampNeg) :: rest) comp) : Sw g x out M k n pc lv (.int ix :: .ref (gA g κ b i) :: rest) (if inb ix N then comp else none) := by
  obtain ⟨hx, hb, hml, hown, hts, hK, hD, hSK, hR, hlk, hrt, hnl⟩ := C
  intro r hr H locs ls hP hS hl
  by_cases h : inb ix N = true
  · rw [if_pos h] at hr
    obtain ⟨q0, -, hq⟩ := wlW_get hin
    exact va_bald hx hb hK hP q0 2 (by rw [hq M, he]) rfl (inb_in h) hd (kk h r hr H locs ls hP hS hl)
  · rw [if_neg h] at hr
    cases hr
theorem r_fald (C : Cw g x cc own nL ret d) {κ b i N : Nat} {ix : Int32} (hd : decode cc pc = .ok (.faload, 1)) (hin : (κ, b, i) ∈ layW g) (he : cellW g M κ b i = .inl (gC g 3, N, .inr (.inr (.inl (M.2.1 κ b i))))) (kk : inb ix N = true → Sw g x out M k n (pc + 1) lv (.float (M.2.1 κ b i ix.toNatClampNeg) :: rest) comp) : Sw g x out M k n pc lv (.int ix :: .ref (gA g κ b i) :: rest) (if inb ix N then comp else none) := by
  obtain ⟨hx, hb, hml, hown, hts, hK, hD, hSK, hR, hlk, hrt, hnl⟩ := C
  intro r hr H locs ls hP hS hl
  by_cases h : inb ix N = true
  · rw [if_pos h] at hr
    obtain ⟨q0, -, hq⟩ := wlW_get hin
    exact va_fald hx hb hK hP q0 3 (by rw [hq M, he]) rfl (inb_in h) hd (kk h r hr H locs ls hP hS hl)
  · rw [if_neg h] at hr
    cases hr
theorem r_dald (C : Cw g x cc own nL ret d) {κ b i N : Nat} {ix : Int32} (hd : decode cc pc = .ok (.daload, 1)) (hin : (κ, b, i) ∈ layW g) (he : cellW g M κ b i = .inl (gC g 4, N, .inr (.inr (.inr (.inl (M.2.2 κ b i)))))) (kk : inb ix N = true → Sw g x out M k n (pc + 1) lv (.double (M.2.2 κ b i ix.toNatClampNeg) :: rest) comp) : Sw g x out M k n pc lv (.int ix :: .ref (gA g κ b i) :: rest) (if inb ix N then comp else none) := by
  obtain ⟨hx, hb, hml, hown, hts, hK, hD, hSK, hR, hlk, hrt, hnl⟩ := C
  intro r hr H locs ls hP hS hl
  by_cases h : inb ix N = true
  · rw [if_pos h] at hr
    obtain ⟨q0, -, hq⟩ := wlW_get hin
    exact va_dald hx hb hK hP q0 4 (by rw [hq M, he]) rfl (inb_in h) hd (kk h r hr H locs ls hP hS hl)
  · rw [if_neg h] at hr
    cases hr
theorem r_iast (C : Cw g x cc own nL ret d) {κ b i N : Nat} {ix : Int32} {v : Int32} {comp : Mw → Option β} (hd : decode cc pc = .ok (.iastore, 1)) (hin : (κ, b, i) ∈ layW g) (he : ∀ r f d', contW g κ b i r f d' = .inl (gC g 0, N, .inl r)) (kk : ∀ M : Mw, inb ix N = true → Sw g x out M k n (pc + 1) lv rest (comp M)) : Sw g x out M k n pc lv (.int v :: .int ix :: .ref (gA g κ b i) :: rest) (if inb ix N then bd (uIw M κ b i ix.toNatClampNeg v) comp else none) := by
  obtain ⟨hx, hb, hml, hown, hts, hK, hD, hSK, hR, hlk, hrt, hnl⟩ := C
  intro r hr H locs ls hP hS hl
  by_cases h : inb ix N = true
  · rw [if_pos h] at hr
    obtain ⟨q0, hq0, hq⟩ := wlW_get hin
    refine va_iast hx hb hK hP (hD M) hS q0 0 (by rw [hq M]; exact congrArg (fun e => some (gA g κ b i, e)) (he _ _ _)) rfl (inb_in h) hd (fun H1 locs1 hP1 hD1 hS1 => ?_)
    rw [wlW_set (M' := uIw M κ b i ix.toNatClampNeg v) (hD M) hq0 ((rIw_at g M κ b i _).trans (he _ _ _)) (rIw_ne g M _)] at hP1
    exact kk _ h r hr H1 locs1 ls hP1 hS1 hl
  · rw [if_neg h] at hr
    cases hr
theorem r_zast (C : Cw g x cc own nL ret d) {κ b i N : Nat} {ix : Int32} {v : Int32} {comp : Mw → Option β} (hd : decode cc pc = .ok (.bastore, 1)) (hin : (κ, b, i) ∈ layW g) (he : ∀ r f d', contW g κ b i r f d' = .inl (gC g 1, N, .inl r)) (kk : ∀ M : Mw, inb ix N = true → Sw g x out M k n (pc + 1) lv rest (comp M)) : Sw g x out M k n pc lv (.int v :: .int ix :: .ref (gA g κ b i) :: rest) (if inb ix N then bd (uIw M κ b i ix.toNatClampNeg (vp_nar .boolean v)) comp else none) := by
  obtain ⟨hx, hb, hml, hown, hts, hK, hD, hSK, hR, hlk, hrt, hnl⟩ := C
  intro r hr H locs ls hP hS hl
  by_cases h : inb ix N = true
  · rw [if_pos h] at hr
    obtain ⟨q0, hq0, hq⟩ := wlW_get hin
    refine va_zast hx hb hK hP (hD M) hS q0 1 (by rw [hq M]; exact congrArg (fun e => some (gA g κ b i, e)) (he _ _ _)) rfl (inb_in h) hd (fun H1 locs1 hP1 hD1 hS1 => ?_)
    rw [wlW_set (M' := uIw M κ b i ix.toNatClampNeg (vp_nar .boolean v)) (hD M) hq0 ((rIw_at g M κ b i _).trans (he _ _ _)) (rIw_ne g M _)] at hP1
    exact kk _ h r hr H1 locs1 ls hP1 hS1 hl
  · rw [if_neg h] at hr
    cases hr
theorem r_bast (C : Cw g x cc own nL ret d) {κ b i N : Nat} {ix : Int32} {v : Int32} {comp : Mw → Option β} (hd : decode cc pc = .ok (.bastore, 1)) (hin : (κ, b, i) ∈ layW g) (he : ∀ r f d', contW g κ b i r f d' = .inl (gC g 2, N, .inl r)) (kk : ∀ M : Mw, inb ix N = true → Sw g x out M k n (pc + 1) lv rest (comp M)) : Sw g x out M k n pc lv (.int v :: .int ix :: .ref (gA g κ b i) :: rest) (if inb ix N then bd (uIw M κ b i ix.toNatClampNeg (vp_nar .byte v)) comp else none) := by
  obtain ⟨hx, hb, hml, hown, hts, hK, hD, hSK, hR, hlk, hrt, hnl⟩ := C
  intro r hr H locs ls hP hS hl
  by_cases h : inb ix N = true
  · rw [if_pos h] at hr
    obtain ⟨q0, hq0, hq⟩ := wlW_get hin
    refine va_bast hx hb hK hP (hD M) hS q0 2 (by rw [hq M]; exact congrArg (fun e => some (gA g κ b i, e)) (he _ _ _)) rfl (inb_in h) hd (fun H1 locs1 hP1 hD1 hS1 => ?_)
    rw [wlW_set (M' := uIw M κ b i ix.toNatClampNeg (vp_nar .byte v)) (hD M) hq0 ((rIw_at g M κ b i _).trans (he _ _ _)) (rIw_ne g M _)] at hP1
    exact kk _ h r hr H1 locs1 ls hP1 hS1 hl
  · rw [if_neg h] at hr
    cases hr
theorem r_fast (C : Cw g x cc own nL ret d) {κ b i N : Nat} {ix : Int32} {v : UInt32} {comp : Mw → Option β} (hd : decode cc pc = .ok (.fastore, 1)) (hin : (κ, b, i) ∈ layW g) (he : ∀ r f d', contW g κ b i r f d' = .inl (gC g 3, N, .inr (.inr (.inl f)))) (kk : ∀ M : Mw, inb ix N = true → Sw g x out M k n (pc + 1) lv rest (comp M)) : Sw g x out M k n pc lv (.float v :: .int ix :: .ref (gA g κ b i) :: rest) (if inb ix N then bd (uFw M κ b i ix.toNatClampNeg v) comp else none) := by
  obtain ⟨hx, hb, hml, hown, hts, hK, hD, hSK, hR, hlk, hrt, hnl⟩ := C
  intro r hr H locs ls hP hS hl
  by_cases h : inb ix N = true
  · rw [if_pos h] at hr
    obtain ⟨q0, hq0, hq⟩ := wlW_get hin
    refine va_fast hx hb hK hP (hD M) hS q0 3 (by rw [hq M]; exact congrArg (fun e => some (gA g κ b i, e)) (he _ _ _)) rfl (inb_in h) hd (fun H1 locs1 hP1 hD1 hS1 => ?_)
    rw [wlW_set (M' := uFw M κ b i ix.toNatClampNeg v) (hD M) hq0 ((rFw_at g M κ b i _).trans (he _ _ _)) (rFw_ne g M _)] at hP1
    exact kk _ h r hr H1 locs1 ls hP1 hS1 hl
  · rw [if_neg h] at hr
    cases hr
theorem r_dast (C : Cw g x cc own nL ret d) {κ b i N : Nat} {ix : Int32} {v : UInt64} {comp : Mw → Option β} (hd : decode cc pc = .ok (.dastore, 1)) (hin : (κ, b, i) ∈ layW g) (he : ∀ r f d', contW g κ b i r f d' = .inl (gC g 4, N, .inr (.inr (.inr (.inl d'))))) (kk : ∀ M : Mw, inb ix N = true → Sw g x out M k n (pc + 1) lv rest (comp M)) : Sw g x out M k n pc lv (.double v :: .int ix :: .ref (gA g κ b i) :: rest) (if inb ix N then bd (uDw M κ b i ix.toNatClampNeg v) comp else none) := by
  obtain ⟨hx, hb, hml, hown, hts, hK, hD, hSK, hR, hlk, hrt, hnl⟩ := C
  intro r hr H locs ls hP hS hl
  by_cases h : inb ix N = true
  · rw [if_pos h] at hr
    obtain ⟨q0, hq0, hq⟩ := wlW_get hin
    refine va_dast hx hb hK hP (hD M) hS q0 4 (by rw [hq M]; exact congrArg (fun e => some (gA g κ b i, e)) (he _ _ _)) rfl (inb_in h) hd (fun H1 locs1 hP1 hD1 hS1 => ?_)
    rw [wlW_set (M' := uDw M κ b i ix.toNatClampNeg v) (hD M) hq0 ((rDw_at g M κ b i _).trans (he _ _ _)) (rDw_ne g M _)] at hP1
    exact kk _ h r hr H1 locs1 ls hP1 hS1 hl
  · rw [if_neg h] at hr
    cases hr
theorem r_aald (C : Cw g x cc own nL ret d) {κ b i N t0 : Nat} {ix : Int32} {cA : ClassId} {ty : FieldType} {f : Nat → Nat} (hd : decode cc pc = .ok (.aaload, 1)) (hin : (κ, b, i) ∈ layW g) (he : cellW g M κ b i = .inl (cA, N, .inr (.inr (.inr (.inr (fun j => some (f j))))))) (ht : (tyW g)[t0]? = some (cA, ty)) (hty : ty.isReference = true) (kk : inb ix N = true → Sw g x out M k n (pc + 1) lv (.ref (f ix.toNatClampNeg) :: rest) comp) : Sw g x out M k n pc lv (.int ix :: .ref (gA g κ b i) :: rest) (if inb ix N then comp else none) := by
  obtain ⟨hx, hb, hml, hown, hts, hK, hD, hSK, hR, hlk, hrt, hnl⟩ := C
  intro r hr H locs ls hP hS hl
  by_cases h : inb ix N = true
  · rw [if_pos h] at hr
    obtain ⟨q0, -, hq⟩ := wlW_get hin
    have hin2 := inb_in h
    have hlt : ix.toNatClampNeg < N := inb_lt h
    have hcell := hP q0 _ ((hq M).trans (congrArg (fun e => some (gA g κ b i, e)) he))
    exact W.aald (v := va_rf (some (f ix.toNatClampNeg))) (ty := ty) hx hb hcell ((hK.2 t0 _ ht).1 N (fun j => va_rf (some (f j)))) hty (fun q => by cases q) (by show ¬ (ix < 0 ∨ (arrV _ _ _).slots.size ≤ _); rw [arrV_size]; exact hin2) (by show (arrV _ _ _).slots[_]? = _; rw [arrV_read _ _ hlt]) rfl rfl hd (kk h r hr H locs ls hP hS hl)
  · rw [if_neg h] at hr
    cases hr
theorem r_get (C : Cw g x cc own nL ret d) {κ b i ci kf idx N : Nat} {Cn : String} {T : u_T} {fs : List Value} {v : Value} (hd : decode cc pc = .ok (.getfield idx, 3)) (hw : Cond.fieldLink own idx (T kf).1 (T kf).2.1 (T kf).2.2.1 ∈ U0w) (hin : (κ, b, i) ∈ layW g) (he : cellW g M κ b i = .inr (ci, fs)) (hc : vwCl[ci]? = some (Cn, T, N)) (hu : ∀ w ∈ u_ws Cn T N, w ∈ U0w) (hk : kf < N) (hv : fs[kf]? = some v) (kk : Sw g x out M k n (pc + 3) lv (v :: rest) comp) : Sw g x out M k n pc lv (.ref (gA g κ b i) :: rest) comp := by
  obtain ⟨hx, hb, hml, hown, hts, hK, hD, hSK, hR, hlk, hrt, hnl⟩ := C
  intro r hr H locs ls hP hS hl
  obtain ⟨q0, -, hq⟩ := wlW_get hin
  exact va_get hx hb hts hu hown hK hP q0 (by rw [hq M, he]) hc kf hk (hts _ hw) (fun _ h9 => h9) hv hd (kk r hr H locs ls hP hS hl)
theorem r_putI (C : Cw g x cc own nL ret d) {κ b i ci kf idx N : Nat} {Cn : String} {T : u_T} {fs : List Value} {v : Int32} {comp : Mw → Option β} {ty : FieldType} (ty0 : Nat → FieldType) (hd : decode cc pc = .ok (.putfield idx, 3)) (hw : Cond.fieldLink own idx (T kf).1 (T kf).2.1 (T kf).2.2.1 ∈ U0w) (hin : (κ, b, i) ∈ layW g) (he : cellW g M κ b i = .inr (ci, fs)) (he2 : cellW g (uIw M κ b i kf v) κ b i = .inr (ci, fs.set kf (.int v))) (hc : vwCl[ci]? = some (Cn, T, N)) (hu : ∀ w ∈ u_ws Cn T N, w ∈ U0w) (hty : ∀ k, k < N → parseFieldDescriptor (T k).2.2.1 = some (ty0 k)) (hnm : ∀ a, a < N → ∀ b, b < N → a ≠ b → (T a).2.1 ≠ (T b).2.1) (hk : kf < N) (hfin : (T kf).2.2.2 = false) (hpd : parseFieldDescriptor (T kf).2.2.1 = some ty) (hn : narrow ty (.int v) = .int v) (hfit : fits ty (.int v) = true) (hlen : kf < fs.length) (kk : ∀ M : Mw, Sw g x out M k n (pc + 3) lv rest (comp M)) : Sw g x out M k n pc lv (.int v :: .ref (gA g κ b i) :: rest) (bd (uIw M κ b i kf v) comp) := by
  obtain ⟨hx, hb, hml, hown, hts, hK, hD, hSK, hR, hlk, hrt, hnl⟩ := C
  intro r hr H locs ls hP hS hl
  obtain ⟨q0, hq0, hq⟩ := wlW_get hin
  refine va_put hx hb hts hu ty0 hty hnm hown hK hP (hD M) hS q0 (by rw [hq M, he]) hc kf hk (hts _ hw) (fun _ h9 => h9) hfin hpd hn hfit hlen hd (fun H1 locs1 hP1 hD1 hS1 => ?_)
  rw [wlW_set (M' := uIw M κ b i kf v) (hD M) hq0 he2 (rIw_ne g M _)] at hP1
  exact kk _ r hr H1 locs1 ls hP1 hS1 hl
theorem r_putF (C : Cw g x cc own nL ret d) {κ b i ci kf idx N : Nat} {Cn : String} {T : u_T} {fs : List Value} {v : UInt32} {comp : Mw → Option β} {ty : FieldType} (ty0 : Nat → FieldType) (hd : decode cc pc = .ok (.putfield idx, 3)) (hw : Cond.fieldLink own idx (T kf).1 (T kf).2.1 (T kf).2.2.1 ∈ U0w) (hin : (κ, b, i) ∈ layW g) (he : cellW g M κ b i = .inr (ci, fs)) (he2 : cellW g (uFw M κ b i kf v) κ b i = .inr (ci, fs.set kf (.float v))) (hc : vwCl[ci]? = some (Cn, T, N)) (hu : ∀ w ∈ u_ws Cn T N, w ∈ U0w) (hty : ∀ k, k < N → parseFieldDescriptor (T k).2.2.1 = some (ty0 k)) (hnm : ∀ a, a < N → ∀ b, b < N → a ≠ b → (T a).2.1 ≠ (T b).2.1) (hk : kf < N) (hfin : (T kf).2.2.2 = false) (hpd : parseFieldDescriptor (T kf).2.2.1 = some ty) (hn : narrow ty (.float v) = .float v) (hfit : fits ty (.float v) = true) (hlen : kf < fs.length) (kk : ∀ M : Mw, Sw g x out M k n (pc + 3) lv rest (comp M)) : Sw g x out M k n pc lv (.float v :: .ref (gA g κ b i) :: rest) (bd (uFw M κ b i kf v) comp) := by
  obtain ⟨hx, hb, hml, hown, hts, hK, hD, hSK, hR, hlk, hrt, hnl⟩ := C
  intro r hr H locs ls hP hS hl
  obtain ⟨q0, hq0, hq⟩ := wlW_get hin
  refine va_put hx hb hts hu ty0 hty hnm hown hK hP (hD M) hS q0 (by rw [hq M, he]) hc kf hk (hts _ hw) (fun _ h9 => h9) hfin hpd hn hfit hlen hd (fun H1 locs1 hP1 hD1 hS1 => ?_)
  rw [wlW_set (M' := uFw M κ b i kf v) (hD M) hq0 he2 (rFw_ne g M _)] at hP1
  exact kk _ r hr H1 locs1 ls hP1 hS1 hl
theorem r_putD (C : Cw g x cc own nL ret d) {κ b i ci kf idx N : Nat} {Cn : String} {T : u_T} {fs : List Value} {v : UInt64} {comp : Mw → Option β} {ty : FieldType} (ty0 : Nat → FieldType) (hd : decode cc pc = .ok (.putfield idx, 3)) (hw : Cond.fieldLink own idx (T kf).1 (T kf).2.1 (T kf).2.2.1 ∈ U0w) (hin : (κ, b, i) ∈ layW g) (he : cellW g M κ b i = .inr (ci, fs)) (he2 : cellW g (uDw M κ b i kf v) κ b i = .inr (ci, fs.set kf (.double v))) (hc : vwCl[ci]? = some (Cn, T, N)) (hu : ∀ w ∈ u_ws Cn T N, w ∈ U0w) (hty : ∀ k, k < N → parseFieldDescriptor (T k).2.2.1 = some (ty0 k)) (hnm : ∀ a, a < N → ∀ b, b < N → a ≠ b → (T a).2.1 ≠ (T b).2.1) (hk : kf < N) (hfin : (T kf).2.2.2 = false) (hpd : parseFieldDescriptor (T kf).2.2.1 = some ty) (hn : narrow ty (.double v) = .double v) (hfit : fits ty (.double v) = true) (hlen : kf < fs.length) (kk : ∀ M : Mw, Sw g x out M k n (pc + 3) lv rest (comp M)) : Sw g x out M k n pc lv (.double v :: .ref (gA g κ b i) :: rest) (bd (uDw M κ b i kf v) comp) := by
  obtain ⟨hx, hb, hml, hown, hts, hK, hD, hSK, hR, hlk, hrt, hnl⟩ := C
  intro r hr H locs ls hP hS hl
  obtain ⟨q0, hq0, hq⟩ := wlW_get hin
  refine va_put hx hb hts hu ty0 hty hnm hown hK hP (hD M) hS q0 (by rw [hq M, he]) hc kf hk (hts _ hw) (fun _ h9 => h9) hfin hpd hn hfit hlen hd (fun H1 locs1 hP1 hD1 hS1 => ?_)
  rw [wlW_set (M' := uDw M κ b i kf v) (hD M) hq0 he2 (rDw_ne g M _)] at hP1
  exact kk _ r hr H1 locs1 ls hP1 hS1 hl
theorem r_copy (C : Cw g x cc own nL ret d) {κ b i κ' b' i' N N' idx L : Nat} {z : Int32} {comp : Mw → Option β} (hw1 : Cond.methodLink own idx arraycopyName ∈ U0w) (hw2 : Cond.native arraycopyName ∈ U0w) (hw3 : Cond.static arraycopyName ∈ U0w) (hw4 : Cond.initialized "java/lang/System" ∈ U0w) (hd : decode cc pc = .ok (.invokestatic idx, 3)) (hin : (κ, b, i) ∈ layW g) (hin' : (κ', b', i') ∈ layW g) (he : ∀ r f d', contW g κ b i r f d' = .inl (gC g 0, N, .inl r)) (he' : ∀ r f d', contW g κ' b' i' r f d' = .inl (gC g 0, N', .inl r)) (hz : ¬ z < 0) (hL : z.toNatClampNeg = L) (h1 : L ≤ N) (h2 : L ≤ N') (hdd : 1 ≤ d) (hcat : (rest.map fun v => v.category).sum ≤ 8) (kk : ∀ M : Mw, Sw g x out M k n (pc + 3) lv rest (comp M)) : Sw g x out M k n pc lv (.int z :: .int 0 :: .ref (gA g κ' b' i') :: .int 0 :: .ref (gA g κ b i) :: rest) (bd (rIw M κ' b' i' (va_cpy (M.1 κ b i) (M.1 κ' b' i') 0 0 L)) comp) := by
  obtain ⟨hx, hb, hml, hown, hts, hK, hD, hSK, hR, hlk, hrt, hnl⟩ := C
  intro r hr H locs ls hP hS hl
  obtain ⟨q0, hq0, hq⟩ := wlW_get hin
  obtain ⟨q1, hq1, hq'⟩ := wlW_get hin'
  subst hL
  have hA1 : (0 : Int32).toNatClampNeg + z.toNatClampNeg ≤ N := by rw [sb_cl0]; omega
  have hA2 : (0 : Int32).toNatClampNeg + z.toNatClampNeg ≤ N' := by rw [sb_cl0]; omega
  have hA4 : nativeFrameWords "java/lang/System" "arraycopy" 5 ≤ 20 := by decide
  have hA3 : (rest.map fun v => v.category).sum + (nativeFrameWords "java/lang/System" "arraycopy" 5 + 11) ≤ 100 * d := by omega
  refine va_copyi hx hb (by rw [hml, ← hnl]; exact hl.1.symm) hown (hts _ hw1) (hts _ hw2) (hts _ hw3) (hts _ hw4) hK hP (hD M) hS q0 q1 0 0 (by rw [hq M]; exact congrArg (fun e => some (gA g κ b i, e)) (he _ _ _)) (by rw [hq' M]; exact congrArg (fun e => some (gA g κ' b' i', e)) (he' _ _ _)) rfl rfl rfl (by decide) (by decide) hz hA1 hA2 (fun _ _ => rfl) (by rw [hR]; exact hdd) (by rw [hR]; exact hA3) hd (fun H1 locs1 hP1 hD1 hS1 => ?_)
  rw [sb_cl0] at hP1
  rw [wlW_set (M' := rIw M κ' b' i' (va_cpy (M.1 κ b i) (M.1 κ' b' i') 0 0 z.toNatClampNeg)) (hD M) hq1 ((rIw_at g M κ' b' i' _).trans (he' _ _ _)) (rIw_ne g M _)] at hP1
  exact kk _ r hr H1 locs1 ls hP1 hS1 hl
theorem r_mmax (C : Cw g x cc own nL ret d) {idx : Nat} {a b : Int32} (hw1 : Cond.methodLink own idx Lib.Math.max.name ∈ U0w) (hw2 : Cond.static Lib.Math.max.name ∈ U0w) (hw3 : Cond.initialized "java/lang/Math" ∈ U0w) (hw4 : Cond.code Lib.Math.max.name Lib.Math.max.code 2 (some .int) ∈ U0w) (hd : decode cc pc = .ok (.invokestatic idx, 3)) (hdd : 1 ≤ d) (hcat : (rest.map fun v => v.category).sum ≤ 8) (hk : k ≤ x.2.2.2.2.2.2.2.2.2.2.2.1) (hn : n ≤ x.2.2.2.2.2.2.2.2.2.2.2.2) (kk : Sw g x out M k n (pc + 3) lv (.int (if a < b then b else a) :: rest) comp) : Sw g x out M k n pc lv (.int b :: .int a :: rest) comp := by
  obtain ⟨hx, hb, hml, hown, hts, hK, hD, hSK, hR, hlk, hrt, hnl⟩ := C
  intro r hr H locs ls hP hS hl
  exact va_mmax hx hb (by rw [hml, ← hnl]; exact hl.1.symm) hown (hts _ hw1) (hts _ hw2) (hts _ hw3) (hts _ hw4) (by rw [hR]; exact hdd) (by rw [hR]; show _ + 13 ≤ 100 * d; omega) (by rw [hR]; exact hk) (by rw [hR]; exact hn) hd (kk r hr H locs ls hP hS hl)
theorem r_mmin (C : Cw g x cc own nL ret d) {idx : Nat} {a b : Int32} (hw1 : Cond.methodLink own idx Lib.Math.min.name ∈ U0w) (hw2 : Cond.static Lib.Math.min.name ∈ U0w) (hw3 : Cond.initialized "java/lang/Math" ∈ U0w) (hw4 : Cond.code Lib.Math.min.name Lib.Math.min.code 2 (some .int) ∈ U0w) (hd : decode cc pc = .ok (.invokestatic idx, 3)) (hdd : 1 ≤ d) (hcat : (rest.map fun v => v.category).sum ≤ 8) (hk : k ≤ x.2.2.2.2.2.2.2.2.2.2.2.1) (hn : n ≤ x.2.2.2.2.2.2.2.2.2.2.2.2) (kk : Sw g x out M k n (pc + 3) lv (.int (if b < a then b else a) :: rest) comp) : Sw g x out M k n pc lv (.int b :: .int a :: rest) comp := by
  obtain ⟨hx, hb, hml, hown, hts, hK, hD, hSK, hR, hlk, hrt, hnl⟩ := C
  intro r hr H locs ls hP hS hl
  exact va_mmin hx hb (by rw [hml, ← hnl]; exact hl.1.symm) hown (hts _ hw1) (hts _ hw2) (hts _ hw3) (hts _ hw4) (by rw [hR]; exact hdd) (by rw [hR]; show _ + 13 ≤ 100 * d; omega) (by rw [hR]; exact hk) (by rw [hR]; exact hn) hd (kk r hr H locs ls hP hS hl)
theorem r_iret (C : Cw g x cc own nL ret d) {a : Int32} {v : β} (hd : decode cc pc = .ok (.ireturn, 1)) (hret : ret = some .int) (ho : out v = (some (.int a), M)) (hk : k = x.2.2.2.2.2.2.2.2.2.2.2.1) (hn : n = x.2.2.2.2.2.2.2.2.2.2.2.2) : Sw g x out M k n pc lv [.int a] (some v) := by
  obtain ⟨hx, hb, hml, hown, hts, hK, hD, hSK, hR, hlk, hrt, hnl⟩ := C
  intro r hr H locs ls hP hS hl
  subst hk
  subst hn
  cases hr
  rw [ho]
  exact W.iret hx hb (hrt.trans hret) (fun t ht hW => ⟨rfl, by rw [ht]; exact hP, hS.F ht⟩) hS.2.2 hd hlk
theorem r_lret (C : Cw g x cc own nL ret d) {a : Int64} {v : β} (hd : decode cc pc = .ok (.lreturn, 1)) (hret : ret = some .long) (ho : out v = (some (.long a), M)) (hk : k = x.2.2.2.2.2.2.2.2.2.2.2.1) (hn : n = x.2.2.2.2.2.2.2.2.2.2.2.2) : Sw g x out M k n pc lv [.long a] (some v) := by
  obtain ⟨hx, hb, hml, hown, hts, hK, hD, hSK, hR, hlk, hrt, hnl⟩ := C
  intro r hr H locs ls hP hS hl
  subst hk
  subst hn
  cases hr
  rw [ho]
  exact W.lret hx hb (hrt.trans hret) (fun t ht hW => ⟨rfl, by rw [ht]; exact hP, hS.F ht⟩) hS.2.2 hd hlk
theorem r_fret (C : Cw g x cc own nL ret d) {a : UInt32} {v : β} (hd : decode cc pc = .ok (.freturn, 1)) (hret : ret = some .float) (ho : out v = (some (.float a), M)) (hk : k = x.2.2.2.2.2.2.2.2.2.2.2.1) (hn : n = x.2.2.2.2.2.2.2.2.2.2.2.2) : Sw g x out M k n pc lv [.float a] (some v) := by
  obtain ⟨hx, hb, hml, hown, hts, hK, hD, hSK, hR, hlk, hrt, hnl⟩ := C
  intro r hr H locs ls hP hS hl
  subst hk
  subst hn
  cases hr
  rw [ho]
  exact W.fret hx hb (hrt.trans hret) (fun t ht hW => ⟨rfl, by rw [ht]; exact hP, hS.F ht⟩) hS.2.2 hd hlk
theorem r_vret (C : Cw g x cc own nL ret d)  {v : β} (hd : decode cc pc = .ok (.return_, 1)) (hret : ret = none) (ho : out v = (none, M)) (hk : k = x.2.2.2.2.2.2.2.2.2.2.2.1) (hn : n = x.2.2.2.2.2.2.2.2.2.2.2.2) : Sw g x out M k n pc lv [] (some v) := by
  obtain ⟨hx, hb, hml, hown, hts, hK, hD, hSK, hR, hlk, hrt, hnl⟩ := C
  intro r hr H locs ls hP hS hl
  subst hk
  subst hn
  cases hr
  rw [ho]
  exact W.vret hx hb (hrt.trans hret) (fun t ht hW => ⟨rfl, by rw [ht]; exact hP, hS.F ht⟩) hS.2.2 hd hlk
theorem r_aret (C : Cw g x cc own nL ret d) {a : Nat} {rt : FieldType} (hrf : (∃ n, rt = .object n) ∨ ∃ t, rt = .array t) {v : β} (hd : decode cc pc = .ok (.areturn, 1)) (hret : ret = some rt) (ho : out v = (some (.ref a), M)) (hk : k = x.2.2.2.2.2.2.2.2.2.2.2.1) (hn : n = x.2.2.2.2.2.2.2.2.2.2.2.2) : Sw g x out M k n pc lv [.ref a] (some v) := by
  obtain ⟨hx, hb, hml, hown, hts, hK, hD, hSK, hR, hlk, hrt, hnl⟩ := C
  intro r hr H locs ls hP hS hl
  subst hk
  subst hn
  cases hr
  rw [ho]
  exact W.aret hx hb (hrt.trans hret) hrf (Or.inr ⟨_, rfl⟩) (fun t ht hW => ⟨rfl, by rw [ht]; exact hP, hS.F ht⟩) hS.2.2 hd hlk
theorem r_zret (C : Cw g x cc own nL ret d) {a : Int32} {v : β} (hd : decode cc pc = .ok (.ireturn, 1)) (hret : ret = some .boolean) (ho : out v = (some (.int a), M)) (hk : k = x.2.2.2.2.2.2.2.2.2.2.2.1) (hn : n = x.2.2.2.2.2.2.2.2.2.2.2.2) : Sw g x out M k n pc lv [.int a] (if bz a then some v else none) := by
  obtain ⟨hx, hb, hml, hown, hts, hK, hD, hSK, hR, hlk, hrt, hnl⟩ := C
  intro r hr H locs ls hP hS hl
  subst hk
  subst hn
  by_cases h : bz a = true
  · rw [if_pos h] at hr
    cases hr
    rw [ho]
    exact W.zret hx hb (hrt.trans hret) (bz_nar h).1 (fun t ht hW => ⟨rfl, by rw [ht]; exact hP, hS.F ht⟩) hS.2.2 hd hlk
  · rw [if_neg h] at hr
    cases hr
theorem r_cret (C : Cw g x cc own nL ret d) {a : Int32} {v : β} (hd : decode cc pc = .ok (.ireturn, 1)) {ty : FieldType} (hret : ret = some ty) (hna : narrow ty (.int a) = .int a) (ho : out v = (some (.int a), M)) (hk : k = x.2.2.2.2.2.2.2.2.2.2.2.1) (hn : n = x.2.2.2.2.2.2.2.2.2.2.2.2) : Sw g x out M k n pc lv [.int a] (some v) := by
  obtain ⟨hx, hb, hml, hown, hts, hK, hD, hSK, hR, hlk, hrt, hnl⟩ := C
  intro r hr H locs ls hP hS hl
  subst hk
  subst hn
  cases hr
  rw [ho]
  exact W.zret hx hb (hrt.trans hret) hna (fun t ht hW => ⟨rfl, by rw [ht]; exact hP, hS.F ht⟩) hS.2.2 hd hlk
theorem PIw.blind {g : Gw} {M : Mw} {sz : Nat} {av : List Value} : FrameBlind (va_Pc av (PIw g M sz)) := by
  intro a U gf mk h
  obtain ⟨h1, h2, h3, h4, h5, h6⟩ := h
  exact ⟨h1, h2, h3, va_K.moved (u := U) (U := U.calling gf mk a) (Vm.Alike.refl U.vm) h4, h5, SKw.same (u := U) (U := U.calling gf mk a) rfl h6⟩
theorem Met.any {l : Launch} {y : MethodName} {ws : List Cond} {rm rm' : Room} {Pc : Array Value → State → Prop} {Qc : Array Value → State → Outcome → State → Prop} {mc ms : Nat} {free : Addr → Prop} (h : Met l y ws rm Pc Qc mc ms free) (e : rm = rm') : Met l y ws rm' Pc Qc mc ms free := e ▸ h
/-- behind a call -/
theorem va_callG {p : Program} {l : Launch} {e : Env} {R : Room} {s : State} {m : MethodId} {args : Array Value} {below : List Frame} {meth : Method} {c : Code} {H : Heap} {locs : List Loc} {cells slots : Nat} {Q : State → Prop} {pc : Nat} {ls : Array Slot} {rest st0 : List Value} {a : Array Value} {mc ms : Nat} {g : Gw} {o : Option Value × Mw} (hr : va_Run p l e R s m args below meth c H locs cells slots mc ms (F0 m pc ls st0) rest (Qw g H.size o a) (AAw g H.size)) (hS : va_S (AAw g s.heap.size) s.heap H locs)
    (kk : ∀ (H1 : Heap) (locs1 : List Loc), va_P (gD g) vwCl (wlW g o.2) H1 → va_S (AAw g s.heap.size) s.heap H1 locs1 → W p l e R s m args below meth c H1 locs1 (cells + mc) (slots + ms) Q (F0 m (pc + 3) ls (o.1.toList ++ rest))) : W p l e R s m args below meth c H locs cells slots Q (F0 m pc ls st0) := by
  intro T hT X
  obtain ⟨v, st₀, t, T', L, h0, X', hL, e1, e2, ⟨hv, hp, hz, hk⟩, st⟩ := hr T hT X
  cases hv
  rw [h0] at hz hk
  obtain ⟨t2, a1, b1⟩ := kk T'.heap (locs ++ L) (by rw [e1]; exact hp) ⟨Nat.le_trans hS.1 (by rw [e1]; exact hz), fun q h1 h2 => by rw [e1, hk q (Nat.lt_of_lt_of_le h1 hS.1) (fun z => h2 (AAw_mono hS.1 q z))]; exact hS.2.1 q h1 h2, fun q hq => by
      rcases List.mem_append.mp hq with h | h
      · exact hS.2.2 q h
      · exact AAw_mono hS.1 _ (hL q h)⟩ T' rfl X'
  exact ⟨t2, st t2 a1, b1⟩
theorem r_callV {κ b i ci N : Nat} {T : u_T} {fs : List Value} (C : Cw g x cc own nL ret d) {y : MethodName} {Cn : String} {cc' : ByteArray} {nL' d' mc ms idx np : Nat} {ret' : Option FieldType} {As st : List Value} {α : Type} {out' : α → Option Value × Mw} {comp1 : Option α} {K : α → Option β} (hM : Kw g x.2.1 y cc' nL' ret' d' mc ms (.ref (gA g κ b i) :: As) M out' comp1) (hd : decode cc pc = .ok (.invokevirtual idx, 3)) (hw1 : Cond.methodLink own idx y ∈ U0w) (hin : (κ, b, i) ∈ layW g) (he : cellW g M κ b i = .inr (ci, fs)) (hc : vwCl[ci]? = some (Cn, T, N)) (hw2 : Cond.instanceMethod y ∈ U0w) (hw3 : Cond.selects Cn y y ∈ U0w) (hi : Mi y Cn cc' nL' ret' np) (hdd : d' + 1 ≤ d) (hnp : As.length = np) (hst : st = As.reverse ++ .ref (gA g κ b i) :: rest) (hcat : (rest.map fun v => v.category).sum ≤ 8) (hkc : k + mc ≤ x.2.2.2.2.2.2.2.2.2.2.2.1) (hks : n + ms ≤ x.2.2.2.2.2.2.2.2.2.2.2.2)
    (kk : ∀ r : α, comp1 = some r → Sw g x out (out' r).2 (k + mc) (n + ms) (pc + 3) lv ((out' r).1.toList ++ rest) (K r)) : Sw g x out M k n pc lv st (comp1.bind K) := by
  obtain ⟨hx, hb, hml, hown, hts, hK, hD, hSK, hR, hlk, hrt, hnl⟩ := C
  intro r hr H locs ls hP hS hl
  cases hc1 : comp1 with
  | none => rw [hc1] at hr; cases hr
  | some r1 =>
    rw [hc1] at hr
    obtain ⟨i1, i2, i3, i4, i5⟩ := hi
    have hMM := hM H.size r1 hc1
    have cwG : GoodIn U0w (Cond.code y cc' nL' ret' :: U0w) := U0w_good (fun w hw => by
      rcases List.mem_cons.mp hw with h | h
      · rw [h]; exact i1
      · exact h)
    have cb : CallB x.2.2.2.1 x.2.2.2.2.1 x.2.2.2.2.2.2.1 own idx y cc' nL' ret' (Cond.code y cc' nL' ret' :: U0w) { frames := d', cells := mc, slots := ms, locals := 100 * d' } mc ms np := callB_of (R := x.2.2.2.1) np hts cwG rfl rfl rfl (by rw [i3]; exact hts _ i2) (hts _ hw1) i4 (by rw [hR]; exact ⟨hdd, by show 8 + (nL' + 11) + 100 * d' ≤ 100 * d; omega⟩)
    subst hst
    refine va_callG (o := out' r1) (va_runV (C := Cn) (n := np) (nL := nL) (As := As) (rest := rest) ⟨hx, hb, hml, hown, hts⟩ hMM ⟨cb, hts _ hw2, hts _ hw3⟩ ⟨PIw.blind, (by obtain ⟨q0, -, hq⟩ := wlW_get hin; exact va_recv hK hP (q0 := q0) hc (by rw [hq M, he])), fun U hU hW => ⟨rfl, by rw [hU], by rw [hU]; exact hP, va_K.moved hW.alike hK, ⟨(hD M).1, fun _ _ _ => trivial⟩, by rw [hU]; exact SKw.warm hW ((hSK.kept (fun a h1 h2 => hS.2.1 a h1 h2)).narrow (AAw_mono hS.1))⟩⟩ rfl hnp (hl.1.trans hnl) rfl (lv_room hcat) hd (by rw [hR]; exact ⟨hkc, hks⟩)) hS (fun H1 locs1 hP1 hS1 => kk r1 hc1 r hr H1 locs1 ls hP1 hS1 hl)

theorem r_callS (C : Cw g x cc own nL ret d) {y : MethodName} {Cn : String} {cc' : ByteArray} {nL' d' mc ms idx np : Nat} {ret' : Option FieldType} {As st : List Value} {α : Type} {out' : α → Option Value × Mw} {comp1 : Option α} {K : α → Option β} (hM : Kw g x.2.1 y cc' nL' ret' d' mc ms As M out' comp1) (hd : decode cc pc = .ok (.invokestatic idx, 3)) (hw1 : Cond.methodLink own idx y ∈ U0w) (hw2 : Cond.static y ∈ U0w) (hi : Mi y Cn cc' nL' ret' np) (hdd : d' + 1 ≤ d) (hnp : As.length = np) (hst : st = As.reverse ++ rest) (hcat : (rest.map fun v => v.category).sum ≤ 8) (hkc : k + mc ≤ x.2.2.2.2.2.2.2.2.2.2.2.1) (hks : n + ms ≤ x.2.2.2.2.2.2.2.2.2.2.2.2)
    (kk : ∀ r : α, comp1 = some r → Sw g x out (out' r).2 (k + mc) (n + ms) (pc + 3) lv ((out' r).1.toList ++ rest) (K r)) : Sw g x out M k n pc lv st (comp1.bind K) := by
  obtain ⟨hx, hb, hml, hown, hts, hK, hD, hSK, hR, hlk, hrt, hnl⟩ := C
  intro r hr H locs ls hP hS hl
  cases hc1 : comp1 with
  | none => rw [hc1] at hr; cases hr
  | some r1 =>
    rw [hc1] at hr
    obtain ⟨i1, i2, i3, i4, i5⟩ := hi
    have hMM := hM H.size r1 hc1
    have cwG : GoodIn U0w (Cond.code y cc' nL' ret' :: U0w) := U0w_good (fun w hw => by
      rcases List.mem_cons.mp hw with h | h
      · rw [h]; exact i1
      · exact h)
    have cb : CallB x.2.2.2.1 x.2.2.2.2.1 x.2.2.2.2.2.2.1 own idx y cc' nL' ret' (Cond.code y cc' nL' ret' :: U0w) { frames := d', cells := mc, slots := ms, locals := 100 * d' } mc ms np := callB_of (R := x.2.2.2.1) np hts cwG rfl rfl rfl (by rw [i3]; exact hts _ i2) (hts _ hw1) i4 (by rw [hR]; exact ⟨hdd, by show 8 + (nL' + 11) + 100 * d' ≤ 100 * d; omega⟩)
    subst hst
    refine va_callG (o := out' r1) (va_runS (n := np) (nL := nL) (As := As) (rest := rest) ⟨hx, hb, hml, hown, hts⟩ hMM ⟨cb, hts _ hw2⟩ ⟨PIw.blind, fun U hU hW => ⟨rfl, by rw [hU], by rw [hU]; exact hP, va_K.moved hW.alike hK, ⟨(hD M).1, fun _ _ _ => trivial⟩, by rw [hU]; exact SKw.warm hW ((hSK.kept (fun a h1 h2 => hS.2.1 a h1 h2)).narrow (AAw_mono hS.1))⟩⟩ rfl hnp (hl.1.trans hnl) rfl (lv_room hcat) hd (by rw [hR]; exact ⟨hkc, hks⟩)) hS (fun H1 locs1 hP1 hS1 => kk r1 hc1 r hr H1 locs1 ls hP1 hS1 hl)

theorem r_callVRi {κ b i ci N : Nat} {T : u_T} {fs : List Value} (C : Cw g x cc own nL ret d) {y : MethodName} {Cn : String} {cc' : ByteArray} {nL' d' mc ms idx np : Nat} {ret' : Option FieldType} {As st : List Value} {comp1 : Option (Int32)} {K : Int32 → Option β} (hM : Kw g x.2.1 y cc' nL' ret' d' mc ms (.ref (gA g κ b i) :: As) M (fun v : Int32 => (some (.int v), M)) comp1) (hd : decode cc pc = .ok (.invokevirtual idx, 3)) (hw1 : Cond.methodLink own idx y ∈ U0w) (hin : (κ, b, i) ∈ layW g) (he : cellW g M κ b i = .inr (ci, fs)) (hc : vwCl[ci]? = some (Cn, T, N)) (hw2 : Cond.instanceMethod y ∈ U0w) (hw3 : Cond.selects Cn y y ∈ U0w) (hi : Mi y Cn cc' nL' ret' np) (hdd : d' + 1 ≤ d) (hnp : As.length = np) (hst : st = As.reverse ++ .ref (gA g κ b i) :: rest) (hcat : (rest.map fun v => v.category).sum ≤ 8) (hkc : k + mc ≤ x.2.2.2.2.2.2.2.2.2.2.2.1) (hks : n + ms ≤ x.2.2.2.2.2.2.2.2.2.2.2.2) (kk : ∀ v : Int32, comp1 = some v → Sw g x out M (k + mc) (n + ms) (pc + 3) lv (.int v :: rest) (K v)) : Sw g x out M k n pc lv st (comp1.bind K) := r_callV C hM hd hw1 hin he hc hw2 hw3 hi hdd hnp hst hcat hkc hks kk
theorem r_callVWi {κ b i ci N : Nat} {T : u_T} {fs : List Value} (C : Cw g x cc own nL ret d) {y : MethodName} {Cn : String} {cc' : ByteArray} {nL' d' mc ms idx np : Nat} {ret' : Option FieldType} {As st : List Value} {comp1 : Option (Int32 × Mw)} {K : Int32 × Mw → Option β} (hM : Kw g x.2.1 y cc' nL' ret' d' mc ms (.ref (gA g κ b i) :: As) M (fun q : Int32 × Mw => (some (.int q.1), q.2)) comp1) (hd : decode cc pc = .ok (.invokevirtual idx, 3)) (hw1 : Cond.methodLink own idx y ∈ U0w) (hin : (κ, b, i) ∈ layW g) (he : cellW g M κ b i = .inr (ci, fs)) (hc : vwCl[ci]? = some (Cn, T, N)) (hw2 : Cond.instanceMethod y ∈ U0w) (hw3 : Cond.selects Cn y y ∈ U0w) (hi : Mi y Cn cc' nL' ret' np) (hdd : d' + 1 ≤ d) (hnp : As.length = np) (hst : st = As.reverse ++ .ref (gA g κ b i) :: rest) (hcat : (rest.map fun v => v.category).sum ≤ 8) (hkc : k + mc ≤ x.2.2.2.2.2.2.2.2.2.2.2.1) (hks : n + ms ≤ x.2.2.2.2.2.2.2.2.2.2.2.2) (kk : ∀ q : Int32 × Mw, comp1 = some q → Sw g x out q.2 (k + mc) (n + ms) (pc + 3) lv (.int q.1 :: rest) (K q)) : Sw g x out M k n pc lv st (comp1.bind K) := r_callV C hM hd hw1 hin he hc hw2 hw3 hi hdd hnp hst hcat hkc hks kk
theorem r_callVRl {κ b i ci N : Nat} {T : u_T} {fs : List Value} (C : Cw g x cc own nL ret d) {y : MethodName} {Cn : String} {cc' : ByteArray} {nL' d' mc ms idx np : Nat} {ret' : Option FieldType} {As st : List Value} {comp1 : Option (Int64)} {K : Int64 → Option β} (hM : Kw g x.2.1 y cc' nL' ret' d' mc ms (.ref (gA g κ b i) :: As) M (fun v : Int64 => (some (.long v), M)) comp1) (hd : decode cc pc = .ok (.invokevirtual idx, 3)) (hw1 : Cond.methodLink own idx y ∈ U0w) (hin : (κ, b, i) ∈ layW g) (he : cellW g M κ b i = .inr (ci, fs)) (hc : vwCl[ci]? = some (Cn, T, N)) (hw2 : Cond.instanceMethod y ∈ U0w) (hw3 : Cond.selects Cn y y ∈ U0w) (hi : Mi y Cn cc' nL' ret' np) (hdd : d' + 1 ≤ d) (hnp : As.length = np) (hst : st = As.reverse ++ .ref (gA g κ b i) :: rest) (hcat : (rest.map fun v => v.category).sum ≤ 8) (hkc : k + mc ≤ x.2.2.2.2.2.2.2.2.2.2.2.1) (hks : n + ms ≤ x.2.2.2.2.2.2.2.2.2.2.2.2) (kk : ∀ v : Int64, comp1 = some v → Sw g x out M (k + mc) (n + ms) (pc + 3) lv (.long v :: rest) (K v)) : Sw g x out M k n pc lv st (comp1.bind K) := r_callV C hM hd hw1 hin he hc hw2 hw3 hi hdd hnp hst hcat hkc hks kk
theorem r_callVWl {κ b i ci N : Nat} {T : u_T} {fs : List Value} (C : Cw g x cc own nL ret d) {y : MethodName} {Cn : String} {cc' : ByteArray} {nL' d' mc ms idx np : Nat} {ret' : Option FieldType} {As st : List Value} {comp1 : Option (Int64 × Mw)} {K : Int64 × Mw → Option β} (hM : Kw g x.2.1 y cc' nL' ret' d' mc ms (.ref (gA g κ b i) :: As) M (fun q : Int64 × Mw => (some (.long q.1), q.2)) comp1) (hd : decode cc pc = .ok (.invokevirtual idx, 3)) (hw1 : Cond.methodLink own idx y ∈ U0w) (hin : (κ, b, i) ∈ layW g) (he : cellW g M κ b i = .inr (ci, fs)) (hc : vwCl[ci]? = some (Cn, T, N)) (hw2 : Cond.instanceMethod y ∈ U0w) (hw3 : Cond.selects Cn y y ∈ U0w) (hi : Mi y Cn cc' nL' ret' np) (hdd : d' + 1 ≤ d) (hnp : As.length = np) (hst : st = As.reverse ++ .ref (gA g κ b i) :: rest) (hcat : (rest.map fun v => v.category).sum ≤ 8) (hkc : k + mc ≤ x.2.2.2.2.2.2.2.2.2.2.2.1) (hks : n + ms ≤ x.2.2.2.2.2.2.2.2.2.2.2.2) (kk : ∀ q : Int64 × Mw, comp1 = some q → Sw g x out q.2 (k + mc) (n + ms) (pc + 3) lv (.long q.1 :: rest) (K q)) : Sw g x out M k n pc lv st (comp1.bind K) := r_callV C hM hd hw1 hin he hc hw2 hw3 hi hdd hnp hst hcat hkc hks kk
theorem r_callVRf {κ b i ci N : Nat} {T : u_T} {fs : List Value} (C : Cw g x cc own nL ret d) {y : MethodName} {Cn : String} {cc' : ByteArray} {nL' d' mc ms idx np : Nat} {ret' : Option FieldType} {As st : List Value} {comp1 : Option (UInt32)} {K : UInt32 → Option β} (hM : Kw g x.2.1 y cc' nL' ret' d' mc ms (.ref (gA g κ b i) :: As) M (fun v : UInt32 => (some (.float v), M)) comp1) (hd : decode cc pc = .ok (.invokevirtual idx, 3)) (hw1 : Cond.methodLink own idx y ∈ U0w) (hin : (κ, b, i) ∈ layW g) (he : cellW g M κ b i = .inr (ci, fs)) (hc : vwCl[ci]? = some (Cn, T, N)) (hw2 : Cond.instanceMethod y ∈ U0w) (hw3 : Cond.selects Cn y y ∈ U0w) (hi : Mi y Cn cc' nL' ret' np) (hdd : d' + 1 ≤ d) (hnp : As.length = np) (hst : st = As.reverse ++ .ref (gA g κ b i) :: rest) (hcat : (rest.map fun v => v.category).sum ≤ 8) (hkc : k + mc ≤ x.2.2.2.2.2.2.2.2.2.2.2.1) (hks : n + ms ≤ x.2.2.2.2.2.2.2.2.2.2.2.2) (kk : ∀ v : UInt32, comp1 = some v → Sw g x out M (k + mc) (n + ms) (pc + 3) lv (.float v :: rest) (K v)) : Sw g x out M k n pc lv st (comp1.bind K) := r_callV C hM hd hw1 hin he hc hw2 hw3 hi hdd hnp hst hcat hkc hks kk
theorem r_callVWf {κ b i ci N : Nat} {T : u_T} {fs : List Value} (C : Cw g x cc own nL ret d) {y : MethodName} {Cn : String} {cc' : ByteArray} {nL' d' mc ms idx np : Nat} {ret' : Option FieldType} {As st : List Value} {comp1 : Option (UInt32 × Mw)} {K : UInt32 × Mw → Option β} (hM : Kw g x.2.1 y cc' nL' ret' d' mc ms (.ref (gA g κ b i) :: As) M (fun q : UInt32 × Mw => (some (.float q.1), q.2)) comp1) (hd : decode cc pc = .ok (.invokevirtual idx, 3)) (hw1 : Cond.methodLink own idx y ∈ U0w) (hin : (κ, b, i) ∈ layW g) (he : cellW g M κ b i = .inr (ci, fs)) (hc : vwCl[ci]? = some (Cn, T, N)) (hw2 : Cond.instanceMethod y ∈ U0w) (hw3 : Cond.selects Cn y y ∈ U0w) (hi : Mi y Cn cc' nL' ret' np) (hdd : d' + 1 ≤ d) (hnp : As.length = np) (hst : st = As.reverse ++ .ref (gA g κ b i) :: rest) (hcat : (rest.map fun v => v.category).sum ≤ 8) (hkc : k + mc ≤ x.2.2.2.2.2.2.2.2.2.2.2.1) (hks : n + ms ≤ x.2.2.2.2.2.2.2.2.2.2.2.2) (kk : ∀ q : UInt32 × Mw, comp1 = some q → Sw g x out q.2 (k + mc) (n + ms) (pc + 3) lv (.float q.1 :: rest) (K q)) : Sw g x out M k n pc lv st (comp1.bind K) := r_callV C hM hd hw1 hin he hc hw2 hw3 hi hdd hnp hst hcat hkc hks kk
theorem r_callVU {κ b i ci N : Nat} {T : u_T} {fs : List Value} (C : Cw g x cc own nL ret d) {y : MethodName} {Cn : String} {cc' : ByteArray} {nL' d' mc ms idx np : Nat} {ret' : Option FieldType} {As st : List Value} {comp1 : Option Mw} {K : Mw → Option β} (hM : Kw g x.2.1 y cc' nL' ret' d' mc ms (.ref (gA g κ b i) :: As) M (fun M => (none, M)) comp1) (hd : decode cc pc = .ok (.invokevirtual idx, 3)) (hw1 : Cond.methodLink own idx y ∈ U0w) (hin : (κ, b, i) ∈ layW g) (he : cellW g M κ b i = .inr (ci, fs)) (hc : vwCl[ci]? = some (Cn, T, N)) (hw2 : Cond.instanceMethod y ∈ U0w) (hw3 : Cond.selects Cn y y ∈ U0w) (hi : Mi y Cn cc' nL' ret' np) (hdd : d' + 1 ≤ d) (hnp : As.length = np) (hst : st = As.reverse ++ .ref (gA g κ b i) :: rest) (hcat : (rest.map fun v => v.category).sum ≤ 8) (hkc : k + mc ≤ x.2.2.2.2.2.2.2.2.2.2.2.1) (hks : n + ms ≤ x.2.2.2.2.2.2.2.2.2.2.2.2) (kk : ∀ M : Mw, comp1 = some M → Sw g x out M (k + mc) (n + ms) (pc + 3) lv rest (K M)) : Sw g x out M k n pc lv st (comp1.bind K) := r_callV C hM hd hw1 hin he hc hw2 hw3 hi hdd hnp hst hcat hkc hks kk
theorem r_callVA {κ b i ci N : Nat} {T : u_T} {fs : List Value} (C : Cw g x cc own nL ret d) {y : MethodName} {Cn : String} {cc' : ByteArray} {nL' d' mc ms idx np ra : Nat} {ret' : Option FieldType} {As st : List Value} {comp1 : Option Mw} {K : Mw → Option β} (hM : Kw g x.2.1 y cc' nL' ret' d' mc ms (.ref (gA g κ b i) :: As) M (fun M => (some (.ref ra), M)) comp1) (hd : decode cc pc = .ok (.invokevirtual idx, 3)) (hw1 : Cond.methodLink own idx y ∈ U0w) (hin : (κ, b, i) ∈ layW g) (he : cellW g M κ b i = .inr (ci, fs)) (hc : vwCl[ci]? = some (Cn, T, N)) (hw2 : Cond.instanceMethod y ∈ U0w) (hw3 : Cond.selects Cn y y ∈ U0w) (hi : Mi y Cn cc' nL' ret' np) (hdd : d' + 1 ≤ d) (hnp : As.length = np) (hst : st = As.reverse ++ .ref (gA g κ b i) :: rest) (hcat : (rest.map fun v => v.category).sum ≤ 8) (hkc : k + mc ≤ x.2.2.2.2.2.2.2.2.2.2.2.1) (hks : n + ms ≤ x.2.2.2.2.2.2.2.2.2.2.2.2) (kk : ∀ M : Mw, comp1 = some M → Sw g x out M (k + mc) (n + ms) (pc + 3) lv (.ref ra :: rest) (K M)) : Sw g x out M k n pc lv st (comp1.bind K) := r_callV C hM hd hw1 hin he hc hw2 hw3 hi hdd hnp hst hcat hkc hks kk
theorem r_callVT {κ b i ci N : Nat} {T : u_T} {fs : List Value} (C : Cw g x cc own nL ret d) {y : MethodName} {Cn : String} {cc' : ByteArray} {nL' d' mc ms idx np : Nat} {ret' : Option FieldType} {As st : List Value} {comp1 : Option Nat} {K : Nat → Option β} (hM : Kw g x.2.1 y cc' nL' ret' d' mc ms (.ref (gA g κ b i) :: As) M (fun j => (some (.ref (gK g j)), M)) comp1) (hd : decode cc pc = .ok (.invokevirtual idx, 3)) (hw1 : Cond.methodLink own idx y ∈ U0w) (hin : (κ, b, i) ∈ layW g) (he : cellW g M κ b i = .inr (ci, fs)) (hc : vwCl[ci]? = some (Cn, T, N)) (hw2 : Cond.instanceMethod y ∈ U0w) (hw3 : Cond.selects Cn y y ∈ U0w) (hi : Mi y Cn cc' nL' ret' np) (hdd : d' + 1 ≤ d) (hnp : As.length = np) (hst : st = As.reverse ++ .ref (gA g κ b i) :: rest) (hcat : (rest.map fun v => v.category).sum ≤ 8) (hkc : k + mc ≤ x.2.2.2.2.2.2.2.2.2.2.2.1) (hks : n + ms ≤ x.2.2.2.2.2.2.2.2.2.2.2.2) (kk : ∀ j : Nat, comp1 = some j → Sw g x out M (k + mc) (n + ms) (pc + 3) lv (.ref (gK g j) :: rest) (K j)) : Sw g x out M k n pc lv st (comp1.bind K) := r_callV C hM hd hw1 hin he hc hw2 hw3 hi hdd hnp hst hcat hkc hks kk
theorem r_callSRi (C : Cw g x cc own nL ret d) {y : MethodName} {Cn : String} {cc' : ByteArray} {nL' d' mc ms idx np : Nat} {ret' : Option FieldType} {As st : List Value} {comp1 : Option (Int32)} {K : Int32 → Option β} (hM : Kw g x.2.1 y cc' nL' ret' d' mc ms As M (fun v : Int32 => (some (.int v), M)) comp1) (hd : decode cc pc = .ok (.invokestatic idx, 3)) (hw1 : Cond.methodLink own idx y ∈ U0w) (hw2 : Cond.static y ∈ U0w) (hi : Mi y Cn cc' nL' ret' np) (hdd : d' + 1 ≤ d) (hnp : As.length = np) (hst : st = As.reverse ++ rest) (hcat : (rest.map fun v => v.category).sum ≤ 8) (hkc : k + mc ≤ x.2.2.2.2.2.2.2.2.2.2.2.1) (hks : n + ms ≤ x.2.2.2.2.2.2.2.2.2.2.2.2) (kk : ∀ v : Int32, comp1 = some v → Sw g x out M (k + mc) (n + ms) (pc + 3) lv (.int v :: rest) (K v)) : Sw g x out M k n pc lv st (comp1.bind K) := r_callS C hM hd hw1 hw2 hi hdd hnp hst hcat hkc hks kk
theorem r_callSWi (C : Cw g x cc own nL ret d) {y : MethodName} {Cn : String} {cc' : ByteArray} {nL' d' mc ms idx np : Nat} {ret' : Option FieldType} {As st : List Value} {comp1 : Option (Int32 × Mw)} {K : Int32 × Mw → Option β} (hM : Kw g x.2.1 y cc' nL' ret' d' mc ms As M (fun q : Int32 × Mw => (some (.int q.1), q.2)) comp1) (hd : decode cc pc = .ok (.invokestatic idx, 3)) (hw1 : Cond.methodLink own idx y ∈ U0w) (hw2 : Cond.static y ∈ U0w) (hi : Mi y Cn cc' nL' ret' np) (hdd : d' + 1 ≤ d) (hnp : As.length = np) (hst : st = As.reverse ++ rest) (hcat : (rest.map fun v => v.category).sum ≤ 8) (hkc : k + mc ≤ x.2.2.2.2.2.2.2.2.2.2.2.1) (hks : n + ms ≤ x.2.2.2.2.2.2.2.2.2.2.2.2) (kk : ∀ q : Int32 × Mw, comp1 = some q → Sw g x out q.2 (k + mc) (n + ms) (pc + 3) lv (.int q.1 :: rest) (K q)) : Sw g x out M k n pc lv st (comp1.bind K) := r_callS C hM hd hw1 hw2 hi hdd hnp hst hcat hkc hks kk
theorem r_callSRl (C : Cw g x cc own nL ret d) {y : MethodName} {Cn : String} {cc' : ByteArray} {nL' d' mc ms idx np : Nat} {ret' : Option FieldType} {As st : List Value} {comp1 : Option (Int64)} {K : Int64 → Option β} (hM : Kw g x.2.1 y cc' nL' ret' d' mc ms As M (fun v : Int64 => (some (.long v), M)) comp1) (hd : decode cc pc = .ok (.invokestatic idx, 3)) (hw1 : Cond.methodLink own idx y ∈ U0w) (hw2 : Cond.static y ∈ U0w) (hi : Mi y Cn cc' nL' ret' np) (hdd : d' + 1 ≤ d) (hnp : As.length = np) (hst : st = As.reverse ++ rest) (hcat : (rest.map fun v => v.category).sum ≤ 8) (hkc : k + mc ≤ x.2.2.2.2.2.2.2.2.2.2.2.1) (hks : n + ms ≤ x.2.2.2.2.2.2.2.2.2.2.2.2) (kk : ∀ v : Int64, comp1 = some v → Sw g x out M (k + mc) (n + ms) (pc + 3) lv (.long v :: rest) (K v)) : Sw g x out M k n pc lv st (comp1.bind K) := r_callS C hM hd hw1 hw2 hi hdd hnp hst hcat hkc hks kk
theorem r_callSWl (C : Cw g x cc own nL ret d) {y : MethodName} {Cn : String} {cc' : ByteArray} {nL' d' mc ms idx np : Nat} {ret' : Option FieldType} {As st : List Value} {comp1 : Option (Int64 × Mw)} {K : Int64 × Mw → Option β} (hM : Kw g x.2.1 y cc' nL' ret' d' mc ms As M (fun q : Int64 × Mw => (some (.long q.1), q.2)) comp1) (hd : decode cc pc = .ok (.invokestatic idx, 3)) (hw1 : Cond.methodLink own idx y ∈ U0w) (hw2 : Cond.static y ∈ U0w) (hi : Mi y Cn cc' nL' ret' np) (hdd : d' + 1 ≤ d) (hnp : As.length = np) (hst : st = As.reverse ++ rest) (hcat : (rest.map fun v => v.category).sum ≤ 8) (hkc : k + mc ≤ x.2.2.2.2.2.2.2.2.2.2.2.1) (hks : n + ms ≤ x.2.2.2.2.2.2.2.2.2.2.2.2) (kk : ∀ q : Int64 × Mw, comp1 = some q → Sw g x out q.2 (k + mc) (n + ms) (pc + 3) lv (.long q.1 :: rest) (K q)) : Sw g x out M k n pc lv st (comp1.bind K) := r_callS C hM hd hw1 hw2 hi hdd hnp hst hcat hkc hks kk
theorem r_callSRf (C : Cw g x cc own nL ret d) {y : MethodName} {Cn : String} {cc' : ByteArray} {nL' d' mc ms idx np : Nat} {ret' : Option FieldType} {As st : List Value} {comp1 : Option (UInt32)} {K : UInt32 → Option β} (hM : Kw g x.2.1 y cc' nL' ret' d' mc ms As M (fun v : UInt32 => (some (.float v), M)) comp1) (hd : decode cc pc = .ok (.invokestatic idx, 3)) (hw1 : Cond.methodLink own idx y ∈ U0w) (hw2 : Cond.static y ∈ U0w) (hi : Mi y Cn cc' nL' ret' np) (hdd : d' + 1 ≤ d) (hnp : As.length = np) (hst : st = As.reverse ++ rest) (hcat : (rest.map fun v => v.category).sum ≤ 8) (hkc : k + mc ≤ x.2.2.2.2.2.2.2.2.2.2.2.1) (hks : n + ms ≤ x.2.2.2.2.2.2.2.2.2.2.2.2) (kk : ∀ v : UInt32, comp1 = some v → Sw g x out M (k + mc) (n + ms) (pc + 3) lv (.float v :: rest) (K v)) : Sw g x out M k n pc lv st (comp1.bind K) := r_callS C hM hd hw1 hw2 hi hdd hnp hst hcat hkc hks kk
theorem r_callSWf (C : Cw g x cc own nL ret d) {y : MethodName} {Cn : String} {cc' : ByteArray} {nL' d' mc ms idx np : Nat} {ret' : Option FieldType} {As st : List Value} {comp1 : Option (UInt32 × Mw)} {K : UInt32 × Mw → Option β} (hM : Kw g x.2.1 y cc' nL' ret' d' mc ms As M (fun q : UInt32 × Mw => (some (.float q.1), q.2)) comp1) (hd : decode cc pc = .ok (.invokestatic idx, 3)) (hw1 : Cond.methodLink own idx y ∈ U0w) (hw2 : Cond.static y ∈ U0w) (hi : Mi y Cn cc' nL' ret' np) (hdd : d' + 1 ≤ d) (hnp : As.length = np) (hst : st = As.reverse ++ rest) (hcat : (rest.map fun v => v.category).sum ≤ 8) (hkc : k + mc ≤ x.2.2.2.2.2.2.2.2.2.2.2.1) (hks : n + ms ≤ x.2.2.2.2.2.2.2.2.2.2.2.2) (kk : ∀ q : UInt32 × Mw, comp1 = some q → Sw g x out q.2 (k + mc) (n + ms) (pc + 3) lv (.float q.1 :: rest) (K q)) : Sw g x out M k n pc lv st (comp1.bind K) := r_callS C hM hd hw1 hw2 hi hdd hnp hst hcat hkc hks kk
theorem r_callSU (C : Cw g x cc own nL ret d) {y : MethodName} {Cn : String} {cc' : ByteArray} {nL' d' mc ms idx np : Nat} {ret' : Option FieldType} {As st : List Value} {comp1 : Option Mw} {K : Mw → Option β} (hM : Kw g x.2.1 y cc' nL' ret' d' mc ms As M (fun M => (none, M)) comp1) (hd : decode cc pc = .ok (.invokestatic idx, 3)) (hw1 : Cond.methodLink own idx y ∈ U0w) (hw2 : Cond.static y ∈ U0w) (hi : Mi y Cn cc' nL' ret' np) (hdd : d' + 1 ≤ d) (hnp : As.length = np) (hst : st = As.reverse ++ rest) (hcat : (rest.map fun v => v.category).sum ≤ 8) (hkc : k + mc ≤ x.2.2.2.2.2.2.2.2.2.2.2.1) (hks : n + ms ≤ x.2.2.2.2.2.2.2.2.2.2.2.2) (kk : ∀ M : Mw, comp1 = some M → Sw g x out M (k + mc) (n + ms) (pc + 3) lv rest (K M)) : Sw g x out M k n pc lv st (comp1.bind K) := r_callS C hM hd hw1 hw2 hi hdd hnp hst hcat hkc hks kk
theorem r_callSA (C : Cw g x cc own nL ret d) {y : MethodName} {Cn : String} {cc' : ByteArray} {nL' d' mc ms idx np ra : Nat} {ret' : Option FieldType} {As st : List Value} {comp1 : Option Mw} {K : Mw → Option β} (hM : Kw g x.2.1 y cc' nL' ret' d' mc ms As M (fun M => (some (.ref ra), M)) comp1) (hd : decode cc pc = .ok (.invokestatic idx, 3)) (hw1 : Cond.methodLink own idx y ∈ U0w) (hw2 : Cond.static y ∈ U0w) (hi : Mi y Cn cc' nL' ret' np) (hdd : d' + 1 ≤ d) (hnp : As.length = np) (hst : st = As.reverse ++ rest) (hcat : (rest.map fun v => v.category).sum ≤ 8) (hkc : k + mc ≤ x.2.2.2.2.2.2.2.2.2.2.2.1) (hks : n + ms ≤ x.2.2.2.2.2.2.2.2.2.2.2.2) (kk : ∀ M : Mw, comp1 = some M → Sw g x out M (k + mc) (n + ms) (pc + 3) lv (.ref ra :: rest) (K M)) : Sw g x out M k n pc lv st (comp1.bind K) := r_callS C hM hd hw1 hw2 hi hdd hnp hst hcat hkc hks kk
theorem r_callST (C : Cw g x cc own nL ret d) {y : MethodName} {Cn : String} {cc' : ByteArray} {nL' d' mc ms idx np : Nat} {ret' : Option FieldType} {As st : List Value} {comp1 : Option Nat} {K : Nat → Option β} (hM : Kw g x.2.1 y cc' nL' ret' d' mc ms As M (fun j => (some (.ref (gK g j)), M)) comp1) (hd : decode cc pc = .ok (.invokestatic idx, 3)) (hw1 : Cond.methodLink own idx y ∈ U0w) (hw2 : Cond.static y ∈ U0w) (hi : Mi y Cn cc' nL' ret' np) (hdd : d' + 1 ≤ d) (hnp : As.length = np) (hst : st = As.reverse ++ rest) (hcat : (rest.map fun v => v.category).sum ≤ 8) (hkc : k + mc ≤ x.2.2.2.2.2.2.2.2.2.2.2.1) (hks : n + ms ≤ x.2.2.2.2.2.2.2.2.2.2.2.2) (kk : ∀ j : Nat, comp1 = some j → Sw g x out M (k + mc) (n + ms) (pc + 3) lv (.ref (gK g j) :: rest) (K j)) : Sw g x out M k n pc lv st (comp1.bind K) := r_callS C hM hd hw1 hw2 hi hdd hnp hst hcat hkc hks kk
/-- loops -/
def it {γ : Type} (z : γ) (f : γ → γ) : Nat → γ
  | 0 => z
  | n + 1 => f (it z f n)
/-- more turns than any loop here takes -/
def FU : Nat := 1000000
