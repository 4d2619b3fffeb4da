theorem wsLw_cons (g : Gw) (t : Nat × Nat × Nat) (L : List (Nat × Nat × Nat)) (ad : Nat → Nat → Nat → Nat) : wsLw g (t :: L) ad = (ad t.1 t.2.1 t.2.2, cellW (gLw g ad) M0w t.1 t.2.1 t.2.2) :: wsLw g L ad := rfl
/-- a reference array right behind the object -/
theorem n_turn {D : va_G} {cl : List vw_C} {x y : Nat × va_E} {R : va_W} {H : Heap} (h : va_P D cl (x :: (R ++ [y])) H) : va_P D cl (x :: y :: R) H := va_P.swap (a := [x]) (b := R) (c := [y]) h
theorem n_turnD {A : Nat → Prop} {x y : Nat × va_E} {R : va_W} (h : va_D A (x :: (R ++ [y]))) : va_D A (x :: y :: R) := va_D.swap (a := [x]) (b := R) (c := [y]) h
theorem n_rot {D : va_G} {cl : List vw_C} {x y : Nat × va_E} {R w : va_W} {H : Heap} (h : va_P D cl ((x :: y :: R) ++ w) H) : va_P D cl (x :: y :: (w ++ R)) H := va_P.swap (a := [x, y]) (b := R) (c := w) h
theorem n_rotD {A : Nat → Prop} {x y : Nat × va_E} {R w : va_W} (h : va_D A ((x :: y :: R) ++ w)) : va_D A (x :: y :: (w ++ R)) := va_D.swap (a := [x, y]) (b := R) (c := w) h
theorem va_at_refs {D : va_G} {cl : List vw_C} {q n : Nat} {cA : ClassId} {f f' : Nat → Option Nat} {H : Heap} (hf : ∀ j, j < n → f j = f' j) (h : va_at D cl (q, .inl (cA, n, .inr (.inr (.inr (.inr f))))) H) : va_at D cl (q, .inl (cA, n, .inr (.inr (.inr (.inr f'))))) H := by
  have h3 : H[q]? = some (vp_cell cA (n, .inr (.inr (.inr (.inr f))))) := h
  show H[q]? = some (vp_cell cA (n, .inr (.inr (.inr (.inr f')))))
  rw [h3]
  congr 1
  rw [vp_cell_q, vp_cell_q]
  unfold arrV
  congr 1
  apply Array.ext (by simp)
  intro i h1 h2
  simp at h1
  simp [hf i h1]
theorem n_refs {D : va_G} {cl : List vw_C} {x : Nat × va_E} {R : va_W} {q n : Nat} {cA : ClassId} {f f' : Nat → Option Nat} {H : Heap} (hf : ∀ j, j < n → f j = f' j) (h : va_P D cl (x :: (q, .inl (cA, n, .inr (.inr (.inr (.inr f))))) :: R) H) : va_P D cl (x :: (q, .inl (cA, n, .inr (.inr (.inr (.inr f'))))) :: R) H := by
  intro k z hz
  match k, hz with
  | 0, hz => exact h 0 z hz
  | 1, hz =>
    cases hz
    exact va_at_refs hf (h 1 _ rfl)
  | k + 2, hz => exact h (k + 2) z hz
theorem n_refsD {A : Nat → Prop} {x : Nat × va_E} {R : va_W} {q n : Nat} {cA : ClassId} {f f' : Nat → Option Nat} (h : va_D A (x :: (q, .inl (cA, n, .inr (.inr (.inr (.inr f))))) :: R)) : va_D A (x :: (q, .inl (cA, n, .inr (.inr (.inr (.inr f'))))) :: R) := by
  have e : ∀ (k : Nat) (z : Nat × va_E), (x :: ((q, .inl (cA, n, .inr (.inr (.inr (.inr f'))))) : Nat × va_E) :: R)[k]? = some z → ∃ z', (x :: ((q, .inl (cA, n, .inr (.inr (.inr (.inr f))))) : Nat × va_E) :: R)[k]? = some z' ∧ z'.1 = z.1 := by
    intro k z hz
    match k, hz with
    | 0, hz => exact ⟨z, hz, rfl⟩
    | 1, hz =>
      cases hz
      exact ⟨_, rfl, rfl⟩
    | k + 2, hz => exact ⟨z, hz, rfl⟩
  refine ⟨fun i j a b ha hb hab => ?_, fun k z hz => ?_⟩
  · obtain ⟨a', ha', ea⟩ := e i a ha
    obtain ⟨b', hb', eb⟩ := e j b hb
    exact h.1 i j a' b' ha' hb' (by rw [ea, eb, hab])
  · obtain ⟨z', hz', ez⟩ := e k z hz
    rw [← ez]
    exact h.2 k z' hz'
section NAP
variable {p : Program} {l : Launch} {e : Env} {R : Room} {s : State} {m : MethodId} {args : Array Value} {below : List Frame} {meth : Method} {c : Code} {H : Heap} {locs : List Loc} {cells slots : Nat} {Q : State → Prop}
variable {pc : Nat} {ls : Array Slot} {rest : List Value} {g : Gw} {A : Nat → Prop} {cc : ByteArray} {nL d mc ms : Nat} {own : String}
theorem n_arrF {t : Nat} (hx : p.tables.exec = Jvm.exec) (hb : c.code = cc) (hown : s.vm.findClass own = some m.cls) (hts : ∀ w ∈ U0w, w.before args s = true) (hK : va_K (gD g) vwCl (tyW g) s) (hA : ∀ q, s.heap.size ≤ q → A q) (hnm : meth.name = "<init>") {C : String} {T : u_T} {N ci : Nat} {h0 : Nat} {fs : List Value} {TL : va_W} {H : Heap} {ls : Array Slot} {locs : List Loc} {cells slots : Nat}
    (hin : ∀ w ∈ u_ws C T N, w ∈ U0w) (ty0 : Nat → FieldType) (hty : ∀ k, k < N → parseFieldDescriptor (T k).2.2.1 = some (ty0 k)) (hnT : ∀ a, a < N → ∀ b, b < N → a ≠ b → (T a).2.1 ≠ (T b).2.1) (hc : vwCl[ci]? = some (C, T, N)) (hfs : fs.length = N)
    (hP : va_P (gD g) vwCl ((h0, .inr (ci, fs)) :: TL) H) (hD : va_D A ((h0, .inr (ci, fs)) :: TL)) (hS : va_S A s.heap H locs)
    {atype : ArrayType} {ty : FieldType} (hty2 : newarray.typeOf atype = ty) (harr : Cond.arrayClass (newarray.typeOf atype) ∈ U0w) (ca : ∀ cA : ClassId, va_K (gD g) vwCl (tyW g ++ [(cA, ty)]) s → cA = gC g t) {n : Int32} {N' : Nat} {a0 : vp_A} (ha : ∀ cA : ClassId, vp_cell cA a0 = arrV cA N' (fun _ => defaultValue ty)) (hn : ¬ n < 0) (hN : n.toNatClampNeg = N') (hbytes : N' * componentBytes ty ≤ 536870912) (hcells : cells + 1 ≤ R.cells) (hslots : slots + N' ≤ R.slots) (hdN : decode cc pc = .ok (.newarray atype, 2))
    (k : Nat) (hk : k < N) {ref : String} {index : Nat} (hlink : Cond.fieldLink own index ref (T k).2.1 (T k).2.2.1 ∈ U0w) (hr1 : (T k).1 = ref) (hfin : (T k).2.2.2 = true) (hdecl : (T k).1 = own) {ty2 : FieldType} (hd : parseFieldDescriptor (T k).2.2.1 = some ty2) (hd2 : ty2 = .array ty) (hdP : decode cc (pc + 2) = .ok (.putfield index, 3))
    (kk : ∀ (q : Nat) (H1 : Heap) (locs1 : List Loc), va_P (gD g) vwCl ((h0, .inr (ci, fs.set k (.ref q))) :: (TL ++ [(q, .inl (gC g t, a0))])) H1 → va_D A ((h0, .inr (ci, fs.set k (.ref q))) :: (TL ++ [(q, .inl (gC g t, a0))])) → va_S A s.heap H1 locs1 → W p l e R s m args below meth c H1 locs1 (cells + 1) (slots + N') Q (F0 m (pc + 2 + 3) ls rest)) : W p l e R s m args below meth c H locs cells slots Q (F0 m pc ls (.int n :: .ref h0 :: rest)) := by
  subst hd2
  subst hr1
  refine va_newa (atype := atype) (ty := ty) (a0 := a0) (N' := N') hx hb (hts _ harr) hty2 hK hP hD hS hA ha hn hN hbytes hcells hslots hdN (fun q cA H hK1 hP2 hD2 hS2 => ?_)
  obtain rfl := ca cA hK1
  exact va_putF (D := gD g) (ci := ci) (v := .ref q) (ty := .array ty) (C := C) (T := T) (N := N) hx hb hts hin ty0 hty hnT hown hK hP2 hD2 hS2 0 rfl hc k hk (hts _ hlink) (fun _ h9 => h9) hfin hnm hdecl hd rfl rfl (by rw [hfs]; exact hk) hdP (fun H locs hP3 hD3 hS3 => kk q H locs hP3 hD3 hS3)
end NAP
def L_X10 : List (Nat × Nat × Nat) := (50, 0, 0) :: ((((((((((((((((((((((((((((((((((((((((([] ++ [(51, 0, 0)]) ++ [(52, 0, 0)]) ++ [(53, 0, 0)]) ++ [(54, 0, 0)]) ++ [(55, 0, 0)]) ++ [(56, 0, 0)]) ++ [(57, 0, 0)]) ++ [(58, 0, 0)]) ++ [(59, 0, 0)]) ++ [(60, 0, 0)]) ++ [(61, 0, 0)]) ++ [(62, 0, 0)]) ++ [(63, 0, 0)]) ++ [(64, 0, 0)]) ++ [(65, 0, 0)]) ++ [(66, 0, 0)]) ++ [(67, 0, 0)]) ++ [(68, 0, 0)]) ++ [(69, 0, 0)]) ++ [(70, 0, 0)]) ++ [(71, 0, 0)]) ++ [(72, 0, 0)]) ++ [(73, 0, 0)]) ++ [(74, 0, 0)]) ++ [(75, 0, 0)]) ++ [(76, 0, 0)]) ++ [(77, 0, 0)]) ++ [(78, 0, 0)]) ++ [(79, 0, 0)]) ++ [(80, 0, 0)]) ++ [(81, 0, 0)]) ++ [(82, 0, 0)]) ++ [(83, 0, 0)]) ++ [(84, 0, 0)]) ++ [(85, 0, 0)]) ++ [(86, 0, 0)]) ++ [(87, 0, 0)]) ++ [(88, 0, 0)]) ++ [(89, 0, 0)]) ++ [(90, 0, 0)]) ++ [(91, 0, 0)])
set_option maxRecDepth 100000 in
set_option maxHeartbeats 8000000 in
theorem n_X10_init (g : Gw) (l : Launch) (h0 sz : Nat) : NMet g l yX10_init cX10_init 1 1 41 19678 h0 10 [.int 0, .null, .null, .null, .null, .int 0, .null, .int 0, .int 0, .int 0, .int 0, .int 0, .int 0, .int 0, .null, .null, .null, .null, .null, .null, .null, .int 0, .null, .int 0, .int 0, .int 0, .int 0, .int 0, .null, .null, .null, .null, .null, .null, .null, .null, .null, .null, .null, .null, .null, .null, .null, .null, .null, .null, .null, .null, .null, .null, .null, .null, .null, .null, .null, .null, .int 0, .int 0, .int 0, .int 0, .int 0, .int 0] sz (wsLw g (L_X10)) := by
  sorry
