/-! THE LAW'S WALK: what holds throughout; its states; a row a group of instructions -/
def LCx (p : Program) (s : State) (m : MethodId) (c : Code) (b L : Nat) (xs : Nat → Int32) (g : Gw) : Prop :=
  p.tables.exec = Jvm.exec ∧ c.code = code ∧ c.maxLocals = 4 ∧ s.vm.findClass "WatchStackLaw" = some m.cls ∧ (∀ w ∈ U0w, w.before #[Value.ref b] s = true) ∧ va_K (gD g) vwCl (tyW g) s ∧ (∀ M : Mw, va_D (AAw g s.heap.size) (wlW g M)) ∧ SKw g (AAw g s.heap.size) s s.heap ∧ va_X b L xs s s.heap ∧ b < s.heap.size ∧ ¬ AAw g s.heap.size b
abbrev Yw : Type := Program × Launch × Env × State × MethodId × List Frame × Method × Code × (State → Prop)
def LSx (y : Yw) (g : Gw) (b : Nat) (M : Mw) (cells slots pc : Nat) (i : Int32) (st : List Value) : Prop :=
  ∀ (H : Heap) (locs : List Loc) (ls : Array Slot), va_P (gD g) vwCl (wlW g M) H → va_S (AAw g y.2.2.2.1.heap.size) y.2.2.2.1.heap H locs → lv_has ls 4 [(3, .int i), (2, .ref (gA g 50 0 0)), (1, .ref (gA g 41 0 0)), (0, .ref b)] → W y.1 y.2.1 y.2.2.1 room_1 y.2.2.2.1 y.2.2.2.2.1 #[Value.ref b] y.2.2.2.2.2.1 y.2.2.2.2.2.2.1 y.2.2.2.2.2.2.2.1 H locs cells slots y.2.2.2.2.2.2.2.2 (F0 y.2.2.2.2.1 pc ls st)
abbrev LCw (y : Yw) (b L : Nat) (xs : Nat → Int32) (g : Gw) : Prop := LCx y.1 y.2.2.2.1 y.2.2.2.2.1 y.2.2.2.2.2.2.2.1 b L xs g
section LAW
variable {y : Yw} {g : Gw} {b L : Nat} {xs : Nat → Int32} {M : Mw} {cells slots pc : Nat} {i : Int32} {st : List Value}
theorem q_x (C : LCw y b L xs g) (hd : decode code pc = .ok (.aload_n 1, 1)) (kk : LSx y g b M cells slots (pc + 1) i (.ref (gA g 41 0 0) :: st)) : LSx y g b M cells slots pc i st := by
  obtain ⟨hx, hb, hml, hown, hts, hK, hD, hSK, hX, hbl, hbA⟩ := C
  intro H locs ls hP hS hl
  exact lv_aload_n hx hb hd rfl (lv_at hl 2 rfl) (kk H locs ls hP hS hl)
theorem q_m (C : LCw y b L xs g) (hd : decode code pc = .ok (.aload_n 2, 1)) (kk : LSx y g b M cells slots (pc + 1) i (.ref (gA g 50 0 0) :: st)) : LSx y g b M cells slots pc i st := by
  obtain ⟨hx, hb, hml, hown, hts, hK, hD, hSK, hX, hbl, hbA⟩ := C
  intro H locs ls hP hS hl
  exact lv_aload_n hx hb hd rfl (lv_at hl 1 rfl) (kk H locs ls hP hS hl)
theorem q_arg (C : LCw y b L xs g) {z : Int} {k : Int32} (hk : Int32.ofInt z = k) (h0 : decode code pc = .ok (.aload_n 0, 1)) (h1 : decode code (pc + 1) = .ok (.iload_n 3, 1)) (h2 : decode code (pc + 2) = .ok (.iconst z, 1)) (h3 : decode code (pc + 3) = .ok (.iadd, 1)) (h4 : decode code (pc + 4) = .ok (.iaload, 1)) (hin : vp_in (i + k) L) (kk : LSx y g b M cells slots (pc + 5) i (.int (xs (i + k).toNatClampNeg) :: st)) : LSx y g b M cells slots pc i st := by
  obtain ⟨hx, hb, hml, hown, hts, hK, hD, hSK, hX, hbl, hbA⟩ := C
  intro H locs ls hP hS hl
  refine lv_aload_n hx hb h0 rfl (lv_at hl 3 rfl) ?_
  refine lv_iload_n hx hb h1 rfl (lv_at hl 0 rfl) ?_
  refine lv_iconst hx hb h2 hk ?_
  refine lv_iadd hx hb h3 ?_
  exact va_sld hx hb hX hbl hbA hS hin h4 (kk H locs ls hP hS hl)
theorem q_call (C : LCw y b L xs g) {κ ci N : Nat} {T : u_T} {fs : List Value} {yy : MethodName} {Cn : String} {cc' : ByteArray} {nL' d' mc ms idx np : Nat} {ret' : Option FieldType} {As rest : List Value} {α : Type} {out' : α → Option Value × Mw} {comp1 : Option α} {r1 : α} (hM : Kw g y.2.1 yy cc' nL' ret' d' mc ms (.ref (gA g κ 0 0) :: As) M out' comp1) (hc1 : comp1 = some r1) (hd : decode code pc = .ok (.invokevirtual idx, 3)) (hw1 : Cond.methodLink "WatchStackLaw" idx yy ∈ U0w) (hin : (κ, 0, 0) ∈ layW g) (he : cellW g M κ 0 0 = .inr (ci, fs)) (hc : vwCl[ci]? = some (Cn, T, N)) (hw2 : Cond.instanceMethod yy ∈ U0w) (hw3 : Cond.selects Cn yy yy ∈ U0w) (hi : Mi yy Cn cc' nL' ret' np) (hdd : d' ≤ 100) (hnL : nL' ≤ 1000) (hnp : As.length = np) (hst : st = As.reverse ++ .ref (gA g κ 0 0) :: rest) (hcat : (rest.map fun v => v.category).sum ≤ 8) (hkc : cells + mc ≤ 600000) (hks : slots + ms ≤ 7302250)
    (kk : LSx y g b (out' r1).2 (cells + mc) (slots + ms) (pc + 3) i ((out' r1).1.toList ++ rest)) : LSx y g b M cells slots pc i st := by
  obtain ⟨hx, hb, hml, hown, hts, hK, hD, hSK, hX, hbl, hbA⟩ := C
  intro H locs ls hP hS hl
  obtain ⟨i1, i2, i3, i4, i5⟩ := hi
  have hMM := hM H.size r1 hc1
  have cwG : GoodIn U0w (Cond.code yy cc' nL' ret' :: U0w) := U0w_good (fun w hw => by
    rcases List.mem_cons.mp hw with h | h
    · rw [h]; exact i1
    · exact h)
  have cb : CallB room_1 y.2.2.2.1 #[Value.ref b] "WatchStackLaw" idx yy cc' nL' ret' (Cond.code yy cc' nL' ret' :: U0w) { frames := d', cells := mc, slots := ms, locals := 100 * d' } mc ms np := callB_of (R := room_1) np hts cwG rfl rfl rfl (by rw [i3]; exact hts _ i2) (hts _ hw1) i4 ⟨by show d' + 1 ≤ 2048; omega, by show 8 + (nL' + 11) + 100 * d' ≤ 84000; omega⟩
  subst hst
  exact va_callG (o := out' r1) (va_runV (C := Cn) (n := np) (nL := 4) (As := As) (rest := rest) ⟨hx, hb, hml, hown, hts⟩ hMM ⟨cb, hts _ hw2, hts _ hw3⟩ ⟨PIw.blind, (by obtain ⟨q0, -, hq⟩ := wlW_get hin; exact va_recv hK hP (q0 := q0) hc (by rw [hq M, he])), fun U hU hW => ⟨rfl, by rw [hU], by rw [hU]; exact hP, va_K.moved hW.alike hK, ⟨(hD M).1, fun _ _ _ => trivial⟩, by rw [hU]; exact SKw.warm hW ((hSK.kept (fun a h1 h2 => hS.2.1 a h1 h2)).narrow (AAw_mono hS.1))⟩⟩ rfl hnp hl.1 rfl (lv_room hcat) hd ⟨hkc, hks⟩) hS (fun H1 locs1 hP1 hS1 => kk H1 locs1 ls hP1 hS1 hl)
theorem q_eq (C : LCw y b L xs g) {a a' : Int32} {off : Int} {tgt : Nat} (h : a = a') (hd : decode code pc = .ok (.if_icmp .eq off, 3)) (ht : (pc : Int) + off = (tgt : Int)) (kk : LSx y g b M cells slots tgt i st) : LSx y g b M cells slots pc i (.int a' :: .int a :: st) := by
  obtain ⟨hx, hb, hml, hown, hts, hK, hD, hSK, hX, hbl, hbA⟩ := C
  intro H locs ls hP hS hl
  exact lv_icmp_eq hx hb hd ht (fun _ => kk H locs ls hP hS hl) (fun hn => absurd h hn)
theorem q_eql (C : LCw y b L xs g) {a a' : Int64} {off : Int} {tgt : Nat} (h : a = a') (hd0 : decode code pc = .ok (.lcmp, 1)) (hd : decode code (pc + 1) = .ok (.ifCond .eq off, 3)) (ht : ((pc + 1 : Nat) : Int) + off = (tgt : Int)) (kk : LSx y g b M cells slots tgt i st) : LSx y g b M cells slots pc i (.long a' :: .long a :: st) := by
  obtain ⟨hx, hb, hml, hown, hts, hK, hD, hSK, hX, hbl, hbA⟩ := C
  intro H locs ls hP hS hl
  subst h
  exact W.lcmp hx hb hd0 (lv_if_eq hx hb hd ht (fun _ => kk H locs ls hP hS hl) (fun hn => absurd ((lg_cmp_eq a a).mpr rfl) hn))
theorem q_widen {k n : Nat} (hk : cells ≤ k) (hn : slots ≤ n) (kk : LSx y g b M k n pc i st) : LSx y g b M cells slots pc i st := by
  intro H locs ls hP hS hl
  exact W.widen hk hn (kk H locs ls hP hS hl)
theorem q_next (C : LCw y b L xs g) (kk : LSx y g b M cells slots 18 (i + 6) []) : LSx y g b M cells slots 1834 i [] := by
  obtain ⟨hx, hb, hml, hown, hts, hK, hD, hSK, hX, hbl, hbA⟩ := C
  intro H locs ls hP hS hl
  refine lv_iinc (k := 0) (v := i + 6) (lv' := [(3, .int (i + 6)), (2, .ref (gA g 50 0 0)), (1, .ref (gA g 41 0 0)), (0, .ref b)]) hx hb dL_law_1834 hl rfl rfl (by decide) rfl (fun ls hl => ?_)
  exact lv_goto hx hb dL_law_1837 (by decide) (kk H locs ls hP hS hl)
theorem q_tab (C : LCw y b L xs g) {x : Int32} {off : Int} {tgt : Nat} {dflt lo hi : Int} {offs : Array Int} {len : Nat} (hd : decode code pc = .ok (.tableswitch dflt lo hi offs, len)) (h1 : ¬ x.toInt < lo) (h2 : ¬ hi < x.toInt) (ho : offs[(x.toInt - lo).toNat]? = some off) (ht : (pc : Int) + off = (tgt : Int)) (kk : LSx y g b M cells slots tgt i st) : LSx y g b M cells slots pc i (.int x :: st) := by
  obtain ⟨hx, hb, hml, hown, hts, hK, hD, hSK, hX, hbl, hbA⟩ := C
  intro H locs ls hP hS hl
  exact lv_tableIn hx hb hd h1 h2 ho ht (kk H locs ls hP hS hl)
theorem q_tabO (C : LCw y b L xs g) {x : Int32} {tgt : Nat} {dflt lo hi : Int} {offs : Array Int} {len : Nat} (hd : decode code pc = .ok (.tableswitch dflt lo hi offs, len)) (h1 : x.toInt < lo ∨ hi < x.toInt) (ht : (pc : Int) + dflt = (tgt : Int)) (kk : LSx y g b M cells slots tgt i st) : LSx y g b M cells slots pc i (.int x :: st) := by
  obtain ⟨hx, hb, hml, hown, hts, hK, hD, hSK, hX, hbl, hbA⟩ := C
  intro H locs ls hP hS hl
  exact lv_tableOut hx hb hd h1 ht (kk H locs ls hP hS hl)
theorem and63 (v : Int32) : ∃ k : Nat, k < 64 ∧ v &&& 63 = nI k := by
  have h1 : (v &&& 63).toBitVec.toNat ≤ 63 := by
    rw [Int32.toBitVec_and, BitVec.toNat_and]
    exact Nat.and_le_right
  refine ⟨(v &&& 63).toBitVec.toNat, by omega, ?_⟩
  apply Int32.toBitVec_inj.mp
  apply BitVec.eq_of_toNat_eq
  show _ = (Int32.ofNat (v &&& 63).toBitVec.toNat).toBitVec.toNat
  rw [Int32.toBitVec_ofNat', BitVec.toNat_ofNat]
  omega
/-- from the loop's head: to its end, or to the switch -/
theorem q_head (C : LCw y b L xs g) (hL : L ≤ 3072) {j : Nat} (hj : j ≤ 600) (ke : LSx y g b M cells slots 1840 (nI (6 * j)) []) (kk : 6 * j + 6 ≤ L → LSx y g b M cells slots 33 (nI (6 * j)) [.int (xs (nI (6 * j)).toNatClampNeg &&& 63)]) : LSx y g b M cells slots 18 (nI (6 * j)) [] := by
  obtain ⟨hx, hb, hml, hown, hts, hK, hD, hSK, hX, hbl, hbA⟩ := C
  intro H locs ls hP hS hl
  refine lv_iload_n hx hb dL_law_18 rfl (lv_at hl 0 rfl) ?_
  refine lv_aload_n hx hb dL_law_19 rfl (lv_at hl 3 rfl) ?_
  refine va_slen hx hb hX hbl hbA hS dL_law_20 ?_
  refine lv_bipush (v := 6) hx hb dL_law_21 (by decide) ?_
  refine lv_isub hx hb dL_law_23 ?_
  refine lv_icmp_gt (tgt := 1840) hx hb dL_law_24 (by decide) (fun _ => ke H locs ls hP hS hl) (fun hn => ?_)
  have h6 : 6 * j + 6 ≤ L := by
    have hn2 : ¬ nI L - nI 6 < nI (6 * j) := hn
    by_cases h : 6 ≤ L
    · rw [pk_sub h] at hn2
      have h3 := mt (nI_ltI (a := L - 6) (b := 6 * j) (by omega) (by omega)).mpr hn2
      omega
    · exfalso
      apply hn2
      have h3 := pk_sneg (a := L) (b := 6) (by omega) (by omega)
      have h4 := nI_pos' (n := 6 * j) (by omega)
      exact Int32.lt_of_lt_of_le h3 h4
  refine lv_aload_n hx hb dL_law_27 rfl (lv_at hl 3 rfl) ?_
  refine lv_iload_n hx hb dL_law_28 rfl (lv_at hl 0 rfl) ?_
  refine va_sld hx hb hX hbl hbA hS (vp_in_nI (by omega) (by omega)) dL_law_29 ?_
  refine lv_bipush (v := 63) hx hb dL_law_30 (by decide) ?_
  refine lv_iand hx hb dL_law_32 ?_
  exact kk h6 H locs ls hP hS hl
end LAW
