/-! ===== BEGIN new T[n][m]: the outer array a place, the inner ones among the pooled ===== -/
/-- f, but v at every address of l -/
def vr_up {α : Type} (f : Nat → α) (l : List Nat) (v : α) : Nat → α := fun a => if a ∈ l then v else f a
theorem vr_up_in {α : Type} {f : Nat → α} {l : List Nat} {v : α} {a : Nat} (h : a ∈ l) : vr_up f l v a = v := if_pos h
theorem vr_up_ne {α : Type} {f : Nat → α} {l : List Nat} {v : α} {a : Nat} (h : a ∉ l) : vr_up f l v a = f a := if_neg h
theorem vr_rows {L l : List Nat} {f : Nat → va_E} {e : va_E} (h : ∀ a, a ∈ l → a ∉ L) : va_pl L f ++ l.map (fun a => (a, e)) = va_pl (L ++ l) (vr_up f l e) := by
  unfold va_pl
  rw [List.map_append]
  congr 1
  · apply List.map_congr_left
    intro a ha
    rw [vr_up_ne (fun q => h a q ha)]
  · apply List.map_congr_left
    intro a ha
    rw [vr_up_in ha]
theorem vr_lay {X rows : va_W} {x : Nat × va_E} {pl : va_W} {D : va_G} {cl : List vw_C} {H : Heap} (hP : va_P D cl (((X ++ pl) ++ [x]) ++ rows) H) : va_P D cl ((X ++ [x]) ++ (pl ++ rows)) H := by
  rw [List.append_assoc (X ++ pl)] at hP
  have h := va_P.swap hP
  rw [← List.append_assoc X] at h
  have h2 := va_P.swap h
  rw [List.append_assoc (X ++ [x])] at h2
  exact h2
theorem vr_layD {X rows : va_W} {x : Nat × va_E} {pl : va_W} {A : Nat → Prop} (hD : va_D A (((X ++ pl) ++ [x]) ++ rows)) : va_D A ((X ++ [x]) ++ (pl ++ rows)) := by
  rw [List.append_assoc (X ++ pl)] at hD
  have h := va_D.swap hD
  rw [← List.append_assoc X] at h
  have h2 := va_D.swap h
  rw [List.append_assoc (X ++ [x])] at h2
  exact h2
theorem vr_outer (c : ClassId) (N h0 : Nat) : ∀ i : Nat, Jvm.Free.Multi.outerC c N h0 i = arrV c N (fun j => va_rf (if j < i then some (h0 + 1 + j) else none))
  | 0 => by
    show ({ cls := c, slots := Array.replicate N .null, vm := .none } : Cell) = _
    rw [arrV_new]
    refine congrArg (arrV c N) (funext fun j => ?_)
    simp [va_rf]
  | i + 1 => by
    show (Jvm.Free.Multi.outerC c N h0 i).setSlot i (.ref (h0 + 1 + i)) = _
    rw [vr_outer c N h0 i, arrV_store]
    refine congrArg (arrV c N) (funext fun j => ?_)
    by_cases e : j = i
    · subst e
      simp [updV, va_rf]
    · by_cases h : j < i
      · simp [updV, e, h, Nat.lt_succ_of_lt h]
      · simp [updV, e, h, show ¬ j < i + 1 by omega]
section VGM
variable {p : Program} {l : Launch} {e : Env} {R : Room} {s : State} {m : MethodId} {args : Array Value} {below : List Frame} {meth : Method} {c : Code} {H : Heap} {locs : List Loc} {cells slots : Nat} {Q : State → Prop}
variable {cc : ByteArray} {pc : Nat} {ls : Array Slot} {rest : List Value} {D : va_G} {cl : List vw_C} {A : Nat → Prop} {a : Nat} {tys : List (ClassId × FieldType)} {ws : va_W} {H0 : Heap}
/-- the class of arrays of arrays, found by its name and by its component -/
def va_AOA (ty : FieldType) (U : State) : Prop := (Cond.arrayOver (.array ty)).before #[] U = true
theorem va_AOA.of {ty : FieldType} {A : Array Value} {U : State} (h : (Cond.arrayOver (.array ty)).before A U = true) : va_AOA ty U := h
theorem va_AOA.use {ty : FieldType} {A : Array Value} {U : State} (h : va_AOA ty U) : (Cond.arrayOver (.array ty)).before A U = true := h
theorem va_mna {X : va_W} {L : List Nat} {f : Nat → va_E} {cc : ByteArray} (hexec : p.tables.exec = Jvm.exec) (hb : c.code = cc) {own : String} {index : Nat} {ty : FieldType} {cy : ClassId} (hown : s.vm.findClass own = some m.cls) (hclink : (Cond.classLink own index ("[" ++ (FieldType.array ty).toString)).before args s = true) (hover : va_AOA ty s) (harr : (Cond.arrayClass ty).before args s = true) (hcy : s.vm.findClass (FieldType.array ty).toString = some cy)
    (hK : va_K D cl tys s) (hP : va_P D cl (X ++ va_pl L f) H) (hD : va_D A (X ++ va_pl L f)) (hS : va_S A H0 H locs) (hA : ∀ q, H0.size ≤ q → A q) {n k : Int32} {N' K' : Nat} {z : vp_A} (hn : ¬ n < 0) (hk : ¬ k < 0) (hN : n.toNatClampNeg = N') (hM : k.toNatClampNeg = K')
    (hb1 : N' * 4 ≤ 536870912) (hb2 : K' * componentBytes ty ≤ 536870912) (hb3 : K' ≤ 536870912) (hdf : fits ty (defaultValue ty) = true) (hdd : (defaultValue ty).isDefault = true) (hcells : cells + (1 + N') ≤ R.cells) (hslots : slots + (N' + N' * K') ≤ R.slots) (hz : ∀ c : ClassId, Jvm.Free.Multi.innerC c K' (defaultValue ty) = vp_cell c z) (hdg : decode cc pc = .ok (.multianewarray index 2, 4))
    (kk : ∀ (q : Nat) (r : Nat → Nat) (cA : ClassId) (H1 : Heap), (∀ i j : Nat, i < N' → j < N' → r i = r j → i = j) → (∀ i : Nat, i < N' → r i ∉ L) → va_K D cl (tys ++ [(cA, .array ty)]) s →
      va_P D cl ((X ++ [(q, .inl (cA, N', .inr (.inr (.inr (.inr (fun i => if i < N' then some (r i) else none))))))]) ++ va_pl (L ++ (List.range N').map r) (vr_up f ((List.range N').map r) (.inl (cy, z)))) H1 → va_D A ((X ++ [(q, .inl (cA, N', .inr (.inr (.inr (.inr (fun i => if i < N' then some (r i) else none))))))]) ++ va_pl (L ++ (List.range N').map r) (vr_up f ((List.range N').map r) (.inl (cy, z)))) → va_S A H0 H1 locs →
      W p l e R s m args below meth c H1 locs (cells + 1 + N') (slots + N' + N' * K') Q (F0 m (pc + 4) ls (.ref q :: rest))) : W p l e R s m args below meth c H locs cells slots Q (F0 m pc ls (.int k :: .int n :: rest)) := by
  subst hN
  subst hM
  intro T hT Xs
  obtain ⟨vm₁, cA, comp, -, fA, fC, hO, -, X', step⟩ := Xs.multianewarray2F hexec hown hclink (va_AOA.use hover) harr (g := F0 m pc ls (.int k :: .int n :: rest)) rfl (by rw [hb]; exact hdg) rfl hn hk hb1 hb2 hb3 hdf hdd hcells hslots
  have ec : some cy = some comp := hcy.symm.trans fC
  cases ec
  generalize hF : Jvm.Free.Multi.fill (T.setVm vm₁) cA cy n.toNatClampNeg k.toNatClampNeg (defaultValue ty) n.toNatClampNeg = F at X' step
  have hTh : (T.setVm vm₁).heap = H := hT
  obtain ⟨f1, f2, -, -⟩ := Jvm.Free.Multi.fill_facts (T.setVm vm₁) cA cy n.toNatClampNeg k.toNatClampNeg (defaultValue ty) n.toNatClampNeg
  rw [hF, hTh] at f1 f2
  have hold : ∀ x : Nat, x < H.size → F.heap[x]? = H[x]? := fun x hx => by
    have := Jvm.Free.Multi.fill_old (T.setVm vm₁) cA cy n.toNatClampNeg k.toNatClampNeg (defaultValue ty) (a := x) (by rw [hTh]; exact hx) n.toNatClampNeg
    rw [hF, hTh] at this
    exact this
  have hrow : ∀ j : Nat, j < n.toNatClampNeg → F.heap[H.size + 1 + j]? = some (vp_cell cy z) := fun j hj => by
    have := Jvm.Free.Multi.fill_inner (T.setVm vm₁) cA cy n.toNatClampNeg k.toNatClampNeg (defaultValue ty) n.toNatClampNeg j hj
    rw [hF, hTh, hz] at this
    exact this
  have hout : Jvm.Free.Multi.outerC cA n.toNatClampNeg H.size n.toNatClampNeg = vp_cell cA (n.toNatClampNeg, .inr (.inr (.inr (.inr (fun i => if i < n.toNatClampNeg then some (H.size + 1 + i) else none))))) := by
    rw [vp_cell_q]
    exact vr_outer cA n.toNatClampNeg H.size n.toNatClampNeg
  rw [hout] at f2
  have hlt : ∀ a, a ∈ L → a < H.size := fun a ha => by
    obtain ⟨k9, hk9⟩ := va_pl_get (X := X) (f := f) ha
    exact (hP k9 _ hk9).lt
  have hnl : ∀ i : Nat, i < n.toNatClampNeg → H.size + 1 + i ∉ L := fun i _ h => by
    have := hlt _ h
    omega
  have hnm : ∀ a, a ∈ (List.range n.toNatClampNeg).map (fun i => H.size + 1 + i) → a ∉ L := fun a ha h => by
    obtain ⟨i, -, rfl⟩ := List.mem_map.mp ha
    have := hlt _ h
    omega
  have hP0 : va_P D cl (X ++ va_pl L f) F.heap := hP.kept (fun k9 x hx => hold x.1 ((hP k9 x hx).lt))
  have hP1 : va_P D cl ((X ++ va_pl L f) ++ [(H.size, .inl (cA, n.toNatClampNeg, .inr (.inr (.inr (.inr (fun i => if i < n.toNatClampNeg then some (H.size + 1 + i) else none))))))]) F.heap := hP0.app (fun k9 x hx => by
    have h0 : k9 < 1 := (List.getElem?_eq_some_iff.mp hx).1
    rw [show k9 = 0 by omega] at hx
    cases hx
    exact f2)
  have hP2 : va_P D cl (((X ++ va_pl L f) ++ [(H.size, .inl (cA, n.toNatClampNeg, .inr (.inr (.inr (.inr (fun i => if i < n.toNatClampNeg then some (H.size + 1 + i) else none))))))]) ++ ((List.range n.toNatClampNeg).map (fun i => H.size + 1 + i)).map (fun a => (a, .inl (cy, z)))) F.heap := hP1.app (fun k9 x hx => by
    obtain ⟨a, ha, rfl⟩ := List.mem_map.mp (List.mem_of_getElem? hx)
    obtain ⟨i, hi, rfl⟩ := List.mem_map.mp ha
    exact hrow i (List.mem_range.mp hi))
  have hD2 : va_D A (((X ++ va_pl L f) ++ [(H.size, .inl (cA, n.toNatClampNeg, .inr (.inr (.inr (.inr (fun i => if i < n.toNatClampNeg then some (H.size + 1 + i) else none))))))]) ++ ((List.range n.toNatClampNeg).map (fun i => H.size + 1 + i)).map (fun a => (a, .inl (cy, z)))) := by
    have hD1 := hD.push (e := .inl (cA, n.toNatClampNeg, .inr (.inr (.inr (.inr (fun i => if i < n.toNatClampNeg then some (H.size + 1 + i) else none)))))) hP rfl (hA _ hS.1)
    generalize hW1 : (X ++ va_pl L f) ++ [(H.size, .inl (cA, n.toNatClampNeg, .inr (.inr (.inr (.inr (fun i => if i < n.toNatClampNeg then some (H.size + 1 + i) else none))))))] = W1 at hD1 hP1 ⊢
    have hle : ∀ (k9 : Nat) (x : Nat × va_E), W1[k9]? = some x → x.1 ≤ H.size := fun k9 x hx => by
      rw [← hW1] at hx
      by_cases hl : k9 < (X ++ va_pl L f).length
      · rw [List.getElem?_append_left hl] at hx
        exact Nat.le_of_lt ((hP k9 x hx).lt)
      · rw [List.getElem?_append_right (by omega)] at hx
        have h0 : k9 - (X ++ va_pl L f).length < 1 := (List.getElem?_eq_some_iff.mp hx).1
        rw [show k9 - (X ++ va_pl L f).length = 0 by omega] at hx
        cases hx
        exact Nat.le_refl _
    have hr : ∀ (k9 : Nat) (x : Nat × va_E), (((List.range n.toNatClampNeg).map (fun i => H.size + 1 + i)).map (fun a => ((a, .inl (cy, z)) : Nat × va_E)))[k9]? = some x → x.1 = H.size + 1 + k9 := fun k9 x hx => by
      rw [List.getElem?_map, List.getElem?_map] at hx
      by_cases h9 : k9 < n.toNatClampNeg
      · rw [List.getElem?_range h9] at hx
        cases hx
        rfl
      · have hn0 : (List.range n.toNatClampNeg)[k9]? = none := List.getElem?_eq_none (by rw [List.length_range]; omega)
        rw [hn0] at hx
        cases hx
    refine ⟨fun i j x y hi hj hxy => ?_, fun k9 x hx => ?_⟩
    · by_cases h1 : i < W1.length <;> by_cases h2 : j < W1.length
      · rw [List.getElem?_append_left h1] at hi
        rw [List.getElem?_append_left h2] at hj
        exact hD1.1 i j x y hi hj hxy
      · rw [List.getElem?_append_left h1] at hi
        rw [List.getElem?_append_right (by omega)] at hj
        have := hle _ _ hi
        have := hr _ _ hj
        omega
      · rw [List.getElem?_append_right (by omega)] at hi
        rw [List.getElem?_append_left h2] at hj
        have := hle _ _ hj
        have := hr _ _ hi
        omega
      · rw [List.getElem?_append_right (by omega)] at hi hj
        have := hr _ _ hi
        have := hr _ _ hj
        omega
    · by_cases h1 : k9 < W1.length
      · rw [List.getElem?_append_left h1] at hx
        exact hD1.2 k9 x hx
      · rw [List.getElem?_append_right (by omega)] at hx
        have := hr _ _ hx
        exact hA _ (by have := hS.1; omega)
  have hAr : ArrOfT s cA (.array ty) := fun N9 z9 => by
    obtain ⟨-, k9, hk9, cm9, hkk9⟩ := (hO 0 0 0).1
    exact ⟨(fun q hq => by cases hq), k9, hk9, cm9, hkk9⟩
  have hK2 : va_K D cl (tys ++ [(cA, .array ty)]) s := ⟨hK.1, fun k9 x hx => by
    by_cases hl : k9 < tys.length
    · rw [List.getElem?_append_left hl] at hx
      exact hK.2 k9 x hx
    · rw [List.getElem?_append_right (by omega)] at hx
      have h0 : k9 - tys.length < 1 := (List.getElem?_eq_some_iff.mp hx).1
      rw [show k9 - tys.length = 0 by omega] at hx
      cases hx
      exact ⟨hAr, fA⟩⟩
  obtain ⟨t, a1, b1⟩ := kk H.size (fun i => H.size + 1 + i) cA F.heap (fun i j _ _ h => by have h9 : H.size + 1 + i = H.size + 1 + j := h; omega) hnl hK2 (by rw [← vr_rows hnm]; exact vr_lay hP2) (by rw [← vr_rows hnm]; exact vr_layD hD2) ⟨by rw [f1]; have := hS.1; omega, fun x h1 h2 => (hold x (Nat.lt_of_lt_of_le h1 hS.1)).trans (hS.2.1 x h1 h2), hS.2.2⟩ F rfl X'
  refine ⟨t, step t ?_, b1⟩
  have e : T.heap.size = H.size := by rw [hT]
  rw [e]
  exact a1
end VGM

theorem n_ne {ws tl : va_W} {a b : Nat × va_E} {k : Nat} (h : ¬ k = ws.length) : (ws ++ (a :: tl))[k]? = (ws ++ (b :: tl))[k]? := by
  by_cases h1 : k < ws.length
  · rw [List.getElem?_append_left h1, List.getElem?_append_left h1]
  · rw [List.getElem?_append_right (by omega), List.getElem?_append_right (by omega)]
    obtain ⟨m, hm⟩ : ∃ m, k - ws.length = m + 1 := ⟨k - ws.length - 1, by omega⟩
    rw [hm]
    rfl
theorem innerC_int (c : ClassId) (K : Nat) : Jvm.Free.Multi.innerC c K (defaultValue .int) = vp_cell c (K, .inl (fun _ => 0)) := by
  rw [vp_cell_i]
  exact arrV_new c K _

theorem va_AOA.spec {ty : FieldType} {s : State} (h : va_AOA ty s) : ∃ comp c k, s.vm.findClass (FieldType.array ty).toString = some comp ∧ (s.vm.classes.findIdx? fun (x : Class) => match x.kind with | .array component _ => component == comp | _ => false) = some c ∧ s.vm.classes[c]? = some k ∧ k.kind = .array comp (.array ty) ∧ s.vm.findClass ("[" ++ (FieldType.array ty).toString) = some c := by
  unfold va_AOA at h
  simp only [Cond.before, Cond.holds, Cond.value, beq_iff_eq] at h
  cases hc : s.vm.findClass (FieldType.array ty).toString with
  | none => simp [hc] at h
  | some comp =>
    simp only [hc, Option.bind_some, Option.bind_eq_some_iff, Option.map_eq_some_iff] at h
    obtain ⟨c, hi, k, hk, hb⟩ := h
    obtain ⟨hlt, hp, -⟩ := Array.findIdx?_eq_some_iff_getElem.mp hi
    have hkk : s.vm.classes[c] = k := (Array.getElem?_eq_some_iff.mp hk).2
    rw [hkk] at hp
    cases hkind : k.kind with
    | array component ty2 =>
      rw [hkind] at hb hp
      simp at hb hp
      exact ⟨comp, c, k, rfl, hi, hk, by rw [hkind, hp, hb.1], hb.2⟩
    | _ => rw [hkind] at hb; simp at hb
theorem va_AOA.moved {ty : FieldType} {u U : State} (hvm : u.vm.Alike U.vm) (h : va_AOA ty u) : va_AOA ty U := by
  obtain ⟨comp, c, k, h1, h2, h3, h4, h5⟩ := va_AOA.spec h
  obtain ⟨k', hk', he⟩ := hvm.2.2 _ _ h3
  have hi : (U.vm.classes.findIdx? fun (x : Class) => match x.kind with | .array component _ => component == comp | _ => false) = some c := by
    refine (va_idx_bare U.vm comp).symm.trans ?_
    first | rw [hvm.bare_eq] | rw [← hvm.bare_eq]
    exact (va_idx_bare u.vm comp).trans h2
  have hkind : k'.kind = .array comp (.array ty) := by rw [he]; exact h4
  have f1' : U.vm.findClass (FieldType.array ty).toString = some comp := by rw [hvm.findClass]; exact h1
  have f2 : U.vm.findClass ("[" ++ (FieldType.array ty).toString) = some c := by rw [hvm.findClass]; exact h5
  unfold va_AOA Cond.before Cond.holds
  simp only [Cond.value]
  rw [f1', Option.bind_some]
  refine (congrArg (fun o : Option Nat => (o.bind (fun c => (U.vm.classes[c]?).map fun (k : Class) => match k.kind with | .array _ t => decide (t = FieldType.array ty) && decide (U.vm.findClass ("[" ++ (FieldType.array ty).toString) = some c) | _ => false) == some true)) hi).trans ?_
  simp [hk', hkind, f2]
/-- what constructors need of the tables beside their words -/
def CNw (U : State) : Prop := (∀ q ∈ tabNestW, va_Nw (.methodLinkNest q.1 q.2.1 q.2.2.1 q.2.2.2) U) ∧ va_AO "WatchStack$Board" U ∧ va_AO "WatchStack$TaskState" U ∧ va_AOA .int U
theorem CNw.warm {s U : State} (hW : s.WarmedH U.vm) (h : CNw s) : CNw U := ⟨fun q hq => va_Nw.warmM hW (h.1 q hq), h.2.1.moved hW.alike, h.2.2.1.moved hW.alike, h.2.2.2.moved hW.alike⟩
theorem CNw.same {u U : State} (hv : U.vm = u.vm) (h : CNw u) : CNw U := ⟨fun q hq => va_Nw.same rfl hv.symm (h.1 q hq), h.2.1.moved (by rw [hv]; exact Vm.Alike.refl u.vm), h.2.2.1.moved (by rw [hv]; exact Vm.Alike.refl u.vm), h.2.2.2.moved (by rw [hv]; exact Vm.Alike.refl u.vm)⟩
def PNw (g : Gw) (h0 ci : Nat) (fs : List Value) (sz : Nat) (U : State) : Prop := U.heap.size = sz ∧ va_P (gD g) vwCl [(h0, .inr (ci, fs))] U.heap ∧ va_K (gD g) vwCl (tyW g) U ∧ va_D (fun _ => True) [(h0, .inr (ci, fs))] ∧ CNw U
def Qnw (g : Gw) (A : Nat → Prop) (h0 : Nat) (wsN : (Nat → Nat → Nat → Nat) → va_W) : Array Value → State → Outcome → State → Prop := fun _ st oc t => oc = .returned none ∧ (∃ ad : Nat → Nat → Nat → Nat, va_P (gD g) vwCl (wsN ad) t.heap ∧ va_D A (wsN ad) ∧ ((wsN ad)[0]?).map Prod.fst = some h0) ∧ va_F A st t
theorem PNw.blind {g : Gw} {h0 ci : Nat} {fs : List Value} {sz : Nat} {av : List Value} : FrameBlind (va_Pc av (PNw g h0 ci fs sz)) := by
  intro a U gf mk h
  obtain ⟨h1, h2, h3, h4, h5, h6⟩ := h
  exact ⟨h1, h2, h3, va_K.moved (u := U) (U := U.calling gf mk a) (Vm.Alike.refl U.vm) h4, h5, CNw.same (u := U) (U := U.calling gf mk a) rfl h6⟩
abbrev NMet (g : Gw) (l : Launch) (y : MethodName) (cc : ByteArray) (nL d mc ms h0 ci : Nat) (fs : List Value) (sz : Nat) (wsN : (Nat → Nat → Nat → Nat) → va_W) : Prop :=
  Met l y (.code y cc nL none :: U0w) { frames := d, cells := mc, slots := ms, locals := 100 * d } (va_Pc [.ref h0] (PNw g h0 ci fs sz)) (Qnw g (va_A [(h0, .inr (ci, fs))] sz) h0 wsN) mc ms (va_A [(h0, .inr (ci, fs))] sz)
set_option maxHeartbeats 4000000 in
theorem NMet.of {g : Gw} {l : Launch} {y : MethodName} {cc : ByteArray} {nL d mc ms h0 ci : Nat} {fs : List Value} {sz : Nat} {wsN : (Nat → Nat → Nat → Nat) → va_W} {own : String} (hy : plainName y.cls = true) (hown : y.cls = own) (hnm : y.name = "<init>") (hlen : 1 ≤ nL)
    (body : ∀ (p : Program) (e : Env) (R : Room) (s : State) (m : MethodId) (args : Array Value) (below : List Frame) (meth : Method) (c : Code) (A : Nat → Prop), p.tables.exec = Jvm.exec → c.code = cc → c.maxLocals = nL → s.vm.findClass own = some m.cls → (∀ w ∈ U0w, w.before args s = true) → va_K (gD g) vwCl (tyW g) s → CNw s → (∀ q, s.heap.size ≤ q → A q) → R = { frames := d, cells := mc, slots := ms, locals := 100 * d } → meth.locks = false → meth.sig.returnType = none → meth.name = "<init>" →
      ∀ (H : Heap) (ls : Array Slot), va_P (gD g) vwCl [(h0, .inr (ci, fs))] H → va_D A [(h0, .inr (ci, fs))] → va_S A s.heap H [] → lv_has ls nL [(0, .ref h0)] → W p l e R s m args below meth c H [] 0 0 (MQ below (Qnw g A h0 wsN) args s mc ms A) (F0 m 0 ls [])) : NMet g l y cc nL d mc ms h0 ci fs sz wsN := by
  refine Met.ofW (cc := cc) (maxL := nL) (ret := none) hy rfl ?_
  intro p e s m args below meth c s₁ B hml hv
  obtain ⟨rfl, hsz, hP, hK, hD, hCN⟩ := hv
  have hts := atoms_spec (ws := .code y cc nL none :: U0w) B.pre
  have hfc : s.vm.findClass own = some m.cls := by rw [← hown]; exact findClass_of_methodNamed B.named
  have hin : meth.name = "<init>" := ((name_of_methodNamed B.named B.method).1).trans hnm
  subst hsz
  have hD2 := hD.self (sz := s.heap.size)
  have hA : ∀ q : Nat, s.heap.size ≤ q → va_A [(h0, .inr (ci, fs))] s.heap.size q := fun q h => Or.inr h
  have hl := lv_entry ([.ref h0]) (n := nL) hlen
  rw [lg_entry_eq]
  generalize (lg_sl ([.ref h0]) ++ List.replicate (nL - (lg_sl ([.ref h0])).length) Slot.unset).toArray = ls at hl ⊢
  have hl : lv_has ls nL [(0, .ref h0)] := hl
  exact body p e _ s m _ below meth c _ B.exec B.bytes hml hfc (fun w hw => hts w (List.mem_cons_of_mem _ hw)) hK hCN hA rfl B.notSynchronized B.returns hin s.heap ls hP hD2 va_S.rf hl
theorem ca_0 {g : Gw} {s : State} {cA : ClassId} (hK : va_K (gD g) vwCl (tyW g) s) (hK1 : va_K (gD g) vwCl (tyW g ++ [(cA, .int)]) s) : cA = gC g 0 := by
  have h0 := (hK.2 0 _ rfl).2
  have h1 := (hK1.2 8 (cA, .int) rfl).2
  have h0 : s.vm.findClass ("[" ++ FieldType.toString .int) = some (gC g 0) := h0
  have h1 : s.vm.findClass ("[" ++ FieldType.toString .int) = some cA := h1
  exact (Option.some.inj (h0.symm.trans h1)).symm
theorem ca_1 {g : Gw} {s : State} {cA : ClassId} (hK : va_K (gD g) vwCl (tyW g) s) (hK1 : va_K (gD g) vwCl (tyW g ++ [(cA, .boolean)]) s) : cA = gC g 1 := by
  have h0 := (hK.2 1 _ rfl).2
  have h1 := (hK1.2 8 (cA, .boolean) rfl).2
  have h0 : s.vm.findClass ("[" ++ FieldType.toString .boolean) = some (gC g 1) := h0
  have h1 : s.vm.findClass ("[" ++ FieldType.toString .boolean) = some cA := h1
  exact (Option.some.inj (h0.symm.trans h1)).symm
theorem ca_2 {g : Gw} {s : State} {cA : ClassId} (hK : va_K (gD g) vwCl (tyW g) s) (hK1 : va_K (gD g) vwCl (tyW g ++ [(cA, .byte)]) s) : cA = gC g 2 := by
  have h0 := (hK.2 2 _ rfl).2
  have h1 := (hK1.2 8 (cA, .byte) rfl).2
  have h0 : s.vm.findClass ("[" ++ FieldType.toString .byte) = some (gC g 2) := h0
  have h1 : s.vm.findClass ("[" ++ FieldType.toString .byte) = some cA := h1
  exact (Option.some.inj (h0.symm.trans h1)).symm
theorem ca_3 {g : Gw} {s : State} {cA : ClassId} (hK : va_K (gD g) vwCl (tyW g) s) (hK1 : va_K (gD g) vwCl (tyW g ++ [(cA, .float)]) s) : cA = gC g 3 := by
  have h0 := (hK.2 3 _ rfl).2
  have h1 := (hK1.2 8 (cA, .float) rfl).2
  have h0 : s.vm.findClass ("[" ++ FieldType.toString .float) = some (gC g 3) := h0
  have h1 : s.vm.findClass ("[" ++ FieldType.toString .float) = some cA := h1
  exact (Option.some.inj (h0.symm.trans h1)).symm
theorem ca_4 {g : Gw} {s : State} {cA : ClassId} (hK : va_K (gD g) vwCl (tyW g) s) (hK1 : va_K (gD g) vwCl (tyW g ++ [(cA, .double)]) s) : cA = gC g 4 := by
  have h0 := (hK.2 4 _ rfl).2
  have h1 := (hK1.2 8 (cA, .double) rfl).2
  have h0 : s.vm.findClass ("[" ++ FieldType.toString .double) = some (gC g 4) := h0
  have h1 : s.vm.findClass ("[" ++ FieldType.toString .double) = some cA := h1
  exact (Option.some.inj (h0.symm.trans h1)).symm
theorem ca_5 {g : Gw} {s : State} {cA : ClassId} (hK : va_K (gD g) vwCl (tyW g) s) (hK1 : va_K (gD g) vwCl (tyW g ++ [(cA, (.array .int))]) s) : cA = gC g 5 := by
  have h0 := (hK.2 5 _ rfl).2
  have h1 := (hK1.2 8 (cA, (.array .int)) rfl).2
  have h0 : s.vm.findClass ("[" ++ FieldType.toString (.array .int)) = some (gC g 5) := h0
  have h1 : s.vm.findClass ("[" ++ FieldType.toString (.array .int)) = some cA := h1
  exact (Option.some.inj (h0.symm.trans h1)).symm
theorem ca_6 {g : Gw} {s : State} {cA : ClassId} (hK : va_K (gD g) vwCl (tyW g) s) (hK1 : va_K (gD g) vwCl (tyW g ++ [(cA, .object "WatchStack$Board")]) s) : cA = gC g 6 := by
  obtain ⟨_, _, _, _, _, h0⟩ := (hK.2 6 _ rfl).2
  obtain ⟨_, _, _, _, _, h1⟩ := (hK1.2 8 (cA, .object "WatchStack$Board") rfl).2
  exact (Option.some.inj (h0.symm.trans h1)).symm
theorem ca_7 {g : Gw} {s : State} {cA : ClassId} (hK : va_K (gD g) vwCl (tyW g) s) (hK1 : va_K (gD g) vwCl (tyW g ++ [(cA, .object "WatchStack$TaskState")]) s) : cA = gC g 7 := by
  obtain ⟨_, _, _, _, _, h0⟩ := (hK.2 7 _ rfl).2
  obtain ⟨_, _, _, _, _, h1⟩ := (hK1.2 8 (cA, .object "WatchStack$TaskState") rfl).2
  exact (Option.some.inj (h0.symm.trans h1)).symm
theorem va_joinN {A0 : Nat → Prop} {D : va_G} {cl : List vw_C} {wr w1 : va_W} {x : Nat × va_E} {H H1 : Heap} (hP : va_P D cl (wr ++ [x]) H) (hD : va_D A0 (wr ++ [x])) (hk : ∀ q : Nat, q < H.size → ¬ va_A [x] H.size q → H1[q]? = H[q]?) (hF : ∀ q, va_A [x] H.size q → A0 q) (hP1 : va_P D cl w1 H1) (hD1 : va_D (va_A [x] H.size) w1) : va_P D cl (wr ++ w1) H1 ∧ va_D A0 (wr ++ w1) := by
  have apart : ∀ (k : Nat) (q : Nat × va_E), wr[k]? = some q → q.1 < H.size ∧ ¬ va_A [x] H.size q.1 := by
    intro k q hq
    have hkl : k < wr.length := (List.getElem?_eq_some_iff.mp hq).1
    have h2 : (wr ++ [x])[k]? = some q := by rw [List.getElem?_append_left hkl]; exact hq
    have hl := (hP k q h2).lt
    refine ⟨hl, fun h => ?_⟩
    rcases h with ⟨k2, e, h⟩ | h
    · have hk2 : k2 < 1 := (List.getElem?_eq_some_iff.mp h).1
      rw [show k2 = 0 by omega] at h
      have hx : x = (q.1, e) := Option.some.inj h
      have h3 : (wr ++ [x])[wr.length]? = some x := by simp
      have hij := hD.1 k wr.length q x h2 h3 (by rw [hx])
      omega
    · omega
  refine ⟨va_P.app (fun k q hq => ?_) hP1, va_D.app ?_ (hD1.weaken (fun k q _ h => hF q.1 h)) (fun i j a b ha hb hab => ?_)⟩
  · have hkl : k < wr.length := (List.getElem?_eq_some_iff.mp hq).1
    obtain ⟨g1, g2⟩ := apart k q hq
    exact (hP k q (by rw [List.getElem?_append_left hkl]; exact hq)).kept (hk q.1 g1 g2)
  · refine ⟨fun i j a b ha hb hab => ?_, fun k q hq => ?_⟩
    · have h1 : i < wr.length := (List.getElem?_eq_some_iff.mp ha).1
      have h2 : j < wr.length := (List.getElem?_eq_some_iff.mp hb).1
      exact hD.1 i j a b (by rw [List.getElem?_append_left h1]; exact ha) (by rw [List.getElem?_append_left h2]; exact hb) hab
    · have h1 : k < wr.length := (List.getElem?_eq_some_iff.mp hq).1
      exact hD.2 k q (by rw [List.getElem?_append_left h1]; exact hq)
  · exact (apart i a ha).2 (by rw [hab]; exact hD1.2 j b hb)
section NCALL
variable {p : Program} {l : Launch} {e : Env} {R : Room} {s : State} {m : MethodId} {args : Array Value} {below : List Frame} {meth : Method} {c : Code} {H : Heap} {locs : List Loc} {cells slots : Nat} {Q : State → Prop}
variable {pc : Nat} {ls : Array Slot} {rest : List Value} {g : Gw} {A : Nat → Prop} {cc : ByteArray} {nL d mc ms : Nat} {own : String}
theorem n_behind {wr : va_W} {q ci mc' ms' : Nat} {fs : List Value} {wsN : (Nat → Nat → Nat → Nat) → va_W} {a : Array Value} {st0 : List Value} (hP : va_P (gD g) vwCl (wr ++ [(q, .inr (ci, fs))]) H) (hD : va_D A (wr ++ [(q, .inr (ci, fs))])) (hS : va_S A s.heap H locs) (hA : ∀ q, s.heap.size ≤ q → A q)
    (hr : va_Run p l e R s m args below meth c H locs cells slots mc' ms' (F0 m pc ls st0) rest (Qnw g (va_A [(q, .inr (ci, fs))] H.size) q wsN a) (va_A [(q, .inr (ci, fs))] H.size))
    (kk : ∀ (ad : Nat → Nat → Nat → Nat) (H1 : Heap) (locs1 : List Loc), ((wsN ad)[0]?).map Prod.fst = some q → va_P (gD g) vwCl (wr ++ wsN ad) H1 → va_D A (wr ++ wsN ad) → va_S A s.heap H1 locs1 → W p l e R s m args below meth c H1 locs1 (cells + mc') (slots + ms') Q (F0 m (pc + 3) ls rest)) : W p l e R s m args below meth c H locs cells slots Q (F0 m pc ls st0) := by
  have hF : ∀ q', va_A [(q, .inr (ci, fs))] H.size q' → A q' := by
    intro q' h
    rcases h with ⟨k, e', h⟩ | h
    · have hk : k < 1 := (List.getElem?_eq_some_iff.mp h).1
      rw [show k = 0 by omega] at h
      cases h
      exact hD.2 wr.length (q, .inr (ci, fs)) (by simp)
    · exact hA q' (Nat.le_trans hS.1 h)
  intro T hT X
  obtain ⟨v, st₀, t, T', L, h0, X', hL, e1, e2, ⟨hv, ⟨ad, hp1, hd1, hh⟩, hz, hk⟩, st⟩ := hr T hT X
  cases hv
  rw [h0] at hz hk
  obtain ⟨hP2, hD2⟩ := va_joinN hP hD hk hF hp1 hd1
  obtain ⟨t2, a1, b1⟩ := kk ad T'.heap (locs ++ L) hh (by rw [e1]; exact hP2) hD2 ⟨Nat.le_trans hS.1 (by rw [e1]; exact hz), fun q1 h1 h2 => by rw [e1, hk q1 (Nat.lt_of_lt_of_le h1 hS.1) (fun z => h2 (hF q1 z))]; exact hS.2.1 q1 h1 h2, fun q1 hq => by
      rcases List.mem_append.mp hq with h | h
      · exact hS.2.2 q1 h
      · exact hF _ (hL q1 h)⟩ T' rfl X'
  exact ⟨t2, st t2 a1, b1⟩
theorem n_callN (hx : p.tables.exec = Jvm.exec) (hb : c.code = cc) (hml : c.maxLocals = nL) (hown : s.vm.findClass own = some m.cls) (hts : ∀ w ∈ U0w, w.before args s = true) (hK : va_K (gD g) vwCl (tyW g) s) (hCN : CNw s) (hA : ∀ q, s.heap.size ≤ q → A q) (hR : R = { frames := d, cells := mc, slots := ms, locals := 100 * d }) {y : MethodName} {Cn : String} {cc' : ByteArray} {nL' d' mc' ms' idx ci : Nat} {fs : List Value} {wr : va_W} {q : Nat} {wsN : (Nat → Nat → Nat → Nat) → va_W} {lv : List (Nat × Value)} (hl : lv_has ls nL lv)
    (hP : va_P (gD g) vwCl (wr ++ [(q, .inr (ci, fs))]) H) (hD : va_D A (wr ++ [(q, .inr (ci, fs))])) (hS : va_S A s.heap H locs) (hM : NMet g l y cc' nL' d' mc' ms' q ci fs H.size wsN) (hd : decode cc pc = .ok (.invokespecial idx, 3)) (hw1 : ∃ host, (own, idx, y, host) ∈ tabNestW) (hnm : y.name = "<init>") (hw2 : Cond.instanceMethod y ∈ U0w) (hi : Mi y Cn cc' nL' none 0) (hdd : d' + 1 ≤ d) (hcat : (rest.map fun v => v.category).sum ≤ 8) (hkc : cells + mc' ≤ mc) (hks : slots + ms' ≤ ms)
    (kk : ∀ (ad : Nat → Nat → Nat → Nat) (H1 : Heap) (locs1 : List Loc), ((wsN ad)[0]?).map Prod.fst = some q → va_P (gD g) vwCl (wr ++ wsN ad) H1 → va_D A (wr ++ wsN ad) → va_S A s.heap H1 locs1 → W p l e R s m args below meth c H1 locs1 (cells + mc') (slots + ms') Q (F0 m (pc + 3) ls rest)) : W p l e R s m args below meth c H locs cells slots Q (F0 m pc ls (.ref q :: rest)) := by
  obtain ⟨i1, i2, i3, i4, i5⟩ := hi
  have cwG : GoodIn U0w (Cond.code y cc' nL' none :: U0w) := U0w_good (fun w hw => by
    rcases List.mem_cons.mp hw with h | h
    · rw [h]; exact i1
    · exact h)
  have hPc : va_P (gD g) vwCl [(q, .inr (ci, fs))] H := fun k x hx => by
    have hk : k < 1 := (List.getElem?_eq_some_iff.mp hx).1
    rw [show k = 0 by omega] at hx
    cases hx
    exact hP wr.length (q, .inr (ci, fs)) (by simp)
  have hDc : va_D (fun _ => True) [(q, .inr (ci, fs))] := ⟨fun i j a b ha hb' _ => by
    have h1 : i < 1 := (List.getElem?_eq_some_iff.mp ha).1
    have h2 : j < 1 := (List.getElem?_eq_some_iff.mp hb').1
    omega, fun _ _ _ => trivial⟩
  have hRR : d' + 1 ≤ R.frames ∧ 8 + (nL' + 11) + 100 * d' ≤ R.locals := by rw [hR]; exact ⟨hdd, by show 8 + (nL' + 11) + 100 * d' ≤ 100 * d; omega⟩
  obtain ⟨host, hw1⟩ := hw1
  have cb : va_CN R s args own idx y host cc' nL' none (Cond.code y cc' nL' none :: U0w) { frames := d', cells := mc', slots := ms', locals := 100 * d' } mc' ms' 0 := va_cnB 0 hts cwG rfl rfl rfl (hCN.1 _ hw1) (by rw [i3]; exact hts _ i2) i4 hRR
  exact n_behind hP hD hS hA (va_runIN (n := 0) (nL := nL) (As := []) (rest := rest) ⟨hx, hb, hml, hown, hts⟩ hM ⟨cb, hnm, hts _ hw2⟩ ⟨PNw.blind, fun U hU hW => ⟨rfl, by rw [hU], by rw [hU]; exact hPc, va_K.moved hW.alike hK, hDc, CNw.warm hW hCN⟩⟩ rfl rfl hl.1 rfl (lv_room hcat) hd (by rw [hR]; exact ⟨hkc, hks⟩)) kk
theorem n_callI (hx : p.tables.exec = Jvm.exec) (hb : c.code = cc) (hml : c.maxLocals = nL) (hown : s.vm.findClass own = some m.cls) (hts : ∀ w ∈ U0w, w.before args s = true) (hK : va_K (gD g) vwCl (tyW g) s) (hCN : CNw s) (hA : ∀ q, s.heap.size ≤ q → A q) (hR : R = { frames := d, cells := mc, slots := ms, locals := 100 * d }) {y : MethodName} {Cn : String} {cc' : ByteArray} {nL' d' mc' ms' idx ci : Nat} {fs : List Value} {wr : va_W} {q : Nat} {wsN : (Nat → Nat → Nat → Nat) → va_W} {lv : List (Nat × Value)} (hl : lv_has ls nL lv)
    (hP : va_P (gD g) vwCl (wr ++ [(q, .inr (ci, fs))]) H) (hD : va_D A (wr ++ [(q, .inr (ci, fs))])) (hS : va_S A s.heap H locs) (hM : NMet g l y cc' nL' d' mc' ms' q ci fs H.size wsN) (hd : decode cc pc = .ok (.invokespecial idx, 3)) (hw1 : Cond.methodLink own idx y ∈ U0w) (hnm : y.name = "<init>") (hw2 : Cond.instanceMethod y ∈ U0w) (hi : Mi y Cn cc' nL' none 0) (hdd : d' + 1 ≤ d) (hcat : (rest.map fun v => v.category).sum ≤ 8) (hkc : cells + mc' ≤ mc) (hks : slots + ms' ≤ ms)
    (kk : ∀ (ad : Nat → Nat → Nat → Nat) (H1 : Heap) (locs1 : List Loc), ((wsN ad)[0]?).map Prod.fst = some q → va_P (gD g) vwCl (wr ++ wsN ad) H1 → va_D A (wr ++ wsN ad) → va_S A s.heap H1 locs1 → W p l e R s m args below meth c H1 locs1 (cells + mc') (slots + ms') Q (F0 m (pc + 3) ls rest)) : W p l e R s m args below meth c H locs cells slots Q (F0 m pc ls (.ref q :: rest)) := by
  obtain ⟨i1, i2, i3, i4, i5⟩ := hi
  have cwG : GoodIn U0w (Cond.code y cc' nL' none :: U0w) := U0w_good (fun w hw => by
    rcases List.mem_cons.mp hw with h | h
    · rw [h]; exact i1
    · exact h)
  have hPc : va_P (gD g) vwCl [(q, .inr (ci, fs))] H := fun k x hx => by
    have hk : k < 1 := (List.getElem?_eq_some_iff.mp hx).1
    rw [show k = 0 by omega] at hx
    cases hx
    exact hP wr.length (q, .inr (ci, fs)) (by simp)
  have hDc : va_D (fun _ => True) [(q, .inr (ci, fs))] := ⟨fun i j a b ha hb' _ => by
    have h1 : i < 1 := (List.getElem?_eq_some_iff.mp ha).1
    have h2 : j < 1 := (List.getElem?_eq_some_iff.mp hb').1
    omega, fun _ _ _ => trivial⟩
  have hRR : d' + 1 ≤ R.frames ∧ 8 + (nL' + 11) + 100 * d' ≤ R.locals := by rw [hR]; exact ⟨hdd, by show 8 + (nL' + 11) + 100 * d' ≤ 100 * d; omega⟩
  have cb : CallB R s args own idx y cc' nL' none (Cond.code y cc' nL' none :: U0w) { frames := d', cells := mc', slots := ms', locals := 100 * d' } mc' ms' 0 := callB_of 0 hts cwG rfl rfl rfl (by rw [i3]; exact hts _ i2) (hts _ hw1) i4 hRR
  exact n_behind hP hD hS hA (va_runI (n := 0) (nL := nL) (As := []) (rest := rest) ⟨hx, hb, hml, hown, hts⟩ hM ⟨cb, hnm, hts _ hw2⟩ ⟨PNw.blind, fun U hU hW => ⟨rfl, by rw [hU], by rw [hU]; exact hPc, va_K.moved hW.alike hK, hDc, CNw.warm hW hCN⟩⟩ rfl rfl hl.1 rfl (lv_room hcat) hd (by rw [hR]; exact ⟨hkc, hks⟩)) kk
theorem n_mna (hx : p.tables.exec = Jvm.exec) (hb : c.code = cc) (hown : s.vm.findClass own = some m.cls) (hts : ∀ w ∈ U0w, w.before args s = true) (hK : va_K (gD g) vwCl (tyW g) s) (hCN : CNw s) (hA : ∀ q, s.heap.size ≤ q → A q) {ws : va_W} (hP : va_P (gD g) vwCl ws H) (hD : va_D A ws) (hS : va_S A s.heap H locs) {idx : Nat} (hd : decode cc pc = .ok (.multianewarray idx 2, 4)) (hw1 : Cond.classLink own idx "[[I" ∈ U0w) (hw2 : Cond.arrayClass .int ∈ U0w) {z1 z2 : Int32} {N K : Nat} (hz1 : ¬ z1 < 0) (hz2 : ¬ z2 < 0) (hN : z1.toNatClampNeg = N) (hM : z2.toNatClampNeg = K) (hN2 : N ≤ 1000) (hK2 : K ≤ 1000) (hc : cells + (1 + N) ≤ R.cells) (hs : slots + (N + N * K) ≤ R.slots)
    (kk : ∀ (q : Nat) (r : Nat → Nat) (H1 : Heap), va_P (gD g) vwCl (ws ++ ((q, .inl (gC g 5, N, .inr (.inr (.inr (.inr (fun i => some (r i))))))) :: (List.range N).map (fun i => (r i, .inl (gC g 0, K, .inl (fun _ => 0)))))) H1 → va_D A (ws ++ ((q, .inl (gC g 5, N, .inr (.inr (.inr (.inr (fun i => some (r i))))))) :: (List.range N).map (fun i => (r i, .inl (gC g 0, K, .inl (fun _ => 0)))))) → va_S A s.heap H1 locs → W p l e R s m args below meth c H1 locs (cells + 1 + N) (slots + N + N * K) Q (F0 m (pc + 4) ls (.ref q :: rest))) : W p l e R s m args below meth c H locs cells slots Q (F0 m pc ls (.int z2 :: .int z1 :: rest)) := by
  have hcy : s.vm.findClass (FieldType.array .int).toString = some (gC g 0) := (hK.2 0 _ rfl).2
  refine va_mna (X := ws) (L := []) (f := fun _ => .inr (0, [])) (ty := .int) (cy := gC g 0) (N' := N) (K' := K) (z := (K, .inl (fun _ => 0))) hx hb hown (hts _ hw1) hCN.2.2.2 (hts _ hw2) hcy hK (by simpa [va_pl] using hP) (by simpa [va_pl] using hD) hS hA hz1 hz2 hN hM (by omega) (by show K * 4 ≤ _; omega) (by omega) rfl rfl hc hs (fun cA => innerC_int cA K) hd (fun q r cA H1 hr1 hr2 hK1 hP1 hD1 hS1 => ?_)
  obtain rfl := ca_5 hK hK1
  have e : (ws ++ [(q, .inl (gC g 5, N, .inr (.inr (.inr (.inr (fun i => if i < N then some (r i) else none))))))]) ++ va_pl ([] ++ (List.range N).map r) (vr_up (fun _ => .inr (0, [])) ((List.range N).map r) (.inl (gC g 0, K, .inl (fun _ => 0)))) = ws ++ ((q, .inl (gC g 5, N, .inr (.inr (.inr (.inr (fun i => if i < N then some (r i) else none)))))) :: (List.range N).map (fun i => (r i, .inl (gC g 0, K, .inl (fun _ => 0))))) := by
    rw [List.append_assoc, List.nil_append]
    unfold va_pl
    rw [List.map_map]
    have e3 : (List.range N).map ((fun a => (a, vr_up (fun _ => (.inr (0, []) : va_E)) ((List.range N).map r) (.inl (gC g 0, K, .inl (fun _ => 0))) a)) ∘ r) = (List.range N).map (fun i => (r i, .inl (gC g 0, K, .inl (fun _ => 0)))) := by
      apply List.map_congr_left
      intro i hi
      show (r i, vr_up _ _ _ (r i)) = _
      rw [vr_up_in (List.mem_map.mpr ⟨i, hi, rfl⟩)]
    rw [e3]
    rfl
  rw [e] at hP1 hD1
  have e2 : ∀ H2 : Heap, va_at (gD g) vwCl (q, .inl (gC g 5, N, .inr (.inr (.inr (.inr (fun i => if i < N then some (r i) else none)))))) H2 → va_at (gD g) vwCl (q, .inl (gC g 5, N, .inr (.inr (.inr (.inr (fun i => some (r i))))))) H2 := by
    intro H2 h2
    have h3 : H2[q]? = some (vp_cell (gC g 5) (N, .inr (.inr (.inr (.inr (fun i => if i < N then some (r i) else none)))))) := h2
    show H2[q]? = some (vp_cell (gC g 5) (N, .inr (.inr (.inr (.inr (fun i => some (r i)))))))
    rw [h3]
    congr 1
    rw [vp_cell_q, vp_cell_q]
    unfold arrV
    congr 1
    apply Array.ext (by simp)
    intro i h1 h2
    simp at h1
    simp [h1]
  refine kk q r H1 (fun k x hx => ?_) ⟨fun i j a b ha hb' hab => ?_, fun k x hx => ?_⟩ hS1
  · by_cases hkl : k = ws.length
    · subst hkl
      have h4 := hP1 ws.length _ (by rw [List.getElem?_append_right (Nat.le_refl _), Nat.sub_self]; rfl)
      rw [List.getElem?_append_right (Nat.le_refl _), Nat.sub_self] at hx
      cases hx
      exact e2 H1 h4
    · exact hP1 k x (by rw [← hx]; exact n_ne hkl)
  · by_cases h1 : i = ws.length <;> by_cases h2 : j = ws.length
    · omega
    · subst h1
      rw [List.getElem?_append_right (Nat.le_refl _), Nat.sub_self] at ha
      cases ha
      exact hD1.1 ws.length j (q, .inl (gC g 5, N, .inr (.inr (.inr (.inr (fun i => if i < N then some (r i) else none)))))) b (by rw [List.getElem?_append_right (Nat.le_refl _), Nat.sub_self]; rfl) (by rw [← hb']; exact n_ne h2) hab
    · subst h2
      rw [List.getElem?_append_right (Nat.le_refl _), Nat.sub_self] at hb'
      cases hb'
      exact hD1.1 i ws.length a (q, .inl (gC g 5, N, .inr (.inr (.inr (.inr (fun i => if i < N then some (r i) else none)))))) (by rw [← ha]; exact n_ne h1) (by rw [List.getElem?_append_right (Nat.le_refl _), Nat.sub_self]; rfl) hab
    · exact hD1.1 i j a b (by rw [← ha]; exact n_ne h1) (by rw [← hb']; exact n_ne h2) hab
  · by_cases hkl : k = ws.length
    · subst hkl
      rw [List.getElem?_append_right (Nat.le_refl _), Nat.sub_self] at hx
      cases hx
      exact hD1.2 ws.length (q, .inl (gC g 5, N, .inr (.inr (.inr (.inr (fun i => if i < N then some (r i) else none)))))) (by rw [List.getElem?_append_right (Nat.le_refl _), Nat.sub_self]; rfl)
    · exact hD1.2 k x (by rw [← hx]; exact n_ne hkl)
end NCALL
