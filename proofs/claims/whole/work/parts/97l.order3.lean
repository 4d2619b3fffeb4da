theorem fo_app {l : List Nat} {x p : Nat} (h : p < l.length) : fo (l ++ [x]) p = fo l p := by
  unfold fo
  rw [List.getD_eq_getElem?_getD, List.getD_eq_getElem?_getD, List.getElem?_append_left h]
theorem fo_last {l : List Nat} {x : Nat} : fo (l ++ [x]) l.length = x := by
  unfold fo
  rw [List.getD_eq_getElem?_getD, List.getElem?_append_right (Nat.le_refl _), Nat.sub_self]
  rfl
theorem fo_mem {l : List Nat} {x : Nat} : x ∈ l ↔ ∃ p, p < l.length ∧ fo l p = x := by
  constructor
  · intro h
    obtain ⟨p, hp⟩ := List.mem_iff_getElem?.mp h
    have hlt : p < l.length := (List.getElem?_eq_some_iff.mp hp).1
    refine ⟨p, hlt, ?_⟩
    unfold fo
    rw [List.getD_eq_getElem?_getD, hp]
    rfl
  · rintro ⟨p, hp, e⟩
    have h2 : l[p]? = some l[p] := List.getElem?_eq_getElem hp
    have h3 : fo l p = l[p] := by
      unfold fo
      rw [List.getD_eq_getElem?_getD, h2]
      rfl
    rw [← e, h3]
    exact List.getElem_mem hp
theorem mkF_c {o o' : Nat → Nat} : ∀ p, (∀ p', p' < p → o p' = o' p') → mkF o p = mkF o' p := by
  intro p
  induction p with
  | zero => intro _; rfl
  | succ p ih =>
    intro h
    show mkF o p ||| 2 ^ (o p) = mkF o' p ||| 2 ^ (o' p)
    rw [ih (fun p' hp => h p' (by omega)), h p (by omega)]
theorem RoI.fr {M0 M M' : Mw} {β : Bw} {L : Lw} {pre : List Nat} {acc acc' : List (List Nat)} (h : RoI M0 M β L pre acc) (h1 : Fr (fun κ _ => κ = 62 ∨ κ = 50) M M') (h2 : ∀ j, j ≠ 21 → M'.1 50 0 0 j = M.1 50 0 0 j) (h3 : M'.1 50 0 0 21 = nI acc'.length) (h4 : ∀ l, acc'.head? = some l → ∀ p, p < β 0 0 5 → M'.1 62 0 0 p = nI (fo l p)) : RoI M0 M' β L pre acc' := by
  obtain ⟨a1, a2, a3, a4, a5⟩ := h
  refine ⟨a1.trans (h1.mono (fun κ _ z => by omega)), fun j hj => (h2 j hj).trans (a2 j hj), fun p hp => ?_, h3, h4⟩
  rw [h1.k1 (κ := 61) (fun b => by omega), h1.k1 (κ := 60) (fun b => by omega)]
  exact a3 p hp
theorem r_goesO {M0 : Mw} {β : Bw} {L : Lw} (e : Nat) (hx : Gx β L) (hb : RoB M0 β L) : ∀ d pre M acc, pre.length + d = β 0 0 5 → (∀ l ∈ exts (β 0 0 5) d pre, l ∈ Eo (β 0 0 5)) → (∀ p, p < pre.length → fo pre p < β 0 0 5) → acc.length + (exts (β 0 0 5) d pre).length ≤ 1000 → RoI M0 M β L pre acc →
    ∃ M', F_X10_goesOrdersR (e + d + 1) (nI pre.length) (nI (mkF (fo pre) pre.length)) M = some M' ∧ RoI M0 M' β L pre (acc ++ (exts (β 0 0 5) d pre).filter (fun l => okO β (fo l))) := by
  have hT5 := hx.1.1.2.2.2.2
  have e4 : ∀ (M : Mw) (pre : List Nat) (acc : List (List Nat)), RoI M0 M β L pre acc → M.1 51 0 0 4 = nI (β 0 0 5) := fun M pre acc h => by
    rw [h.1.k1 (κ := 51) (fun b => by omega)]
    exact hb.1.1.2.2.2.2.1
  intro d
  induction d with
  | zero =>
    intro pre M acc hlen hsub hlt hsz h
    have hpre : pre ∈ Eo (β 0 0 5) := hsub pre (List.mem_singleton.mpr rfl)
    obtain ⟨l1, l2⟩ := ro_leaf hx hb hpre h
    have hsz' : acc.length + 1 ≤ 1000 := hsz
    show ∃ M', F_X10_goesOrders (F_X10_goesOrdersR e) (nI pre.length) (nI (mkF (fo pre) pre.length)) M = some M' ∧ RoI M0 M' β L pre (acc ++ [pre].filter (fun l => okO β (fo l)))
    unfold F_X10_goesOrders
    rw [e4 _ _ _ h, show pre.length = β 0 0 5 by omega, if_pos rfl, l1, Option.bind_some]
    by_cases c : okO β (fo pre) = true
    · have hf : [pre].filter (fun l => okO β (fo l)) = [pre] := by simp [c]
      rw [hf, if_pos ((lb_all hT5).mpr (l2.mpr c)), h.2.2.2.1]
      have hpl : ∀ v, v = nI (acc.length + 1) → v = nI (acc ++ [pre]).length := fun v hv => by rw [hv, List.length_append]; rfl
      by_cases ca : acc = []
      · subst ca
        rw [if_pos (show nI ([] : List (List Nat)).length = 0 by rfl)]
        have key := it_for (z := fun _ _ => none) (B := B_X10_goesOrders_37 (F_X10_goesOrdersR e) (nI (β 0 0 5))) (n := β 0 0 5)
          (P := fun n M1 => Fr (fun κ _ => κ = 62) M M1 ∧ ∀ p, p < n → M1.1 62 0 0 p = nI (fo pre p))
          (Q := fun o => ∃ M', o = some M' ∧ RoI M0 M' β L pre ([] ++ [pre]))
          (fun kk n M1 hn hP => by
            obtain ⟨p1, p2⟩ := hP
            left
            have hin : inb (nI n) 5 = true := inb_nI (by omega) (by omega)
            unfold B_X10_goesOrders_37
            rw [if_neg (nI_ge hn (by omega)), if_pos hin, if_pos hin, clampI (by omega), p1.k1 (κ := 61) (fun b => by omega), (h.2.2.1 n (by omega)).1, bd_eq, nI_1, bd_eq]
            refine ⟨_, rfl, p1.trans (Fr.uI rfl), fun p hp => ?_⟩
            rw [uI1]
            by_cases z : p = n
            · rw [if_pos ⟨rfl, rfl, rfl, z⟩, z]
            · rw [if_neg (fun y => z y.2.2.2)]
              exact p2 p (by omega))
          (fun kk M1 hP => by
            obtain ⟨p1, p2⟩ := hP
            have e50 : M1.1 50 = M.1 50 := p1.k1 (fun b => by omega)
            unfold B_X10_goesOrders_37
            rw [if_pos (Int32.le_refl _), e50, h.2.2.2.1, bd_eq]
            refine ⟨_, rfl, h.fr ((p1.mono (fun κ _ z => Or.inl z)).trans (Fr.uI (Or.inr rfl))) (fun j hj => ?_) ?_ (fun l hl p hp => ?_)⟩
            · rw [uI1, if_neg (fun z => hj z.2.2.2), e50]
            · rw [uI1, if_pos ⟨rfl, rfl, rfl, rfl⟩]
              rfl
            · have hl' : some pre = some l := hl
              rw [uI_k (by decide), ← Option.some.inj hl']
              exact p2 p hp)
          FU 0 M (Nat.zero_le _) (by unfold FU; omega) ⟨Fr.rfl, fun p hp => by omega⟩
        rw [nI_0] at key
        exact key
      · have hla : 0 < acc.length := List.length_pos_iff.mpr ca
        rw [if_neg (nI_ne0 hla (by omega)), bd_eq, nI_1]
        refine ⟨_, rfl, h.fr (Fr.uI (Or.inr rfl)) (fun j hj => ?_) ?_ (fun l hl p hp => ?_)⟩
        · rw [uI1, if_neg (fun z => hj z.2.2.2)]
        · rw [uI1, if_pos ⟨rfl, rfl, rfl, rfl⟩]
          exact hpl _ rfl
        · rw [uI_k (by decide)]
          refine h.2.2.2.2 l ?_ p hp
          cases acc with
          | nil => exact absurd rfl ca
          | cons a as => exact hl
    · have hf : [pre].filter (fun l => okO β (fo l)) = [] := by simp [c]
      rw [hf, List.append_nil, if_neg (fun q => c (l2.mp ((lb_all hT5).mp q)))]
      exact ⟨M, rfl, h⟩
  | succ d ih =>
    intro pre M acc hlen hsub hlt hsz h
    have hm32 : mkF (fo pre) pre.length < 32 := mkF_lt _ (fun p hp => by have := hlt p hp; omega)
    obtain ⟨g, hg⟩ : ∃ g : Nat → List (List Nat), g = fun x => if x ∈ pre then [] else exts (β 0 0 5) d (pre ++ [x]) := ⟨_, rfl⟩
    have hex : exts (β 0 0 5) (d + 1) pre = (List.range (β 0 0 5)).flatMap g := by rw [hg]; rfl
    have hrs : ∀ n, (List.range (n + 1)).flatMap g = (List.range n).flatMap g ++ g n := fun n => by
      rw [List.range_succ, List.flatMap_append]
      simp
    have hmono : ∀ n, n ≤ β 0 0 5 → ((List.range n).flatMap g).length ≤ ((List.range (β 0 0 5)).flatMap g).length := by
      have : ∀ e' n, n + e' = β 0 0 5 → ((List.range n).flatMap g).length ≤ ((List.range (β 0 0 5)).flatMap g).length := by
        intro e'
        induction e' with
        | zero => intro n hn; rw [show n = β 0 0 5 by omega]; exact Nat.le_refl _
        | succ e' ihe =>
          intro n hn
          refine Nat.le_trans ?_ (ihe (n + 1) (by omega))
          rw [hrs, List.length_append]
          omega
      exact fun n hn => this (β 0 0 5 - n) n (by omega)
    show ∃ M', F_X10_goesOrders (F_X10_goesOrdersR (e + d + 1)) (nI pre.length) (nI (mkF (fo pre) pre.length)) M = some M' ∧ RoI M0 M' β L pre (acc ++ (exts (β 0 0 5) (d + 1) pre).filter (fun l => okO β (fo l)))
    rw [hex] at hsub hsz ⊢
    unfold F_X10_goesOrders
    rw [e4 _ _ _ h, if_neg (fun q => by have := (nI_eq (a := pre.length) (b := β 0 0 5) (by omega) (by omega)).mp q; omega)]
    have key := it_for (z := fun _ _ => none) (B := B_X10_goesOrders_73 (F_X10_goesOrdersR (e + d + 1)) (nI pre.length) (nI (mkF (fo pre) pre.length))) (n := β 0 0 5)
      (P := fun n M1 => RoI M0 M1 β L pre (acc ++ ((List.range n).flatMap g).filter (fun l => okO β (fo l))))
      (Q := fun o => ∃ M', o = some M' ∧ RoI M0 M' β L pre (acc ++ ((List.range (β 0 0 5)).flatMap g).filter (fun l => okO β (fo l))))
      (fun kk x M1 hx1 hP => by
        left
        unfold B_X10_goesOrders_73
        rw [e4 _ _ _ hP, if_neg (nI_ge hx1 (by omega)), hrs, List.filter_append, ← List.append_assoc]
        have hbit : (mkF (fo pre) pre.length).testBit x = true ↔ x ∈ pre := by rw [mkF_bit, fo_mem]
        by_cases c : x ∈ pre
        · have hgx : g x = [] := by rw [hg]; exact if_pos c
          rw [if_pos ((msk_bit _ hm32 x (by omega)).mpr (hbit.mpr c)), nI_1, bd_eq, hgx]
          refine ⟨M1, rfl, ?_⟩
          rw [List.filter_nil, List.append_nil]
          exact hP
        · have hgx : g x = exts (β 0 0 5) d (pre ++ [x]) := by rw [hg]; exact if_neg c
          have hlp : (pre ++ [x]).length = pre.length + 1 := by rw [List.length_append]; rfl
          rw [if_neg (fun q => c (hbit.mp ((msk_bit _ hm32 x (by omega)).mp q))), if_pos (inb_nI (by omega) (by omega)), clampI (by omega), clampI (by omega), bd_eq, if_pos (inb_nI (by omega) (by omega)), bd_eq, nI_1, (or_lt _ hm32 x (by omega)).2, hgx]
          obtain ⟨a1, a2, a3, a4, a5⟩ := hP
          obtain ⟨M2, hM2⟩ : ∃ M2, M2 = uIw (uIw M1 61 0 0 pre.length (nI x)) 60 0 0 x (nI (mkF (fo pre) pre.length)) := ⟨_, rfl⟩
          have hF2 : Fr (fun κ _ => κ = 60 ∨ κ = 61) M1 M2 := by rw [hM2]; exact (Fr.uI (Or.inr rfl)).trans (Fr.uI (Or.inl rfl))
          have hRoI : RoI M0 M2 β L (pre ++ [x]) (acc ++ ((List.range x).flatMap g).filter (fun l => okO β (fo l))) := by
            refine ⟨a1.trans (hF2.mono (fun κ _ z => by omega)), fun j hj => by rw [hF2.k1 (κ := 50) (fun b => by omega)]; exact a2 j hj, fun p hp => ?_, by rw [hF2.k1 (κ := 50) (fun b => by omega)]; exact a4, fun l hl p hp => by rw [hF2.k1 (κ := 62) (fun b => by omega)]; exact a5 l hl p hp⟩
            rw [hlp] at hp
            by_cases z : p = pre.length
            · rw [z, fo_last, hM2]
              refine ⟨?_, ?_⟩
              · rw [uI_k (by decide), uI1, if_pos ⟨rfl, rfl, rfl, rfl⟩]
              · rw [uI1, if_pos ⟨rfl, rfl, rfl, rfl⟩, mkF_c (o' := fo pre) _ (fun p' hp' => fo_app hp')]
            · have hp' : p < pre.length := by omega
              rw [fo_app hp', mkF_c (o' := fo pre) _ (fun p2 hp2 => fo_app (by omega)), hM2]
              have hne : fo pre p ≠ x := fun y => c (fo_mem.mpr ⟨p, hp', y⟩)
              refine ⟨?_, ?_⟩
              · rw [uI_k (by decide), uI1, if_neg (fun y => z y.2.2.2)]
                exact (a3 p hp').1
              · rw [uI1, if_neg (fun y => hne y.2.2.2), uI_k (by decide)]
                exact (a3 p hp').2
          have hsz2 : (acc ++ ((List.range x).flatMap g).filter (fun l => okO β (fo l))).length + (exts (β 0 0 5) d (pre ++ [x])).length ≤ 1000 := by
            have h1 := hmono (x + 1) (by omega)
            rw [hrs, List.length_append, hgx] at h1
            have h2 := List.length_filter_le (fun l => okO β (fo l)) ((List.range x).flatMap g)
            rw [List.length_append]
            omega
          obtain ⟨M3, s1, s2⟩ := ih (pre ++ [x]) M2 _ (by omega) (fun l hl => hsub l (List.mem_flatMap.mpr ⟨x, List.mem_range.mpr hx1, by rw [hgx]; exact hl⟩)) (fun p hp => by
            rw [hlp] at hp
            by_cases z : p = pre.length
            · rw [z, fo_last]; exact hx1
            · rw [fo_app (by omega)]; exact hlt p (by omega)) hsz2 hRoI
          have emk : mkF (fo (pre ++ [x])) (pre.length + 1) = mkF (fo pre) pre.length ||| 2 ^ x := by
            show mkF (fo (pre ++ [x])) pre.length ||| 2 ^ (fo (pre ++ [x]) pre.length) = _
            rw [fo_last, mkF_c (o' := fo pre) _ (fun p' hp' => fo_app hp')]
          rw [hlp, emk] at s1
          rw [← hM2, s1, Option.bind_some, nI_1, bd_eq]
          refine ⟨M3, rfl, ?_⟩
          obtain ⟨b1, b2, b3, b4, b5⟩ := s2
          refine ⟨b1, b2, fun p hp => ?_, b4, b5⟩
          have := b3 p (by omega)
          rw [fo_app hp, mkF_c (o' := fo pre) _ (fun p2 hp2 => fo_app (by omega))] at this
          exact this)
      (fun kk M1 hP => by
        unfold B_X10_goesOrders_73
        rw [e4 _ _ _ hP, if_pos (Int32.le_refl _)]
        exact ⟨M1, rfl, hP⟩)
      FU 0 M (Nat.zero_le _) (by unfold FU; omega) (by
        rw [List.range_zero, List.flatMap_nil, List.filter_nil, List.append_nil]
        exact h)
    rw [nI_0] at key
    exact key
theorem r_laysO {M : Mw} {β : Bw} {L : Lw} (hx : Gx β L) (hw : RWd (M.1 51 0 0) β L) : ∃ M', F_X10_laysOrders M = some M' ∧ OnI M M' ∧ M'.1 51 = M.1 51 ∧ M'.1 50 0 0 21 = nI (okE β).length ∧ ∀ l, (okE β).head? = some l → ∀ p, p < β 0 0 5 → M'.1 62 0 0 p = nI (fo l p) := by
  have hT5 := hx.1.1.2.2.2.2
  obtain ⟨e1, e2⟩ := eo_len (β 0 0 5) (by omega)
  obtain ⟨M1, r1, r2, r3⟩ := r_lays hx hw
  obtain ⟨M2, hM2⟩ : ∃ M2, M2 = uIw M1 50 0 0 21 0 := ⟨_, rfl⟩
  have hF2 : Fr (fun κ _ => κ = 50) M1 M2 := by rw [hM2]; exact Fr.uI rfl
  have hb : RoB M2 β L := ⟨by rw [hF2.k1 (κ := 51) (fun b => by omega)]; exact r3.1, fun t ht => by
    rw [hF2.k1 (κ := 59) (fun b => by omega), hF2.k1 (κ := 58) (fun b => by omega)]
    exact ⟨(r3.2 t ht).1, (r3.2 t ht).2.1⟩⟩
  obtain ⟨M3, s1, s2⟩ := r_goesO (5 - β 0 0 5) hx hb (β 0 0 5) [] M2 [] (by show 0 + _ = _; omega) (fun l hl => hl) (fun p hp => absurd hp (Nat.not_lt_zero _)) (by show 0 + (Eo (β 0 0 5)).length ≤ 1000; omega) ⟨Fr.rfl, fun _ _ => rfl, fun p hp => absurd hp (Nat.not_lt_zero _), by rw [hM2, uI1, if_pos ⟨rfl, rfl, rfl, rfl⟩]; rfl, fun l hl => by cases hl⟩
  obtain ⟨b1, b2, b3, b4, b5⟩ := s2
  rw [List.nil_append] at b4 b5
  rw [show 5 - β 0 0 5 + β 0 0 5 + 1 = 6 by omega] at s1
  have s1' : F_X10_goesOrdersR 6 0 0 M2 = some M3 := s1
  refine ⟨M3, ?_, ?_, ?_, b4, b5⟩
  · unfold F_X10_laysOrders
    rw [r1, Option.bind_some, bd_eq, ← hM2, s1', Option.bind_some]
  · have e50 : ∀ j, j ≠ 21 → M3.1 50 0 0 j = M.1 50 0 0 j := fun j hj => by
      rw [b2 j hj, hM2, uI1, if_neg (fun z => hj z.2.2.2), r2.k1 (κ := 50) (fun b => by omega)]
    exact ⟨((r2.mono (fun κ b z => by omega)).trans (hF2.mono (fun κ b z => by omega))).trans (b1.mono (fun κ b z => by omega)), e50 5 (by decide), e50 12 (by decide), e50 13 (by decide)⟩
  · rw [b1.k1 (κ := 51) (fun b => by omega), hF2.k1 (κ := 51) (fun b => by omega), r2.k1 (κ := 51) (fun b => by omega)]
theorem ok_orders : ∀ M : Mw, Inv M → ∃ (r1 : Int32 × Mw) (r2 : Int32 × Mw), F_X9_orders M = some r1 ∧ F_X10_orders r1.2 = some r2 ∧ r1.1 = r2.1 ∧ Inv r2.2 := by
  intro M hM
  obtain ⟨β, L, h⟩ := hM
  have hx := h.2.1.1
  have h3 := hx.2.2.2.2.2.2.1
  by_cases hl : 0 < β 0 0 3
  case neg =>
    refine ⟨((-2), M), ((-2), M), ?_, ?_, rfl, β, L, h⟩
    · unfold F_X9_orders
      rw [h.2.1.2.1.c 3 (by omega), if_pos (show nI (β 0 0 3) = 0 by rw [show β 0 0 3 = 0 by omega]; decide)]
    · show F_X10_orders M = _
      unfold F_X10_orders
      rw [r_isBoard hx h.2.1.2.2, Option.bind_some, if_neg hl, if_pos rfl]
  obtain ⟨M1, q1, q2⟩ := c_cntOrd h
  have h1 := h.i (oni_k q2 (by omega))
  obtain ⟨M2, r1, r2, r3, r4, -⟩ := r_laysO hx h1.2.1.2.2
  refine ⟨(nI (okE β).length, M1), (nI (okE β).length, M2), ?_, ?_, rfl, β, L, h1.i r2⟩
  · unfold F_X9_orders
    rw [h.2.1.2.1.c 3 (by omega), if_neg (nI_ne0 hl (by omega)), q1, Option.bind_some]
  · show F_X10_orders M1 = _
    unfold F_X10_orders
    rw [r_isBoard hx h1.2.1.2.2, Option.bind_some, if_pos hl, if_neg (show ¬ (1 : Int32) = 0 by decide), r1, Option.bind_some, r4]
theorem ok_order : ∀ M : Mw, Inv M → ∀ a1 : Int32, ∃ (r1 : Int32 × Mw) (r2 : Int32 × Mw), F_X9_order a1 M = some r1 ∧ F_X10_order a1 r1.2 = some r2 ∧ r1.1 = r2.1 ∧ Inv r2.2 := by
  intro M hM a1
  obtain ⟨β, L, h⟩ := hM
  have hx := h.2.1.1
  have h3 := hx.2.2.2.2.2.2.1
  have hT5 := hx.1.1.2.2.2.2
  obtain ⟨e1, e2⟩ := eo_len (β 0 0 5) (by omega)
  have hlen : (okE β).length ≤ 120 := Nat.le_trans (List.length_filter_le _ _) e2
  by_cases hl : 0 < β 0 0 3
  case neg =>
    refine ⟨((-2), M), ((-2), M), ?_, ?_, rfl, β, L, h⟩
    · unfold F_X9_order
      rw [h.2.1.2.1.c 3 (by omega), if_pos (show nI (β 0 0 3) = 0 by rw [show β 0 0 3 = 0 by omega]; decide)]
    · show F_X10_order a1 M = _
      unfold F_X10_order
      rw [r_isBoard hx h.2.1.2.2, Option.bind_some, if_neg hl, if_pos rfl]
  have hr : ∀ M' : Mw, InvB M' β L → ∃ M2, F_X10_laysOrders M' = some M2 ∧ InvB M2 β L ∧ M2.1 50 0 0 21 = nI (okE β).length ∧ (∀ l, (okE β).head? = some l → ∀ p, p < β 0 0 5 → M2.1 62 0 0 p = nI (fo l p)) ∧ M2.1 51 0 0 4 = nI (β 0 0 5) := fun M' h' => by
    obtain ⟨M2, r1, r2, r3, r4, r5⟩ := r_laysO hx h'.2.1.2.2
    exact ⟨M2, r1, h'.i r2, r4, r5, by rw [r3]; exact h'.2.1.2.2.1.2.2.2.2.1⟩
  have hrun : ∀ (M' M2 : Mw), InvB M' β L → F_X10_laysOrders M' = some M2 → M2.1 50 0 0 21 = nI (okE β).length → M2.1 51 0 0 4 = nI (β 0 0 5) → F_X10_order a1 M' = if (okE β).length = 0 then some ((-1), M2) else if ¬ a1 < 0 ∧ a1 < nI (β 0 0 5) then (if inb a1 5 then some ((M2.1 62 0 0 a1.toNatClampNeg), M2) else none) else some ((-1), M2) := by
    intro M' M2 h' r1 r4 r5
    unfold F_X10_order
    rw [r_isBoard hx h'.2.1.2.2, Option.bind_some, if_pos hl, if_neg (show ¬ (1 : Int32) = 0 by decide), r1, Option.bind_some, r4]
    by_cases c : (okE β).length = 0
    · rw [if_pos c, if_pos (show nI (okE β).length ≤ 0 by rw [c]; decide)]
    · rw [if_neg c, if_neg (nI_nle (by omega) (by omega)), r5, r_in0 a1 (by omega), Option.bind_some]
      by_cases c2 : ¬ a1 < 0 ∧ a1 < nI (β 0 0 5)
      · rw [if_pos c2, if_pos c2, if_neg (show ¬ (1 : Int32) = 0 by decide)]
      · rw [if_neg c2, if_neg c2, if_pos rfl]
  unfold F_X9_order
  rw [h.2.1.2.1.c 3 (by omega), if_neg (nI_ne0 hl (by omega)), c_hasTask (h.2.1.2.1.c 5 (by omega)) hT5, Option.bind_some]
  rcases rng_cases a1 (show β 0 0 5 < 2 ^ 31 by omega) with ⟨t, ht, rfl⟩ | c
  · rw [if_pos (rng_in ht (by omega)), if_neg (show ¬ (1 : Int32) = 0 by decide)]
    obtain ⟨f, M1, q1, q2, q3⟩ := c_findOrd h
    have h1 := h.i (oni_k q2 (by omega))
    obtain ⟨M2, r1, r2, r4, r5, r6⟩ := hr M1 h1
    have hR := hrun M1 M2 h1 r1 r4 r6
    rw [q1, Option.bind_some]
    rcases q3 with ⟨rfl, e⟩ | ⟨rfl, l, e, hO⟩
    · rw [if_pos (show nI 0 = 0 by rfl)]
      refine ⟨((-1), M1), ((-1), M2), rfl, ?_, rfl, β, L, r2⟩
      show F_X10_order (nI t) M1 = _
      rw [hR, if_pos (by rw [e]; rfl)]
    · have hne : ¬ (okE β).length = 0 := fun z => by
        rw [List.length_eq_zero_iff.mp z] at e
        cases e
      rw [if_neg (show ¬ nI 1 = 0 by decide), if_pos (inb_nI (by omega) (by omega)), clampI (by omega)]
      refine ⟨_, (M2.1 62 0 0 t, M2), rfl, ?_, ?_, β, L, r2⟩
      · show F_X10_order (nI t) M1 = _
        rw [hR, if_neg hne, if_pos (rng_in ht (by omega)), if_pos (inb_nI (by omega) (by omega)), clampI (by omega)]
      · show M1.1 22 0 0 t = M2.1 62 0 0 t
        rw [hO t ht, r5 l e t ht]
  · rw [if_neg c, if_pos rfl]
    obtain ⟨M2, r1, r2, r4, r5, r6⟩ := hr M h
    refine ⟨((-1), M), ((-1), M2), rfl, ?_, rfl, β, L, r2⟩
    show F_X10_order a1 M = _
    rw [hrun M M2 h r1 r4 r6]
    by_cases z : (okE β).length = 0
    · rw [if_pos z]
    · rw [if_neg z, if_neg c]
