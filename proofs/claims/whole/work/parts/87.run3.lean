/-! SLEEPS, GAP, CAUGHT -/
theorem wat_cases {M : Mw} {β : Bw} {L : Lw} (h : IBd M β L) (p : Int32) : (F_X0_hasWatcher 1 p M = some 0 ∧ ∀ M', RWd (M'.1 51 0 0) β L → F_X10_isWatcher p M' = some 0) ∨ (∃ w, w < β 0 0 4 ∧ p = nI w ∧ F_X0_hasWatcher 1 p M = some 1 ∧ ∀ M', RWd (M'.1 51 0 0) β L → F_X10_isWatcher p M' = some 1) := by
  obtain ⟨hx, hc, hw⟩ := h
  have hW3 := hx.1.1.2.2.2.1
  have e : ∀ M' : Mw, RWd (M'.1 51 0 0) β L → F_X10_isWatcher p M' = some (if ¬ p < 0 ∧ p < nI (β 0 0 4) then 1 else 0) := by
    intro M' hw'
    unfold F_X10_isWatcher
    rw [hw'.1.2.2.2.1, r_in0 p (by omega), Option.bind_some]
    by_cases c : ¬ p < 0 ∧ p < nI (β 0 0 4)
    · rw [if_pos c, if_pos (by decide)]
    · rw [if_neg c, if_pos (by decide)]
  have ec : F_X0_hasWatcher 1 p M = some (if ¬ p < 0 ∧ p < nI (β 0 0 4) then 1 else 0) := by
    unfold F_X0_hasWatcher
    rw [hc.c 4 (by omega)]
    by_cases c1 : p < 0
    · rw [if_pos c1, if_neg (fun q => q.1 c1)]
    · rw [if_neg c1]
      by_cases c2 : nI (β 0 0 4) ≤ p
      · rw [if_pos c2, if_neg (fun q => absurd q.2 (Int32.not_lt.mpr c2))]
      · rw [if_neg c2, if_pos ⟨c1, Int32.not_le.mp c2⟩]
  rcases rng_cases p (show β 0 0 4 < 2 ^ 31 by omega) with ⟨w, hw', rfl⟩ | c
  · right
    exact ⟨w, hw', rfl, by rw [ec, if_pos (rng_in hw' (by omega))], fun M' q => by rw [e M' q, if_pos (rng_in hw' (by omega))]⟩
  · left
    exact ⟨by rw [ec, if_neg c], fun M' q => by rw [e M' q, if_neg c]⟩
theorem ok_sleeps : ∀ M : Mw, Inv M → ∀ a1 a2 : Int32, ∃ (r1 : Int32 × Mw) (r2 : Int32 × Mw), F_X9_sleeps a1 a2 M = some r1 ∧ F_X10_sleeps a1 a2 r1.2 = some r2 ∧ r1.1 = r2.1 ∧ Inv r2.2 := by
  intro M hM a1 a2
  obtain ⟨β, L, h⟩ := hM
  have hx := h.2.1.1
  have hW3 := hx.1.1.2.2.2.1
  have hH := hx.H
  unfold F_X9_sleeps F_X10_sleeps
  rcases wat_cases h.2.1 a1 with ⟨w1, w2⟩ | ⟨w, hw, rfl, w1, w2⟩
  · rw [w1, Option.bind_some, if_pos rfl]
    refine ⟨_, ((-2), M), rfl, ?_, rfl, β, L, h⟩
    show (F_X10_isWatcher a1 M).bind _ = _
    rw [w2 M h.2.1.2.2, Option.bind_some, if_pos rfl]
  rw [w1, Option.bind_some, if_neg (show ¬ (1 : Int32) = 0 by decide)]
  rcases tick_cases h.2.1 a2 with ⟨k1, k2⟩ | ⟨hl, k, hk, rfl, k1, k2⟩
  · rw [k1, Option.bind_some, if_pos rfl]
    refine ⟨_, ((-2), M), rfl, ?_, rfl, β, L, h⟩
    show (F_X10_isWatcher (nI w) M).bind _ = _
    rw [w2 M h.2.1.2.2, Option.bind_some, if_neg (show ¬ (1 : Int32) = 0 by decide), k2 M h.2.1.2.2, Option.bind_some, if_pos (show (0 : Int32) = 0 from rfl)]
  · obtain ⟨M1, s1, s2, s3, s4⟩ := v_show h hl hk
    obtain ⟨M2, q1, q2, q3⟩ := k2 M1 s3.2.1.2.2
    obtain ⟨k', kk1, kk2⟩ := rn_ivs hx hl (show k ≤ 200 by omega)
    obtain ⟨⟨D, hS⟩, -⟩ := kk2.1
    have hu := hS.2.2.2.1 w
    obtain ⟨x, hG⟩ := s2.2.2.1
    obtain ⟨y, hR⟩ := q2.2.2.1
    have ec := c_asleep (u := (rn β L k).1.2.1 w) hx.1.2.2.2.2.2.2.2.1 s2.1 (show w < 3 by omega) hG.1 (hG.2.2.2.2.1 w hw).1
    have er := r_asleep q2.1 hR (show w < 3 by omega) (show k ≤ 200 by omega) (by show (rn β L k).1.2.1 w ≤ 1000; omega)
    rw [k1, Option.bind_some, if_neg (show ¬ (1 : Int32) = 0 by decide), s1, Option.bind_some, ec, Option.bind_some]
    have hgo : ∀ v : Int32, (if slp L (nI w) (nI k) (nI ((rn β L k).1.2.1 w) + (-1)) = true then (1 : Int32) else 0) = v → ∃ (r1 : Int32 × Mw) (r2 : Int32 × Mw), (if v = 0 then some (0, M1) else some (1, M1)) = some r1 ∧ ((F_X10_isWatcher (nI w) r1.2).bind (fun v1 => (if v1 = 0 then some ((-2), r1.2) else ((F_X10_asksAt (nI k) r1.2).bind (fun q4 => (if q4.1 = 0 then some ((-2), q4.2) else ((F_X10_isAsleep (nI w) (nI k) q4.2).bind (fun v7 => (if v7 = 0 then some (0, q4.2) else some (1, q4.2)))))))))) = some r2 ∧ r1.1 = r2.1 ∧ Inv r2.2 := by
      intro v hv
      have er' : F_X10_isAsleep (nI w) (nI k) M2 = some v := by rw [er]; exact congrArg some hv
      by_cases c : v = 0
      · rw [if_pos c]
        refine ⟨_, (0, M2), rfl, ?_, rfl, β, L, s3.i q3⟩
        show (F_X10_isWatcher (nI w) M1).bind _ = _
        rw [w2 M1 s3.2.1.2.2, Option.bind_some, if_neg (show ¬ (1 : Int32) = 0 by decide)]
        show (F_X10_asksAt (nI k) M1).bind _ = _
        rw [q1, Option.bind_some, if_neg (show ¬ (1 : Int32) = 0 by decide)]
        show (F_X10_isAsleep (nI w) (nI k) M2).bind _ = _
        rw [er', Option.bind_some, if_pos c]
      · rw [if_neg c]
        refine ⟨_, (1, M2), rfl, ?_, rfl, β, L, s3.i q3⟩
        show (F_X10_isWatcher (nI w) M1).bind _ = _
        rw [w2 M1 s3.2.1.2.2, Option.bind_some, if_neg (show ¬ (1 : Int32) = 0 by decide)]
        show (F_X10_asksAt (nI k) M1).bind _ = _
        rw [q1, Option.bind_some, if_neg (show ¬ (1 : Int32) = 0 by decide)]
        show (F_X10_isAsleep (nI w) (nI k) M2).bind _ = _
        rw [er', Option.bind_some, if_neg c]
    exact hgo _ rfl
/-- the gap of a kick, found in the class's list -/
theorem kf_cons (p : Nat × Nat) (K : List (Nat × Nat)) (t : Nat) : kf (p :: K) t = if p.1 = t then p.2 :: kf K t else kf K t := by
  unfold kf
  by_cases c : p.1 = t
  · rw [if_pos c, List.filter_cons_of_pos (by simpa using c), List.map_cons]
  · rw [if_neg c, List.filter_cons_of_neg (by simpa using c)]
theorem c_gapK {b : Nat} {M : Mw} {K : List (Nat × Nat)} {t m : Nat} (h : CK b M K) (hl : K.length ≤ 200) (ht : t < 1000) (hm : m < 2 ^ 31) (hK : ∀ r ∈ K, r.1 < 1000) : F_X5_gapOfKick b (nI t) (nI m) M = some (match (kf K t)[m]? with | none => -1 | some g => nI g) := by
  obtain ⟨h1, h2⟩ := h
  have key : ∀ (n i c : Nat), i + n = K.length → c < 2 ^ 31 → ∀ f, n < f → it (fun _ _ => none) (B_X5_gapOfKick_5 b (nI t) M) f (nI c) (nI i) = some (match (kf (K.drop i) t)[c]? with | none => -1 | some g => nI g) := by
    intro n
    induction n with
    | zero =>
      intro i c hi hc f hf
      obtain ⟨f, rfl⟩ : ∃ f', f = f' + 1 := ⟨f - 1, by omega⟩
      rw [it_succ]
      unfold B_X5_gapOfKick_5
      rw [h1, if_pos (nI_le (by omega) (by omega)), List.drop_eq_nil_of_le (by omega)]
      rfl
    | succ n ih =>
      intro i c hi hc f hf
      obtain ⟨f, rfl⟩ : ∃ f', f = f' + 1 := ⟨f - 1, by omega⟩
      rw [it_succ]
      have hr : K[i]? = some K[i] := List.getElem?_eq_getElem (by omega)
      obtain ⟨a1, a2⟩ := h2 i _ hr
      have hb := hK _ (List.mem_of_getElem? hr)
      have hd : K.drop i = K[i] :: K.drop (i + 1) := List.drop_eq_getElem_cons (by omega)
      have hin : inb (nI i) 200 = true := inb_nI (by omega) (by omega)
      have ih1 := fun c hc => ih (i + 1) c (by omega) hc f (by omega)
      generalize it (fun _ _ => none) (B_X5_gapOfKick_5 b (nI t) M) f = G at ih1 ⊢
      unfold B_X5_gapOfKick_5
      rw [h1, if_neg (nI_ge (by omega) (by omega)), if_pos hin, clampI (by omega), a1, a2, hd, kf_cons]
      by_cases ct : K[i].1 = t
      · rw [if_pos (by rw [ct]), if_pos ct]
        by_cases c0 : c = 0
        · rw [if_pos (show nI c = 0 by rw [c0]; rfl), if_pos hin, c0]
          rfl
        · obtain ⟨c', rfl⟩ := Nat.exists_eq_succ_of_ne_zero c0
          rw [if_neg (nI_ne0 (by omega) hc), pk_m1, bd_eq, bd_eq, nI_1, ih1 c' (by omega)]
          rfl
      · rw [if_neg (mt (nI_eq (by omega) (by omega)).mp ct), if_neg ct, bd_eq, nI_1, ih1 c hc]
  have := key K.length 0 m (by omega) hm FU (by unfold FU; omega)
  rw [List.drop_zero] at this
  exact this
theorem rn_K {β : Bw} {L : Lw} (hg : GB β L) : ∀ k, ∀ r ∈ (rn β L k).2.1, r.1 < 5 := by
  have h5 := hg.1.2.2.2.2
  intro k
  induction k with
  | zero => intro r hr; exact absurd hr List.not_mem_nil
  | succ k ih =>
    intro r hr
    have hr' : r ∈ (stR β L k (rn β L k)).2.1 := hr
    unfold stR at hr'
    by_cases c : (rn β L k).1.2.2.2.2.2.1 ≠ 0
    · rw [if_pos c] at hr'
      exact ih r hr'
    · rw [if_neg c] at hr'
      have hr2 : r ∈ tkK β L k (rn β L k).1 (rn β L k).2.1 := hr'
      unfold tkK at hr2
      by_cases z : tkO β L k (rn β L k).1 = 0
      · rw [if_pos z] at hr2
        exact ih r hr2
      · rw [if_neg z] at hr2
        unfold wkK at hr2
        have hw := (tkO_wB z).1
        by_cases y : wkC β L (beS β k (rn β L k).1).1 (tkO β L k (rn β L k).1 - 1) = 2 ∧ kkN β L k (tkO β L k (rn β L k).1 - 1) (fol β (tkO β L k (rn β L k).1 - 1) ((beS β k (rn β L k).1).1.1 (tkO β L k (rn β L k).1 - 1) 2 - 1) ((beS β k (rn β L k).1).1.1 (tkO β L k (rn β L k).1 - 1) 1 - 1)) (beS β k (rn β L k).1).1 = 0
        · rw [if_pos y] at hr2
          rcases List.mem_append.mp hr2 with q | q
          · exact ih r q
          · rw [List.mem_singleton.mp q]
            omega
        · rw [if_neg y] at hr2
          exact ih r hr2
theorem ok_gap : ∀ M : Mw, Inv M → ∀ a1 a2 : Int32, ∃ (r1 : Int32) (r2 : Int32 × Mw), F_X9_gap a1 a2 M = some r1 ∧ F_X10_gap a1 a2 M = some r2 ∧ r1 = r2.1 ∧ Inv r2.2 := by
  intro M hM a1 a2
  obtain ⟨β, L, h⟩ := hM
  have hx := h.2.1.1
  have hT5 := hx.1.1.2.2.2.2
  have hH := hx.H
  unfold F_X9_gap F_X10_gap
  rcases task_cases h.2.1 a1 with ⟨t1, t2⟩ | ⟨t, ht, rfl, t1, t2⟩
  · rw [t1, t2 M h.2.1.2.2, Option.bind_some, Option.bind_some, if_pos rfl, if_pos rfl]
    exact ⟨_, _, rfl, rfl, rfl, β, L, h⟩
  rw [t1, t2 M h.2.1.2.2, Option.bind_some, Option.bind_some, if_neg (show ¬ (1 : Int32) = 0 by decide), if_neg (show ¬ (1 : Int32) = 0 by decide)]
  by_cases c : a2 < 0
  · rw [if_neg (Int32.not_le.mpr c), if_pos c]
    exact ⟨_, _, rfl, rfl, rfl, β, L, h⟩
  rw [if_pos (Int32.not_lt.mp c), if_neg c]
  obtain ⟨m, hm, rfl⟩ := nI_of c
  have hl : 0 < β 0 0 3 := by
    by_cases z : 0 < β 0 0 3
    · exact z
    · have := (hx.2.2.2.2.1 (by omega)).2.2.2.2.1
      omega
  rcases r_asks hx h.2.1.2.2 with ⟨-, M2, q1, q2, q3, q4⟩ | ⟨q, -⟩
  case inr => omega
  have hir := (hx.bf hl).ir hH
  have hgap := c_gapK (t := t) h.2.2.1.2.2.2.1 (show (rn β L (β 0 0 0)).2.1.length ≤ 200 by have := hir.2.2.1; omega) (by omega) hm (fun r hr => by have := rn_K hx.1 (β 0 0 0) r hr; omega)
  obtain ⟨k1, k2⟩ := q2.2.2.2.1 t ht
  have e77 : M2.1 77 0 0 t = nI (kf (rn β L (β 0 0 0)).2.1 t).length := by
    have := (q2.2.1 t ht).2.2.2.2.2.2.2.2.2.2.2.1
    rw [rv_f (show 12 ≠ 9 by decide) (by decide), k1] at this
    exact this
  obtain ⟨k', kk1, kk2⟩ := rn_ivs hx hl hH
  have h12 := (kk2.1.2.1 t ht).1
  rw [hgap, Option.bind_some, q1, Option.bind_some, if_neg (show ¬ (1 : Int32) = 0 by decide), if_pos (inb_nI (by omega) (by omega)), clampI (by omega)]
  show ∃ (r1 : Int32) (r2 : Int32 × Mw), _ = some r1 ∧ (if M2.1 77 0 0 t ≤ nI m then some ((-1), M2) else if inb ((200 * nI t) + nI m) 1000 then some (M2.1 82 0 0 ((200 * nI t) + nI m).toNatClampNeg, M2) else none) = some r2 ∧ _
  rw [e77]
  by_cases cm : (kf (rn β L (β 0 0 0)).2.1 t).length ≤ m
  · rw [if_pos (nI_le cm hm), List.getElem?_eq_none cm]
    exact ⟨_, _, rfl, rfl, rfl, β, L, h.i q3⟩
  · have hr : (kf (rn β L (β 0 0 0)).2.1 t)[m]? = some ((kf (rn β L (β 0 0 0)).2.1 t)[m]'(by omega)) := List.getElem?_eq_getElem (by omega)
    have ea : (200 * nI t) + nI m = nI (200 * t + m) := by rw [show (200 : Int32) = nI 200 from rfl, pk_mul, nI_add]
    rw [if_neg (nI_ge (by omega) (by omega)), ea, if_pos (inb_nI (by omega) (by omega)), clampI (by omega), k2 m _ hr, hr]
    exact ⟨_, _, rfl, rfl, rfl, β, L, h.i q3⟩
