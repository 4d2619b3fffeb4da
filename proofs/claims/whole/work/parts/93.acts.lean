/-! INJECT, IMAGE, BACK, NODE -/
theorem c_setInj {b i : Nat} {M : Mw} (hi : i < 19) (a1 a2 a3 a4 a5 : Int32) : ∃ M', F_X0_setInjection b (nI i) a1 a2 a3 a4 a5 M = some M' ∧ row5 (M'.1 12 b i) = row4 a1 a2 a3 a4 a5 ∧ (∀ i', i' ≠ i → M'.1 12 b i' = M.1 12 b i') ∧ Fr (fun κ b' => κ = 12 ∧ b' = b) M M' := by
  have hin : inb (nI i) 19 = true := inb_nI hi (by omega)
  have h3 : inb 3 5 = true := by decide
  have h3c : (3 : Int32).toNatClampNeg = 3 := by decide
  unfold F_X0_setInjection B_X0_setInjection_48 B_X0_setInjection_54
  rw [if_neg (nI_pos (by omega)), if_pos (show nI i < 19 from nI_lt (b := 19) hi (by omega)), if_pos hin, clampI (by omega), bd_eq, bd_eq, bd_eq]
  simp only [h3, h3c, if_true]
  have hfin : ∀ x y : Int32, x = (if a1 = 4 ∨ a1 = 5 then -1 else a4) → y = (if a1 = 5 then -1 else a5) → ∃ M', (some (uIw (uIw (uIw (uIw (uIw M 12 b i 0 a1) 12 b i 1 a2) 12 b i 2 a3) 12 b i 3 x) 12 b i 4 y) : Option Mw) = some M' ∧ row5 (M'.1 12 b i) = row4 a1 a2 a3 a4 a5 ∧ (∀ i', i' ≠ i → M'.1 12 b i' = M.1 12 b i') ∧ Fr (fun κ b' => κ = 12 ∧ b' = b) M M' := by
    intro x y ex ey
    refine ⟨_, rfl, ?_, fun i' hi' => ?_, ?_⟩
    · unfold row4
      rw [← ex, ← ey]
      simp [uI1]
    · funext j
      rw [uI1, if_neg (fun q => hi' q.2.2.1), uI1, if_neg (fun q => hi' q.2.2.1), uI1, if_neg (fun q => hi' q.2.2.1), uI1, if_neg (fun q => hi' q.2.2.1), uI1, if_neg (fun q => hi' q.2.2.1)]
    · exact ((((Fr.uI ⟨rfl, rfl⟩).trans (Fr.uI ⟨rfl, rfl⟩)).trans (Fr.uI ⟨rfl, rfl⟩)).trans (Fr.uI ⟨rfl, rfl⟩)).trans (Fr.uI ⟨rfl, rfl⟩)
  by_cases c4 : a1 = 4
  · have n5 : ¬ a1 = 5 := by rw [c4]; decide
    rw [if_pos c4, bd_eq, if_neg n5, bd_eq]
    exact hfin (-1) a5 (if_pos (Or.inl c4)).symm (if_neg n5).symm
  rw [if_neg c4]
  by_cases c5 : a1 = 5
  · rw [if_pos c5, bd_eq, if_pos c5, bd_eq]
    exact hfin (-1) (-1) (if_pos (Or.inr c5)).symm (if_pos c5).symm
  · rw [if_neg c5, bd_eq, if_neg c5, bd_eq]
    exact hfin a4 a5 (if_neg (fun q => q.elim c4 c5)).symm (if_neg c5).symm
theorem ok_inject : ∀ M : Mw, Inv M → ∀ a1 a2 a3 a4 a5 : Int32, ∃ (r1 : Int32 × Mw) (r2 : Int32 × Mw), F_X9_inject a1 a2 a3 a4 a5 M = some r1 ∧ F_X10_inject a1 a2 a3 a4 a5 r1.2 = some r2 ∧ r1.1 = r2.1 ∧ Inv r2.2 := by
  intro M hM a1 a2 a3 a4 a5
  obtain ⟨β, L, h⟩ := hM
  have hx := h.2.1.1
  have h3 := hx.2.2.2.2.2.2.1
  obtain ⟨h6, h7, hll⟩ := And.intro hx.2.1 (And.intro hx.2.2.1 hx.2.2.2.1)
  have hw := h.2.1.2.2
  have hlen := hx.len
  unfold F_X9_inject
  rcases allow_cases h.2.1 a1 a2 a3 a4 a5 with ⟨t1, t2⟩ | ⟨hr, t1, t2⟩
  · rw [t1, Option.bind_some, if_pos rfl]
    refine ⟨_, ((-2), M), rfl, ?_, rfl, β, L, h⟩
    unfold F_X10_inject
    show (F_X10_isBoard M).bind _ = _
    rw [r_isBoard hx hw, Option.bind_some]
    by_cases hl : 0 < β 0 0 3
    · rw [if_pos hl, if_neg (show ¬ (1 : Int32) = 0 by decide)]
      show (F_X10_canInject a1 a2 a3 a4 a5 M).bind _ = _
      rw [t2 M hw, Option.bind_some, if_pos rfl]
    · rw [if_neg hl, if_pos rfl]
  have hl : 0 < β 0 0 3 := by
    by_cases z : 0 < β 0 0 3
    · exact z
    · have z0 := hx.2.2.2.2.1 (by omega)
      rcases hr with ⟨w, x, q, -⟩ | ⟨t, j, m, q, -⟩ | ⟨kd, t, j, n, m, -, q, -⟩ <;> omega
  rw [t1, Option.bind_some, if_neg (show ¬ (1 : Int32) = 0 by decide), h.2.1.2.1.c 7 (by omega), h.2.1.2.1.c 6 (by omega), nI_add, hll]
  by_cases c : β 0 0 7 < 10
  case neg =>
    have e10 : β 0 0 7 = 10 := by omega
    rw [if_neg (show ¬ nI (β 0 0 7) < 10 by rw [e10]; decide)]
    refine ⟨_, ((-5), M), rfl, ?_, rfl, β, L, h⟩
    unfold F_X10_inject
    show (F_X10_isBoard M).bind _ = _
    rw [r_isBoard hx hw, Option.bind_some, if_pos hl, if_neg (show ¬ (1 : Int32) = 0 by decide)]
    show (F_X10_canInject a1 a2 a3 a4 a5 M).bind _ = _
    rw [t2 M hw, Option.bind_some, if_neg (show ¬ (1 : Int32) = 0 by decide)]
    show (if M.1 51 0 0 6 = 10 then some ((-5), M) else _) = _
    rw [hw.1.2.2.2.2.2.2.1, if_pos (show nI (β 0 0 7) = 10 by rw [e10]; rfl)]
  rw [if_pos (show nI (β 0 0 7) < 10 from nI_lt (b := 10) c (by omega))]
  obtain ⟨M1, s1, s2, s3, s4⟩ := c_setInj (b := 1) (M := M) (show L.length < 19 by omega) a1 a2 a3 a4 a5
  have e17 : M1.1 0 1 0 7 = nI (β 0 0 7) := by rw [(s4 0 1 (by omega)).1]; exact h.2.1.2.1.c 7 (by omega)
  rw [s1, Option.bind_some, e17, nI_1, bd_eq]
  generalize hr4 : row4 a1 a2 a3 a4 a5 = r at hr s2
  have hmem : ∀ q ∈ L ++ [r], GRow β q := fun q hq => by
    rcases List.mem_append.mp hq with z | z
    · exact hx.1.2.2.2.2.2.2.2.2 q z
    · rw [List.mem_singleton.mp z]; exact hr
  have hx' : Gx (acN β (β 0 0 7 + 1)) (L ++ [r]) := hx.ac (by omega) (by rw [List.length_append]; show _ = L.length + 1; omega) hl hmem
  have hF1 : Fr (fun κ b => (κ = 0 ∨ κ = 12) ∧ b = 1) M (uIw M1 0 1 0 7 (nI (β 0 0 7 + 1))) := (s4.mono (fun κ b q => ⟨Or.inr q.1, q.2⟩)).trans (Fr.uI ⟨Or.inl rfl, rfl⟩)
  have hcb : CBs 1 (uIw M1 0 1 0 7 (nI (β 0 0 7 + 1))) (acN β (β 0 0 7 + 1)) (L ++ [r]) := by
    obtain ⟨c0, cl, c4, c68, c12, c10, cr⟩ := h.2.1.2.1.st
    refine CBs.mk' ⟨fun j hj => ?_, ?_, fun t ht j hj => ?_, fun t ht m hm => ?_, fun w hw => ?_, fun t ht j hj => ?_, fun i hi => ?_⟩
    · rw [uI1]
      by_cases z : j = 7
      · rw [if_pos ⟨rfl, rfl, rfl, z⟩, z]
        rfl
      · rw [if_neg (fun q => z q.2.2.2), (s4 0 1 (by omega)).1, c0 j hj]
        show nI (β 0 0 j) = nI (if 0 = 0 ∧ 0 = 0 ∧ j = 7 then _ else β 0 0 j)
        rw [if_neg (fun q => z q.2.2)]
    · show β 0 0 6 + (β 0 0 7 + 1) = _
      rw [List.length_append]
      show _ = L.length + 1
      omega
    · rw [uI_k (by decide), (s4 4 1 (by omega)).1]
      exact c4 t ht j hj
    · rw [uI_k (by decide), uI_k (by decide), (s4 6 1 (by omega)).1, (s4 8 1 (by omega)).1]
      exact c68 t ht m hm
    · rw [uI_k (by decide), uI_k (by decide), (s4 1 1 (by omega)).1, (s4 2 1 (by omega)).1]
      exact c12 w hw
    · rw [uI_k (by decide), (s4 10 1 (by omega)).1]
      exact c10 t ht j hj
    · rw [List.length_append] at hi
      have hi' : i < L.length + 1 := hi
      rw [uI_k (by decide)]
      by_cases z : i = L.length
      · rw [z, List.getElem?_append_right (Nat.le_refl _), Nat.sub_self, s2]
        rfl
      · rw [List.getElem?_append_left (by omega), s3 i z]
        exact cr i (by omega)
  obtain ⟨M', q1, q2, q3, q4, q5⟩ := inv_refresh hx' (h.1.g (fun κ hκ => hF1.k1 (fun b => by omega)) (fun j _ => by rw [hF1.k1 (κ := 50) (fun b => by omega)]) (fun κ b _ _ _ => (hF1 κ b (by omega)).1)) hcb (h.2.2.2.2.1.fr (hF1 25 1 (by omega)).1)
  have e51 : M'.1 51 = M.1 51 := by rw [q4 51 (by decide), hF1.k1 (fun b => by omega)]
  rw [q1, Option.bind_some, q2]
  have hw' : RWd (M'.1 51 0 0) β L := by rw [e51]; exact hw
  -- the reference writes the row
  obtain ⟨M2, hM2⟩ : ∃ M2, M2 = uIw (uIw (uIw (uIw (uIw (uIw M' 51 0 0 (106 + 5 * L.length) r.1) 51 0 0 (106 + 5 * L.length + 1) r.2.1) 51 0 0 (106 + 5 * L.length + 2) r.2.2.1) 51 0 0 (106 + 5 * L.length + 3) r.2.2.2.1) 51 0 0 (106 + 5 * L.length + 4) r.2.2.2.2) 51 0 0 6 (nI (β 0 0 7 + 1)) := ⟨_, rfl⟩
  have hF2 : Fr (fun κ _ => κ = 51) M' M2 := by
    rw [hM2]
    exact (((((Fr.uI (S := fun κ _ => κ = 51) rfl).trans (Fr.uI (S := fun κ _ => κ = 51) rfl)).trans (Fr.uI (S := fun κ _ => κ = 51) rfl)).trans (Fr.uI (S := fun κ _ => κ = 51) rfl)).trans (Fr.uI (S := fun κ _ => κ = 51) rfl)).trans (Fr.uI (S := fun κ _ => κ = 51) rfl)
  have eo : ∀ i, i ≠ 6 → i < 106 + 5 * L.length → M2.1 51 0 0 i = M'.1 51 0 0 i := by
    intro i hi hi2
    rw [hM2, uI1, if_neg (fun q => hi q.2.2.2), uI1, if_neg (fun q => by omega), uI1, if_neg (fun q => by omega), uI1, if_neg (fun q => by omega), uI1, if_neg (fun q => by omega), uI1, if_neg (fun q => by omega)]
  have hw2 : RWd (M2.1 51 0 0) (acN β (β 0 0 7 + 1)) (L ++ [r]) := by
    obtain ⟨⟨w0, w1, w2, w3, w4, w5, w6, w7⟩, wt, wn, ww, wi⟩ := hw'
    have hT5 := hx.1.1.2.2.2.2
    have hW3 := hx.1.1.2.2.2.1
    refine ⟨⟨by rw [eo 0 (by decide) (by omega)]; exact w0, by rw [eo 1 (by decide) (by omega)]; exact w1, by rw [eo 2 (by decide) (by omega)]; exact w2, by rw [eo 3 (by decide) (by omega)]; exact w3, by rw [eo 4 (by decide) (by omega)]; exact w4, by rw [eo 5 (by decide) (by omega)]; exact w5, by rw [hM2, uI1, if_pos ⟨rfl, rfl, rfl, rfl⟩]; rfl, by rw [eo 7 (by decide) (by omega)]; exact w7⟩, fun t ht j hj => ?_, fun t ht m hm => ?_, fun w hw => ?_, fun i hi => ?_⟩
    · have ht' : t < β 0 0 5 := ht
      rw [eo _ (by omega) (by omega)]
      exact wt t ht j hj
    · have ht' : t < β 0 0 5 := ht
      have hm' : m < β 4 t 6 := hm
      have h66 := (hx.1.2.2.2.1 t ht').2.2.2.2.2.2.2.2.2
      rw [eo _ (by omega) (by omega), eo _ (by omega) (by omega)]
      exact wn t ht m hm
    · have hw0 : w < β 0 0 4 := hw
      rw [eo _ (by omega) (by omega)]
      exact ww w hw
    · rw [List.length_append] at hi
      have hi' : i < L.length + 1 := hi
      by_cases z : i = L.length
      · rw [z, List.getElem?_append_right (Nat.le_refl _), Nat.sub_self]
        show some r = some (M2.1 51 0 0 (106 + 5 * L.length + 0), M2.1 51 0 0 (106 + 5 * L.length + 1), M2.1 51 0 0 (106 + 5 * L.length + 2), M2.1 51 0 0 (106 + 5 * L.length + 3), M2.1 51 0 0 (106 + 5 * L.length + 4))
        have n6 : ∀ p, ¬ 106 + 5 * L.length + p = 6 := fun p => by omega
        have d1 : M2.1 51 0 0 (106 + 5 * L.length + 0) = r.1 := by
          rw [hM2, uI1, if_neg (fun q => n6 0 q.2.2.2), uI1, if_neg (by omega), uI1, if_neg (by omega), uI1, if_neg (by omega), uI1, if_neg (by omega), uI1, if_pos ⟨rfl, rfl, rfl, rfl⟩]
        have d2 : M2.1 51 0 0 (106 + 5 * L.length + 1) = r.2.1 := by
          rw [hM2, uI1, if_neg (fun q => n6 1 q.2.2.2), uI1, if_neg (by omega), uI1, if_neg (by omega), uI1, if_neg (by omega), uI1, if_pos ⟨rfl, rfl, rfl, rfl⟩]
        have d3 : M2.1 51 0 0 (106 + 5 * L.length + 2) = r.2.2.1 := by
          rw [hM2, uI1, if_neg (fun q => n6 2 q.2.2.2), uI1, if_neg (by omega), uI1, if_neg (by omega), uI1, if_pos ⟨rfl, rfl, rfl, rfl⟩]
        have d4 : M2.1 51 0 0 (106 + 5 * L.length + 3) = r.2.2.2.1 := by
          rw [hM2, uI1, if_neg (fun q => n6 3 q.2.2.2), uI1, if_neg (by omega), uI1, if_pos ⟨rfl, rfl, rfl, rfl⟩]
        have d5 : M2.1 51 0 0 (106 + 5 * L.length + 4) = r.2.2.2.2 := by
          rw [hM2, uI1, if_neg (fun q => n6 4 q.2.2.2), uI1, if_pos ⟨rfl, rfl, rfl, rfl⟩]
        rw [d1, d2, d3, d4, d5]
      · rw [List.getElem?_append_left (by omega), wi i (by omega)]
        show some (M'.1 51 0 0 (106 + 5 * i + 0), M'.1 51 0 0 (106 + 5 * i + 1), M'.1 51 0 0 (106 + 5 * i + 2), M'.1 51 0 0 (106 + 5 * i + 3), M'.1 51 0 0 (106 + 5 * i + 4)) = some (M2.1 51 0 0 (106 + 5 * i + 0), M2.1 51 0 0 (106 + 5 * i + 1), M2.1 51 0 0 (106 + 5 * i + 2), M2.1 51 0 0 (106 + 5 * i + 3), M2.1 51 0 0 (106 + 5 * i + 4))
        rw [eo _ (by omega) (by omega), eo _ (by omega) (by omega), eo _ (by omega) (by omega), eo _ (by omega) (by omega), eo _ (by omega) (by omega)]
  have hI2 := q5 M2 hw2 (Or.inr hF2)
  rcases r_asks hx' hw2 with ⟨-, M3, u1, u2, u3, u4⟩ | ⟨q, -⟩
  case inr =>
    have q' : β 0 0 3 = 0 := q
    omega
  refine ⟨_, (M3.1 50 0 0 56, M3), rfl, ?_, (ref_rec u2).1.symm, _, _, hI2.i u3⟩
  have f1 : a1 = r.1 := by rw [← hr4]; rfl
  have f2 : a2 = r.2.1 := by rw [← hr4]; rfl
  have f3 : a3 = r.2.2.1 := by rw [← hr4]; rfl
  have f4 : (if a1 = 4 ∨ a1 = 5 then -1 else a4) = r.2.2.2.1 := by rw [← hr4]; rfl
  have f5 : (if a1 = 5 then -1 else a5) = r.2.2.2.2 := by rw [← hr4]; rfl
  have hk : (a1 < 4 ∧ ¬ a1 = 4 ∧ ¬ a1 = 5) ∨ (¬ a1 < 4 ∧ (a1 = 4 ∨ a1 = 5)) := by
    rw [f1]
    rcases hr with ⟨w, x, -, -, e⟩ | ⟨t, j, m, -, -, -, -, e⟩ | ⟨kd, t, j, n, m, hkd, -, -, -, -, -, e⟩
    · rw [e]
      exact Or.inr ⟨show ¬ (5 : Int32) < 4 by decide, Or.inr rfl⟩
    · rw [e]
      exact Or.inr ⟨show ¬ (4 : Int32) < 4 by decide, Or.inl rfl⟩
    · rw [e]
      refine Or.inl ⟨nI_lt (b := 4) hkd (by omega), fun q => ?_, fun q => ?_⟩
      · have := (nI_eq (a := kd) (b := 4) (by omega) (by omega)).mp q
        omega
      · have := (nI_eq (a := kd) (b := 5) (by omega) (by omega)).mp q
        omega
  have hin : ∀ p, p < 5 → inb (nI (106 + 5 * L.length + p)) 201 = true := fun p hp => inb_nI (by omega) (by omega)
  have hcl : ∀ p, p < 5 → (nI (106 + 5 * L.length + p)).toNatClampNeg = 106 + 5 * L.length + p := fun p hp => clampI (by omega)
  have emany : F_X10_many M' = some (nI L.length) := by
    unfold F_X10_many
    rw [hw'.1.2.2.2.2.2.1, hw'.1.2.2.2.2.2.2.1, nI_add, hll]
  have ebase : 106 + 5 * nI L.length = nI (106 + 5 * L.length) := by
    rw [show (106 : Int32) = nI 106 from rfl, show (5 : Int32) = nI 5 from rfl, pk_mul, nI_add]
  have ep : ∀ p : Nat, nI (106 + 5 * L.length) + nI p = nI (106 + 5 * L.length + p) := fun p => nI_add _ _
  have e97 : ∀ x, x = r.2.2.2.1 → B_X10_inject_97 a1 a5 (nI (106 + 5 * L.length)) x (nI (106 + 5 * L.length + 3)) (uIw (uIw (uIw M' 51 0 0 (106 + 5 * L.length) r.1) 51 0 0 (106 + 5 * L.length + 1) r.2.1) 51 0 0 (106 + 5 * L.length + 2) r.2.2.1) = some (M3.1 50 0 0 56, M3) := by
    intro x ex
    have e117 : ∀ y, y = r.2.2.2.2 → B_X10_inject_117 y (nI (106 + 5 * L.length + 4)) (uIw (uIw (uIw (uIw M' 51 0 0 (106 + 5 * L.length) r.1) 51 0 0 (106 + 5 * L.length + 1) r.2.1) 51 0 0 (106 + 5 * L.length + 2) r.2.2.1) 51 0 0 (106 + 5 * L.length + 3) r.2.2.2.1) = some (M3.1 50 0 0 56, M3) := by
      intro y ey
      unfold B_X10_inject_117
      have e6 : (uIw (uIw (uIw (uIw (uIw M' 51 0 0 (106 + 5 * L.length) r.1) 51 0 0 (106 + 5 * L.length + 1) r.2.1) 51 0 0 (106 + 5 * L.length + 2) r.2.2.1) 51 0 0 (106 + 5 * L.length + 3) r.2.2.2.1) 51 0 0 (106 + 5 * L.length + 4) r.2.2.2.2).1 51 0 0 6 = nI (β 0 0 7) := by
        rw [uI1, if_neg (by omega), uI1, if_neg (by omega), uI1, if_neg (by omega), uI1, if_neg (by omega), uI1, if_neg (by omega)]
        exact hw'.1.2.2.2.2.2.2.1
      rw [if_pos (hin 4 (by omega)), hcl 4 (by omega), ey, bd_eq, e6, nI_1, ← hM2, bd_eq, u1, Option.bind_some]
    unfold B_X10_inject_97
    have ep4 : nI (106 + 5 * L.length) + 4 = nI (106 + 5 * L.length + 4) := ep 4
    rw [if_pos (hin 3 (by omega)), hcl 3 (by omega), ex, bd_eq, ep4]
    by_cases z : a1 = 5
    · rw [if_pos z]
      exact e117 (-1) (by rw [← f5, if_pos z])
    · rw [if_neg z]
      exact e117 a5 (by rw [← f5, if_neg z])
  unfold F_X10_inject
  show (F_X10_isBoard M').bind _ = _
  rw [r_isBoard hx hw', Option.bind_some, if_pos hl, if_neg (show ¬ (1 : Int32) = 0 by decide)]
  show (F_X10_canInject a1 a2 a3 a4 a5 M').bind _ = _
  rw [t2 M' hw', Option.bind_some, if_neg (show ¬ (1 : Int32) = 0 by decide)]
  show (if M'.1 51 0 0 6 = 10 then some ((-5), M') else ((F_X10_many M').bind _)) = _
  have ne10 : ¬ nI (β 0 0 7) = 10 := fun q => by
    have := (nI_eq (a := β 0 0 7) (b := 10) (by omega) (by omega)).mp q
    omega
  have hin0 : inb (nI (106 + 5 * L.length)) 201 = true := hin 0 (by omega)
  have hcl0 : (nI (106 + 5 * L.length)).toNatClampNeg = 106 + 5 * L.length := hcl 0 (by omega)
  have ep1 : nI (106 + 5 * L.length) + 1 = nI (106 + 5 * L.length + 1) := ep 1
  have ep2 : nI (106 + 5 * L.length) + 2 = nI (106 + 5 * L.length + 2) := ep 2
  have ep3 : nI (106 + 5 * L.length) + 3 = nI (106 + 5 * L.length + 3) := ep 3
  rw [hw'.1.2.2.2.2.2.2.1, if_neg ne10, emany, Option.bind_some, ebase, bd_eq, if_pos hin0, hcl0, bd_eq, ep1, if_pos (hin 1 (by omega)), hcl 1 (by omega), bd_eq, ep2, if_pos (hin 2 (by omega)), hcl 2 (by omega), bd_eq, ep3]
  rcases hk with ⟨z1, z2, z3⟩ | ⟨z1, z2⟩
  · rw [if_pos z1]
    have := e97 a4 (by rw [← f4, if_neg (fun q => q.elim z2 z3)])
    rw [← f1, ← f2, ← f3] at this
    exact this
  · rw [if_neg z1]
    have := e97 (-1) (by rw [← f4, if_pos z2])
    rw [← f1, ← f2, ← f3] at this
    exact this
