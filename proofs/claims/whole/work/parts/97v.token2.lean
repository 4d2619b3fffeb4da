/-! the reference's tape -/
def tkR (k : Nat) : Nat := if k = 4 then 0 else k + 1
def RTp (M : Mw) (S : Nat) (f : Nat → Nat) : Prop := S ≤ 1000 ∧ (∀ j, f j < 256) ∧ (∀ j, j < S → M.1 54 0 0 j &&& 255 = nI (f j) ∧ (f j < 128 → M.1 54 0 0 j = nI (f j))) ∧ M.1 50 0 0 7 = nI S
def RTk (M : Mw) (S : Nat) (f : Nat → Nat) (a : Nat) : Prop := M.1 50 0 0 8 = nI (enP S f a) ∧ M.1 50 0 0 9 = nI (frP S f a) ∧ M.1 50 0 0 10 = nI (tkR (kdP S f a)) ∧ (kdP S f a = 1 → M.1 50 0 0 11 = nI (min 99999 (vlP S f a)))
theorem r_see {M : Mw} {S : Nat} {f : Nat → Nat} (h : RTp M S f) {i : Nat} (hi : i ≤ S) : F_X10_see (nI i) M = some (if i < S then nI (f i) else -1) := by
  obtain ⟨hS, hf, hb, h7⟩ := h
  unfold F_X10_see
  rw [h7]
  by_cases c : i < S
  · rw [if_neg (nI_ge c (by omega)), if_pos (inb_nI (by omega) (by omega)), clampI (by omega), (hb i c).1, if_pos c]
  · rw [if_pos (nI_le (by omega) (by omega)), if_neg c]
theorem lt_tab : ∀ c, c < 256 → (((97 : Int32) ≤ nI c ∧ nI c ≤ 122) ↔ isLt c = true) := by decide +kernel
theorem dg_tab : ∀ c, c < 256 → (((48 : Int32) ≤ nI c ∧ nI c ≤ 57) ↔ isDg c = true) := by decide +kernel
theorem r_inLt (x : Int32) (M : Mw) : F_X10_in x.toInt64 97 122 M = some (if (97 : Int32) ≤ x ∧ x ≤ 122 then 1 else 0) := r_inLL x 97 122 97 122 (by decide) (by decide) M
theorem r_inDg (x : Int32) (M : Mw) : F_X10_in x.toInt64 48 57 M = some (if (48 : Int32) ≤ x ∧ x ≤ 57 then 1 else 0) := r_inLL x 48 57 48 57 (by decide) (by decide) M
theorem RTp.u {M : Mw} {S j : Nat} {f : Nat → Nat} {v : Int32} (h : RTp M S f) (hj : j ≠ 7) : RTp (uIw M 50 0 0 j v) S f := ⟨h.1, h.2.1, fun i hi => by rw [uI_k (by decide)]; exact h.2.2.1 i hi, by rw [uI1, if_neg (fun q => hj q.2.2.2.symm)]; exact h.2.2.2⟩
def O50 (M M' : Mw) : Prop := Fr (fun κ _ => κ = 50) M M' ∧ ∀ j, j ≠ 8 → j ≠ 9 → j ≠ 10 → j ≠ 11 → M'.1 50 0 0 j = M.1 50 0 0 j
theorem O50.rfl {M : Mw} : O50 M M := ⟨Fr.rfl, fun _ _ _ _ _ => Eq.refl _⟩
theorem O50.trans {M M1 M2 : Mw} (h : O50 M M1) (h2 : O50 M1 M2) : O50 M M2 := ⟨h.1.trans h2.1, fun j a b c d => (h2.2 j a b c d).trans (h.2 j a b c d)⟩
theorem O50.u {M : Mw} {j : Nat} {v : Int32} (hj : j = 8 ∨ j = 9 ∨ j = 10 ∨ j = 11) : O50 M (uIw M 50 0 0 j v) := ⟨Fr.uI (S := fun κ _ => κ = 50) (Eq.refl _), fun i a b c d => by rw [uI1, if_neg (fun q => by have := q.2.2.2; omega)]⟩
theorem min_step {v c : Nat} (h1 : 48 ≤ c) (h2 : c ≤ 57) : min 99999 (if v < 100000 then v * 10 + c - 48 else 100000) = min 99999 (10 * min 99999 v + c - 48) := by
  by_cases z : v < 100000
  · rw [if_pos z]; omega
  · rw [if_neg z]; omega
theorem r_advance {M : Mw} {S a : Nat} {f : Nat → Nat} (h : RTp M S f) (ha : a ≤ S) (h8 : M.1 50 0 0 8 = nI a) : ∃ M', F_X10_advance M = some M' ∧ RTp M' S f ∧ RTk M' S f a ∧ O50 M M' := by
  have hf' : ∀ j, j < S → f j < 256 := fun j _ => h.2.1 j
  have hS := h.1
  obtain ⟨hfr1, hfr2⟩ := frP_le (f := f) ha
  obtain ⟨he1, he2, he3⟩ := enP_le hf' ha
  obtain ⟨k5, k4⟩ := kdP_5 hf' a
  obtain ⟨r1, r2, r3⟩ := rnW_spec (q := isBl) (S := S) (f := f) a
  have nm : ∀ c, c < 256 → ¬ nI c = -1 := fun c hc => nI_nm1 (by omega)
  -- behind the blanks
  have kfin : ∀ M1 : Mw, RTp M1 S f → M1.1 50 0 0 8 = nI (frP S f a) → O50 M M1 → ∃ M', (bd (uIw M1 50 0 0 9 (nI (frP S f a))) (fun M8 => ((F_X10_see (M8.1 50 0 0 8) M8).bind (fun v9 => (if v9 = (-1) then (bd (uIw M8 50 0 0 10 0) (fun M39 => some M39)) else ((F_X10_in ((v9).toInt64) 97 122 M8).bind (fun v12 => (if v12 = 0 then ((F_X10_in ((v9).toInt64) 48 57 M8).bind (fun v15 => (if v15 = 0 then (if v9 = 59 then (B_X10_advance_226 3 M8) else (B_X10_advance_226 4 M8)) else (bd (uIw M8 50 0 0 11 0) (fun M21 => (it (fun _ => none) (B_X10_advance_144) FU M21)))))) else (it (fun _ => none) (B_X10_advance_83) FU M8))))))))) = some M' ∧ RTp M' S f ∧ RTk M' S f a ∧ O50 M M' := by
    intro M1 g0 g8 gO
    obtain ⟨M8, hM8⟩ : ∃ M8, M8 = uIw M1 50 0 0 9 (nI (frP S f a)) := ⟨_, rfl⟩
    have h0 : RTp M8 S f := by rw [hM8]; exact g0.u (by decide)
    have e8 : M8.1 50 0 0 8 = nI (frP S f a) := by rw [hM8, uI1, if_neg (fun q => absurd q.2.2.2 (by decide)), g8]
    have e9 : M8.1 50 0 0 9 = nI (frP S f a) := by rw [hM8, uI1, if_pos ⟨rfl, rfl, rfl, rfl⟩]
    have hO : O50 M M8 := by rw [hM8]; exact gO.trans (O50.u (by omega))
    rw [bd_eq, ← hM8, e8, r_see h0 hfr2, Option.bind_some]
    by_cases c4 : kdP S f a = 4
    · have hSe : S ≤ frP S f a := (ckN_4 hf').mp c4
      have hen : enP S f a = frP S f a := by
        unfold enP
        rw [if_pos c4]
      rw [if_neg (by omega : ¬ frP S f a < S), if_pos rfl, bd_eq]
      refine ⟨_, rfl, h0.u (by decide), ⟨?_, ?_, ?_, fun q => by omega⟩, hO.trans (O50.u (by omega))⟩
      · rw [uI1, if_neg (fun q => absurd q.2.2.2 (by decide)), e8, hen]
      · rw [uI1, if_neg (fun q => absurd q.2.2.2 (by decide)), e9]
      · rw [uI1, if_pos ⟨rfl, rfl, rfl, rfl⟩, c4]
        rfl
    have hlt : frP S f a < S := by
      apply Nat.lt_of_not_le
      intro q
      exact c4 ((ckN_4 hf').mpr q)
    have hc256 := h.2.1 (frP S f a)
    have ek : kdP S f a = clsN (f (frP S f a)) := ckN_lt hlt
    rw [if_pos hlt, if_neg (nm _ hc256), r_inLt, Option.bind_some]
    by_cases c0 : kdP S f a = 0
    · have hl := (cls_0 _ hc256).mp (ek ▸ c0)
      rw [if_pos ((lt_tab _ hc256).mpr hl), if_neg (show ¬ (1 : Int32) = 0 by decide)]
      have hen : enP S f a = rnW isLt S f (frP S f a) := by
        unfold enP
        rw [if_neg c4, if_pos c0]
      obtain ⟨s1, s2, s3⟩ := rnW_spec (q := isLt) (S := S) (f := f) (frP S f a)
      rw [← hen] at s1 s2 s3
      exact it_gM (z := fun _ => none) (B := B_X10_advance_83) (n := enP S f a) (P := fun t M2 => frP S f a ≤ t ∧ RTp M2 S f ∧ M2.1 50 0 0 8 = nI t ∧ M2.1 50 0 0 9 = nI (frP S f a) ∧ O50 M M2)
        (Q := fun o => ∃ M', o = some M' ∧ RTp M' S f ∧ RTk M' S f a ∧ O50 M M')
        (fun kk t M2 ht hP => by
          obtain ⟨p0, p1, p8, p9, pO⟩ := hP
          left
          obtain ⟨t1, t2⟩ := s2 t p0 ht
          unfold B_X10_advance_83
          rw [p8, r_see p1 (by omega), Option.bind_some, if_pos t1, r_inLt, if_pos ((lt_tab _ (h.2.1 t)).mpr t2), Option.bind_some, if_neg (show ¬ (1 : Int32) = 0 by decide), bd_eq, nI_1]
          refine ⟨_, rfl, by omega, p1.u (by decide), ?_, ?_, pO.trans (O50.u (by omega))⟩
          · rw [uI1, if_pos ⟨rfl, rfl, rfl, rfl⟩]
          · rw [uI1, if_neg (fun q => absurd q.2.2.2 (by decide)), p9])
        (fun kk M2 hP => by
          obtain ⟨p0, p1, p8, p9, pO⟩ := hP
          unfold B_X10_advance_83
          have en : ¬ ((97 : Int32) ≤ (if enP S f a < S then nI (f (enP S f a)) else -1) ∧ (if enP S f a < S then nI (f (enP S f a)) else -1) ≤ 122) := by
            by_cases z : enP S f a < S
            · rw [if_pos z]
              exact fun q => s3 ⟨z, (lt_tab _ (h.2.1 _)).mp q⟩
            · rw [if_neg z]
              decide
          rw [p8, r_see p1 he2, Option.bind_some, r_inLt, if_neg en, Option.bind_some, if_pos rfl, bd_eq]
          refine ⟨_, rfl, p1.u (by decide), ⟨?_, ?_, ?_, fun q => by omega⟩, pO.trans (O50.u (by omega))⟩
          · rw [uI1, if_neg (fun q => absurd q.2.2.2 (by decide)), p8]
          · rw [uI1, if_neg (fun q => absurd q.2.2.2 (by decide)), p9]
          · rw [uI1, if_pos ⟨rfl, rfl, rfl, rfl⟩, c0]
            rfl)
        FU (frP S f a) M8 s1 (by unfold FU; omega) ⟨Nat.le_refl _, h0, e8, e9, hO⟩
    have hnl : ¬ isLt (f (frP S f a)) = true := fun q => c0 (ek.trans ((cls_0 _ hc256).mpr q))
    rw [if_neg (mt (lt_tab _ hc256).mp hnl), if_pos rfl, r_inDg, Option.bind_some]
    by_cases c1 : kdP S f a = 1
    · have hdg := (cls_1 _ hc256).mp (ek ▸ c1)
      rw [if_pos ((dg_tab _ hc256).mpr hdg), if_neg (show ¬ (1 : Int32) = 0 by decide), bd_eq]
      have hen : enP S f a = rnW isDg S f (frP S f a) := by
        unfold enP
        rw [if_neg c4, if_neg c0, if_pos c1]
      have hvl : vlP S f a = vtN f (frP S f a) (enP S f a - frP S f a) := by
        unfold vlP
        rw [if_pos c1]
      obtain ⟨s1, s2, s3⟩ := rnW_spec (q := isDg) (S := S) (f := f) (frP S f a)
      rw [← hen] at s1 s2 s3
      have h0' : RTp (uIw M8 50 0 0 11 0) S f := h0.u (by decide)
      exact it_gM (z := fun _ => none) (B := B_X10_advance_144) (n := enP S f a) (P := fun t M2 => frP S f a ≤ t ∧ RTp M2 S f ∧ M2.1 50 0 0 8 = nI t ∧ M2.1 50 0 0 9 = nI (frP S f a) ∧ M2.1 50 0 0 11 = nI (min 99999 (vtN f (frP S f a) (t - frP S f a))) ∧ O50 M M2)
        (Q := fun o => ∃ M', o = some M' ∧ RTp M' S f ∧ RTk M' S f a ∧ O50 M M')
        (fun kk t M2 ht hP => by
          obtain ⟨p0, p1, p8, p9, p11, pO⟩ := hP
          left
          obtain ⟨t1, t2⟩ := s2 t p0 ht
          have hd : 48 ≤ f t ∧ f t ≤ 57 := by
            unfold isDg at t2
            rw [Bool.and_eq_true] at t2
            exact ⟨of_decide_eq_true t2.1, of_decide_eq_true t2.2⟩
          have evs : vtN f (frP S f a) (t + 1 - frP S f a) = if vtN f (frP S f a) (t - frP S f a) < 100000 then vtN f (frP S f a) (t - frP S f a) * 10 + f t - 48 else 100000 := by
            rw [show t + 1 - frP S f a = (t - frP S f a) + 1 by omega]
            show (if vtN f (frP S f a) (t - frP S f a) < 100000 then vtN f (frP S f a) (t - frP S f a) * 10 + f (frP S f a + (t - frP S f a)) - 48 else 100000) = _
            rw [show frP S f a + (t - frP S f a) = t by omega]
          unfold B_X10_advance_144
          rw [p8, r_see p1 (by omega), Option.bind_some, if_pos t1, r_inDg, if_pos ((dg_tab _ (h.2.1 t)).mpr t2), Option.bind_some, if_neg (show ¬ (1 : Int32) = 0 by decide), Option.bind_some, p11]
          generalize vtN f (frP S f a) (t - frP S f a) = v at p11 evs
          have e11 : (10 * nI (min 99999 v) + nI (f t)) - 48 = nI (10 * min 99999 v + f t - 48) := by
            rw [show (10 : Int32) = nI 10 from rfl, show (48 : Int32) = nI 48 from rfl, pk_mul, nI_add, pk_sub (by omega)]
          have emin : (if (10 * nI (min 99999 v) + nI (f t)) - 48 < 99999 then (10 * nI (min 99999 v) + nI (f t)) - 48 else 99999) = nI (min 99999 (vtN f (frP S f a) (t + 1 - frP S f a))) := by
            rw [e11, evs, min_step hd.1 hd.2]
            have hb : 10 * min 99999 v + f t - 48 ≤ 1000000 := by omega
            generalize 10 * min 99999 v + f t - 48 = r at hb
            by_cases z : r < 99999
            · rw [if_pos (show nI r < 99999 from nI_lt (b := 99999) z (by omega)), Nat.min_eq_right (by omega)]
            · rw [if_neg (show ¬ nI r < 99999 from nI_nlt (b := 99999) (by omega) (by omega)), Nat.min_eq_left (by omega)]
              rfl
          have e8' : ∀ w : Int32, (uIw M2 50 0 0 11 w).1 50 0 0 8 = nI t := fun w => by rw [uI1, if_neg (fun q => absurd q.2.2.2 (by decide)), p8]
          rw [emin, bd_eq, e8', bd_eq, nI_1]
          refine ⟨_, rfl, by omega, (p1.u (by decide)).u (by decide), ?_, ?_, ?_, (pO.trans (O50.u (by omega))).trans (O50.u (by omega))⟩
          · rw [uI1, if_pos ⟨rfl, rfl, rfl, rfl⟩]
          · rw [uI1, if_neg (fun q => absurd q.2.2.2 (by decide)), uI1, if_neg (fun q => absurd q.2.2.2 (by decide)), p9]
          · rw [uI1, if_neg (fun q => absurd q.2.2.2 (by decide)), uI1, if_pos ⟨rfl, rfl, rfl, rfl⟩])
        (fun kk M2 hP => by
          obtain ⟨p0, p1, p8, p9, p11, pO⟩ := hP
          unfold B_X10_advance_144
          have en : ¬ ((48 : Int32) ≤ (if enP S f a < S then nI (f (enP S f a)) else -1) ∧ (if enP S f a < S then nI (f (enP S f a)) else -1) ≤ 57) := by
            by_cases z : enP S f a < S
            · rw [if_pos z]
              exact fun q => s3 ⟨z, (dg_tab _ (h.2.1 _)).mp q⟩
            · rw [if_neg z]
              decide
          rw [p8, r_see p1 he2, Option.bind_some, r_inDg, if_neg en, Option.bind_some, if_pos rfl, bd_eq]
          refine ⟨_, rfl, p1.u (by decide), ⟨?_, ?_, ?_, fun _ => ?_⟩, pO.trans (O50.u (by omega))⟩
          · rw [uI1, if_neg (fun q => absurd q.2.2.2 (by decide)), p8]
          · rw [uI1, if_neg (fun q => absurd q.2.2.2 (by decide)), p9]
          · rw [uI1, if_pos ⟨rfl, rfl, rfl, rfl⟩, c1]
            rfl
          · rw [uI1, if_neg (fun q => absurd q.2.2.2 (by decide)), p11, hvl])
        FU (frP S f a) _ s1 (by unfold FU; omega) ⟨Nat.le_refl _, h0', by rw [uI1, if_neg (fun q => absurd q.2.2.2 (by decide)), e8], by rw [uI1, if_neg (fun q => absurd q.2.2.2 (by decide)), e9], by rw [uI1, if_pos ⟨rfl, rfl, rfl, rfl⟩, Nat.sub_self]; rfl, hO.trans (O50.u (by omega))⟩
    have hnd : ¬ isDg (f (frP S f a)) = true := fun q => c1 (ek.trans ((cls_1 _ hc256).mpr q))
    rw [if_neg (mt (dg_tab _ hc256).mp hnd), if_pos rfl]
    have hen : enP S f a = frP S f a + 1 := by
      unfold enP
      rw [if_neg c4, if_neg c0, if_neg c1]
    have k226 : ∀ k : Nat, k = tkR (kdP S f a) → ∃ M', B_X10_advance_226 (nI k) M8 = some M' ∧ RTp M' S f ∧ RTk M' S f a ∧ O50 M M' := by
      intro k e
      have e8' : (uIw M8 50 0 0 10 (nI k)).1 50 0 0 8 = nI (frP S f a) := by rw [uI1, if_neg (fun q => absurd q.2.2.2 (by decide)), e8]
      unfold B_X10_advance_226
      rw [bd_eq, e8', bd_eq, nI_1]
      refine ⟨_, rfl, (h0.u (by decide)).u (by decide), ⟨?_, ?_, ?_, fun q => by omega⟩, (hO.trans (O50.u (by omega))).trans (O50.u (by omega))⟩
      · rw [uI1, if_pos ⟨rfl, rfl, rfl, rfl⟩, hen]
      · rw [uI1, if_neg (fun q => absurd q.2.2.2 (by decide)), uI1, if_neg (fun q => absurd q.2.2.2 (by decide)), e9]
      · rw [uI1, if_neg (fun q => absurd q.2.2.2 (by decide)), uI1, if_pos ⟨rfl, rfl, rfl, rfl⟩, e]
    by_cases c59 : f (frP S f a) = 59
    · rw [if_pos (show nI (f (frP S f a)) = 59 by rw [c59]; rfl)]
      refine k226 3 ?_
      rw [ek, (cls_2 _ hc256).mpr c59]
      rfl
    · rw [if_neg (show ¬ nI (f (frP S f a)) = 59 from mt (nI_eq (b := 59) (by omega) (by omega)).mp c59)]
      refine k226 4 ?_
      have hn2 : kdP S f a ≠ 2 := fun q => c59 ((cls_2 _ hc256).mp (ek ▸ q))
      have h3 : kdP S f a = 3 := by omega
      rw [h3]
      rfl
  unfold F_X10_advance
  exact it_gM (z := fun _ => none) (B := B_X10_advance_0) (n := frP S f a) (P := fun t M1 => a ≤ t ∧ RTp M1 S f ∧ M1.1 50 0 0 8 = nI t ∧ O50 M M1)
    (Q := fun o => ∃ M', o = some M' ∧ RTp M' S f ∧ RTk M' S f a ∧ O50 M M')
    (fun kk t M1 ht hP => by
      obtain ⟨p0, p1, p8, pO⟩ := hP
      left
      obtain ⟨t1, t2⟩ := r2 t p0 ht
      have hb : f t = 32 ∨ f t = 10 := by
        unfold isBl at t2
        rw [Bool.or_eq_true] at t2
        rcases t2 with q | q
        · exact Or.inl (of_decide_eq_true q)
        · exact Or.inr (of_decide_eq_true q)
      unfold B_X10_advance_0
      rw [p8, r_see p1 (by omega), Option.bind_some, if_pos t1]
      have hg : ∃ M', kk (uIw M1 50 0 0 8 (nI t + 1)) = kk M' ∧ a ≤ t + 1 ∧ RTp M' S f ∧ M'.1 50 0 0 8 = nI (t + 1) ∧ O50 M M' := by
        rw [nI_1]
        exact ⟨_, rfl, by omega, p1.u (by decide), by rw [uI1, if_pos ⟨rfl, rfl, rfl, rfl⟩], pO.trans (O50.u (by omega))⟩
      rcases hb with q | q
      · rw [if_pos (show nI (f t) = 32 by rw [q]; rfl), bd_eq]
        exact hg
      · rw [if_neg (show ¬ nI (f t) = 32 by rw [q]; decide), Option.bind_some, if_pos (show nI (f t) = 10 by rw [q]; rfl), bd_eq]
        exact hg)
    (fun kk M1 hP => by
      obtain ⟨p0, p1, p8, pO⟩ := hP
      have hk := kfin M1 p1 p8 pO
      unfold B_X10_advance_0
      rw [p8, r_see p1 hfr2, Option.bind_some, Option.bind_some]
      have hn : ∀ w : Nat, (w = 32 ∨ w = 10) → ¬ (if frP S f a < S then nI (f (frP S f a)) else -1) = nI w := by
        intro w hw q
        by_cases z : frP S f a < S
        · rw [if_pos z] at q
          have q' := (nI_eq (by have := h.2.1 (frP S f a); omega) (by omega)).mp q
          refine r3 ⟨z, ?_⟩
          have q2 : f (rnW isBl S f a) = w := q'
          rw [q2]
          rcases hw with rfl | rfl <;> rfl
        · rw [if_neg z] at q
          exact nI_nm1 (by omega) q.symm
      rw [if_neg (show ¬ (if frP S f a < S then nI (f (frP S f a)) else -1) = 32 from hn 32 (by omega)), if_neg (show ¬ (if frP S f a < S then nI (f (frP S f a)) else -1) = 10 from hn 10 (by omega))]
      exact hk)
    FU a M hfr1 (by unfold FU; omega) ⟨Nat.le_refl _, h, h8, O50.rfl⟩
