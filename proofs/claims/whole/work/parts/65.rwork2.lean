theorem rt_un {M M' : Mw} {V : Vw} {t : Nat} (h : RT M V t) (hp : 0 < V.1 t 2) (hM : M' = uIw M 68 0 0 t (nI (V.1 t 3 + 1))) : RT M' (unV V t) t := by
  obtain ⟨h0, h1, h2, h3, h70, h71, h6, h7, h8, h9, h10, h12, h13, h14, h11, h15, h16⟩ := h
  have g : ∀ κ, κ ≠ 68 → M'.1 κ = M.1 κ := fun κ hκ => by rw [hM, uI_k hκ]
  have g2 : M'.2 = M.2 := by rw [hM, uI2]
  have g68 : M'.1 68 0 0 t = nI (V.1 t 3 + 1) := by rw [hM, uI1, if_pos ⟨rfl, rfl, rfl, rfl⟩]
  unfold RT
  rw [unV_3, unV_f (show 0 ≠ 3 by decide), unV_f (show 1 ≠ 3 by decide), unV_f (show 2 ≠ 3 by decide), unV_f (show 5 ≠ 3 by decide), unV_f (show 6 ≠ 3 by decide), unV_f (show 7 ≠ 3 by decide), unV_f (show 8 ≠ 3 by decide), unV_f (show 9 ≠ 3 by decide), unV_f (show 10 ≠ 3 by decide), unV_f (show 12 ≠ 3 by decide), unV_f (show 13 ≠ 3 by decide), unV_f (show 14 ≠ 3 by decide), g 64 (by decide), g 66 (by decide), g 65 (by decide), g 67 (by decide), g68, g 70 (by decide), g 71 (by decide), g 69 (by decide), g 73 (by decide), g 75 (by decide), g 76 (by decide), g 72 (by decide), g 77 (by decide), g 78 (by decide), g 81 (by decide), g2]
  exact ⟨h0, h1, h2, fun q => ⟨(h3 q).1, rfl⟩, h70, h71, h6, h7, h8, h9, h10, h12, h13, h14, h11, h15, h16⟩
theorem r_work {M : Mw} {β : Bw} {L : Lw} {V : Vw} {H : Hw} {k t cy : Nat} {K : List (Nat × Nat)} {D : Nat → Nat} {FO FM : UInt32 → Prop} {FS : Nat → UInt64 → Prop} (hg : GB β L) (hF : FH FO FM FS) (hlow : nf (FP.fdiv (FP.i2f (nI (β 0 0 2))) 1092616192) = true) (h : RBd M β L) (hT : RTs M β V) (hG : RG M β H) (hK : RK M β V K) (hk : k < 200) (hcy : cy ≤ 40) (ht : t < β 0 0 5) (h2 : 0 < V.1 t 2) (ho : H.2.2.2.2.2 = 0)
    (hI : SI β FO k cy D V H) (hI' : SI β FO k cy D (unV V t) H) (hJ : SJ β L FM FS k k V) :
    ∃ M', F_X10_works (nI t) (nI k) M = some M' ∧ RTs M' β (wkS β L k t (V, H)).1 ∧ RG M' β (wkS β L k t (V, H)).2 ∧ RK M' β (wkS β L k t (V, H)).1 (wkK β L k t V K) ∧ OnX M M' := by
  have hT5 := hg.1.2.2.2.2
  have hin : inb (nI t) 5 = true := inb_nI (by omega) (by omega)
  have hc : (nI t).toNatClampNeg = t := clampI (by omega)
  obtain ⟨a7, a0, a1, a2, a5, af⟩ := hI.2.1 t ht
  obtain ⟨j12, j10, j14, j3, j6, jm, js, j5, j2, j8⟩ := hJ t ht
  obtain ⟨j20, j21, j23⟩ := j2 h2
  obtain ⟨-, -, -, gA, gAB, gB, -, -, -, g66⟩ := hg.2.2.2.1 t ht
  obtain ⟨u1, u2, hv, -⟩ := hg.2.2.2.2.1 t (V.1 t 2 - 1) ht (by omega)
  have hlen := scl_len _ hv
  have hRT := hT t ht
  obtain ⟨e67, e68⟩ := hRT.2.2.2.1 h2
  have e65 : M.1 65 0 0 t = nI (V.1 t 1 - 1) := by rw [hRT.2.2.1, if_neg (by omega)]
  obtain ⟨M5, hM5⟩ : ∃ M5, M5 = uIw M 68 0 0 t (nI (V.1 t 3 + 1)) := ⟨_, rfl⟩
  have hO5 : OnR t M M5 := by rw [hM5]; exact OnR.uI (by decide) (by decide)
  have hR5 : RT M5 (unV V t) t := rt_un hRT h2 hM5
  have hT5' : RTs M5 β (unV V t) := hT.one hR5 hO5.o3 (fun t' h => unV_ne h)
  have h5b : RBd M5 β L := h.on hO5
  have hG5 : RG M5 β H := hG.on3 hO5.o3
  have e82 : M5.1 82 = M.1 82 := funext fun b => funext fun i => funext fun j => (hO5 82 b i j (by omega)).1
  have hK5 : RK M5 β (unV V t) K := hK.same e82 (fun t' _ => by
    by_cases z : t' = t
    · subst z
      exact unV_f (by decide)
    · rw [(unV_ne z).1])
  have e567 : M5.1 67 0 0 t = nI (V.1 t 2 - 1) := by
    rw [(hR5.2.2.2.1 (by rw [unV_f (by decide)]; exact h2)).1, unV_f (by decide)]
  have e568 : M5.1 68 0 0 t = nI (V.1 t 3 + 1) := by
    rw [(hR5.2.2.2.1 (by rw [unV_f (by decide)]; exact h2)).2, unV_3]
  have e565 : M5.1 65 0 0 t = nI (V.1 t 1 - 1) := by rw [hM5, uI_k (by decide), e65]
  have eu : F_X10_unitsOf (nI t) (nI (V.1 t 2 - 1)) M5 = some (nI (β 6 t (V.1 t 2 - 1))) := by
    rw [r_units (by omega) (by omega), (h5b.2.2.2.1 t ht (V.1 t 2 - 1) (by omega)).1]
  have hd : due β t (V.1 t 2 - 1) (chV L V t) ≤ 18 := by
    unfold due
    by_cases c : chV L V t = 3
    · rw [if_pos c]; omega
    · rw [if_neg c]; omega
  -- behind the units
  have h43 : ∀ s0 s1 : Int32, s1 * s0 = nI (due β t (V.1 t 2 - 1) (chV L V t)) → ∃ M', B_X10_works_43 (nI t) (nI k) (chV L V t) s0 s1 M5 = some M' ∧ RTs M' β (wkS β L k t (V, H)).1 ∧ RG M' β (wkS β L k t (V, H)).2 ∧ RK M' β (wkS β L k t (V, H)).1 (wkK β L k t V K) ∧ OnX M M' := by
    intro s0 s1 hs
    unfold B_X10_works_43
    rw [hs, bd_eq]
    have hstay : wkC β L V t = 0 → RTs M5 β (wkS β L k t (V, H)).1 ∧ RG M5 β (wkS β L k t (V, H)).2 ∧ RK M5 β (wkS β L k t (V, H)).1 (wkK β L k t V K) ∧ OnX M M5 := by
      intro ew
      have es : wkS β L k t (V, H) = (unV V t, H) := if_pos ew
      have eK : wkK β L k t V K = K := if_neg (fun q => by rw [ew] at q; exact absurd q.1 (by decide))
      rw [es, eK]
      exact ⟨hT5', hG5, hK5, hO5.x⟩
    by_cases c0 : chV L V t = 0
    · rw [if_pos c0]
      exact ⟨M5, rfl, hstay (if_pos (Or.inl c0))⟩
    rw [if_neg c0, if_pos hin, hc, e568]
    by_cases c1 : V.1 t 3 + 1 < due β t (V.1 t 2 - 1) (chV L V t)
    · rw [if_neg (nI_ge c1 (by omega))]
      exact ⟨M5, rfl, hstay (if_pos (Or.inr c1))⟩
    rw [if_pos (nI_le (by omega) (by omega)), if_pos hin, e567, r_followers hg h5b ht (by omega), Option.bind_some]
    have hnlt : ¬ (chV L V t = 0 ∨ V.1 t 3 + 1 < due β t (V.1 t 2 - 1) (chV L V t)) := fun q => q.elim c0 c1
    have ewc : wkC β L V t = if fol β t (V.1 t 2 - 1) (V.1 t 1 - 1) ≠ 0 ∧ chV L V t ≠ 2 then 1 else 2 := if_neg hnlt
    have hfz : fol β t (V.1 t 2 - 1) (V.1 t 1 - 1) = 0 ↔ (scl (β 8 t (V.1 t 2 - 1))).length = 0 := by
      unfold fol
      by_cases z : (scl (β 8 t (V.1 t 2 - 1))).length = 0
      · rw [if_pos z]
        exact ⟨fun _ => z, fun _ => rfl⟩
      · rw [if_neg z]
        exact ⟨fun q => absurd q (by omega), fun q => absurd q z⟩
    have hkick : wkC β L V t = 2 → ∃ M', F_X10_kickNow (nI t) (nI k) M5 = some M' ∧ RTs M' β (wkS β L k t (V, H)).1 ∧ RG M' β (wkS β L k t (V, H)).2 ∧ RK M' β (wkS β L k t (V, H)).1 (wkK β L k t V K) ∧ OnX M M' := by
      intro ew
      have ekk : kkN β L k t (fol β t (V.1 t 2 - 1) (V.1 t 1 - 1)) V = kkN β L k t (scl (β 8 t ((unV V t).1 t 2 - 1))).length (unV V t) := by
        rw [unV_kk, unV_f (by decide)]
        unfold kkN
        by_cases z : (scl (β 8 t (V.1 t 2 - 1))).length = 0
        · rw [hfz.mpr z, z]
        · rw [if_pos (fun q => z (hfz.mp q)), if_pos z]
      obtain ⟨M', q1, q2, q3, q4, q5⟩ := r_kick hg hF hlow h5b hT5' hG5 hK5 hk hcy ht ho hI' (by rw [unV_f (by decide)]; exact h2) (by rw [unV_f (by decide)]; exact j21) (by rw [unV_f (by decide)]; exact j20) (by rw [unV_f (by decide)]; exact j6) (fun t' ht' => by
        have := (hJ t' ht').1
        by_cases z : t' = t
        · subst z
          rw [unV_f (by decide)]
          omega
        · rw [(unV_ne z).1]
          omega) (by rw [unV_f (by decide)]; omega) (by rw [unV_f (by decide)]; exact js) (fun q => by
        rw [unV_f (by decide)] at q
        rw [unV_gp]
        have := (j5 q).2
        unfold gpN
        rw [if_neg q]
        omega) ekk
      rw [unV_gp] at q4
      have es : wkS β L k t (V, H) = if kkN β L k t (fol β t (V.1 t 2 - 1) (V.1 t 1 - 1)) V = 0 then (goV β k (unV V t) t, H) else failS β k (kkN β L k t (fol β t (V.1 t 2 - 1) (V.1 t 1 - 1)) V) t (unV V t, H) := by
        unfold wkS
        rw [if_neg (show ¬ wkC β L (V, H).1 t = 0 by show ¬ wkC β L V t = 0; omega), if_neg (show ¬ wkC β L (V, H).1 t = 1 by show ¬ wkC β L V t = 1; omega)]
      have eK : wkK β L k t V K = if kkN β L k t (fol β t (V.1 t 2 - 1) (V.1 t 1 - 1)) V = 0 then K ++ [(t, gpN V t k)] else K := by
        unfold wkK
        by_cases z : kkN β L k t (fol β t (V.1 t 2 - 1) (V.1 t 1 - 1)) V = 0
        · rw [if_pos ⟨ew, z⟩, if_pos z]
        · rw [if_neg (fun q => z q.2), if_neg z]
      rw [es, eK]
      exact ⟨M', q1, q2, q3, q4, hO5.x.trans q5⟩
    by_cases c2 : chV L V t = 2
    · obtain ⟨M', q1, q2⟩ := hkick (by rw [ewc, if_neg (fun q => q.2 c2)])
      rw [if_pos c2, q1, Option.bind_some]
      exact ⟨M', rfl, q2⟩
    rw [if_neg c2]
    by_cases cs : (scl (β 8 t (V.1 t 2 - 1))).length = 0
    · obtain ⟨M', q1, q2⟩ := hkick (by rw [ewc, if_neg (fun q => q.1 (hfz.mpr cs))])
      rw [if_pos (by rw [cs]; rfl), q1, Option.bind_some]
      exact ⟨M', rfl, q2⟩
    have hne : ¬ nI (scl (β 8 t (V.1 t 2 - 1))).length = 0 := nI_ne0 (by omega) (by omega)
    have hlt : (V.1 t 1 - 1) % (scl (β 8 t (V.1 t 2 - 1))).length < (scl (β 8 t (V.1 t 2 - 1))).length := Nat.mod_lt _ (by omega)
    rw [if_neg hne, if_pos hin, if_pos hin, if_neg hne, e565, pk_rem (by omega) (by omega) (by omega), r_follower hg h5b ht (by omega) hlt, Option.bind_some, if_pos hin, bd_eq, if_pos hin, bd_eq]
    have ew : wkC β L V t = 1 := by rw [ewc, if_pos ⟨fun q => cs (hfz.mp q), c2⟩]
    have es : wkS β L k t (V, H) = (enV (unV V t) t (fol β t (V.1 t 2 - 1) (V.1 t 1 - 1) - 1), H) := by
      unfold wkS
      rw [if_neg (show ¬ wkC β L (V, H).1 t = 0 by show ¬ wkC β L V t = 0; omega), if_pos (show wkC β L (V, H).1 t = 1 from ew)]
    have eK : wkK β L k t V K = K := if_neg (fun q => by rw [ew] at q; exact absurd q.1 (by decide))
    have ef : fol β t (V.1 t 2 - 1) (V.1 t 1 - 1) - 1 = (scl (β 8 t (V.1 t 2 - 1))).getD ((V.1 t 1 - 1) % (scl (β 8 t (V.1 t 2 - 1))).length) 0 := by
      unfold fol
      rw [if_neg cs, Nat.add_sub_cancel]
    rw [es, eK, ef]
    generalize (scl (β 8 t (V.1 t 2 - 1))).getD ((V.1 t 1 - 1) % (scl (β 8 t (V.1 t 2 - 1))).length) 0 = x
    have hO6 : OnR t M5 (uIw (uIw M5 67 0 0 t (nI x)) 68 0 0 t 0) := (OnR.uI (by decide) (by decide)).trans (OnR.uI (by decide) (by decide))
    have hR6 : RT (uIw (uIw M5 67 0 0 t (nI x)) 68 0 0 t 0) (enV (unV V t) t x) t := by
      obtain ⟨h0, h1, h2', h3, h70, h71, h6, h7, h8, h9, h10, h12, h13, h14, h11, h15, h16⟩ := hR5
      have eo : ∀ f, f ≠ 2 → f ≠ 3 → (enV (unV V t) t x).1 t f = (unV V t).1 t f := by
        intro f f2 f3
        unfold enV
        rw [vs_at]
        unfold enF
        rw [if_neg f2, if_neg f3]
      have e2 : (enV (unV V t) t x).1 t 2 = x + 1 := by unfold enV; rw [vs_at]; rfl
      have e3 : (enV (unV V t) t x).1 t 3 = 0 := by unfold enV; rw [vs_at]; rfl
      have ez : M5.1 65 0 0 t = nI ((unV V t).1 t 1 - 1) := by rw [e565, unV_f (by decide)]
      have hk6 : ∀ κ, κ ≠ 67 → κ ≠ 68 → (uIw (uIw M5 67 0 0 t (nI x)) 68 0 0 t 0).1 κ = M5.1 κ := fun κ a b => by rw [uI_k b, uI_k a]
      unfold RT
      rw [e2, e3, eo 0 (by decide) (by decide), eo 1 (by decide) (by decide), eo 5 (by decide) (by decide), eo 6 (by decide) (by decide), eo 7 (by decide) (by decide), eo 8 (by decide) (by decide), eo 9 (by decide) (by decide), eo 10 (by decide) (by decide), eo 12 (by decide) (by decide), eo 13 (by decide) (by decide), eo 14 (by decide) (by decide), hk6 64 (by decide) (by decide), hk6 66 (by decide) (by decide), hk6 65 (by decide) (by decide), hk6 70 (by decide) (by decide), hk6 71 (by decide) (by decide), hk6 69 (by decide) (by decide), hk6 73 (by decide) (by decide), hk6 75 (by decide) (by decide), hk6 76 (by decide) (by decide), hk6 72 (by decide) (by decide), hk6 77 (by decide) (by decide), hk6 78 (by decide) (by decide), hk6 81 (by decide) (by decide), uI2, uI2]
      refine ⟨h0, h1, ?_, fun _ => ⟨?_, ?_⟩, h70, h71, h6, h7, h8, h9, h10, h12, h13, h14, h11, h15, h16⟩
      · rw [if_neg (by omega), ez]
      · rw [uI1, if_neg (by omega), uI1, if_pos ⟨rfl, rfl, rfl, rfl⟩, Nat.add_sub_cancel]
      · rw [uI1, if_pos ⟨rfl, rfl, rfl, rfl⟩]
        rfl
    refine ⟨_, rfl, hT5'.one hR6 hO6.o3 (fun t' h => enV_ne h), hG5.on3 hO6.o3, hK5.same (funext fun b => funext fun i => funext fun j => (hO6 82 b i j (by omega)).1) (fun t' _ => ?_), hO5.x.trans hO6.x⟩
    by_cases z : t' = t
    · subst z
      unfold enV
      rw [vs_at]
      rfl
    · rw [(enV_ne z).1]
  unfold F_X10_works
  rw [if_pos hin, hc, e67, r_chg h (by omega) (by omega), Option.bind_some, e65, if_pos hin, if_pos hin, e68, nI_1, bd_eq, ← hM5, if_pos hin, e567, eu, Option.bind_some]
  have hdue : ∀ c : Int32, chV L V t = c → due β t (V.1 t 2 - 1) (chV L V t) = β 6 t (V.1 t 2 - 1) * (if c = 3 then 2 else 1) := fun c q => by rw [q]; rfl
  by_cases c3 : chV L V t = 3
  · have c3' : chg L (nI t) (nI (V.1 t 1 - 1)) (nI (V.1 t 2 - 1)) = 3 := c3
    rw [if_pos c3']
    exact h43 2 _ (by rw [hdue _ c3, if_pos rfl, show (2 : Int32) = nI 2 from rfl, pk_mul])
  · have c3' : ¬ chg L (nI t) (nI (V.1 t 1 - 1)) (nI (V.1 t 2 - 1)) = 3 := c3
    rw [if_neg c3']
    refine h43 1 _ ?_
    unfold due
    rw [if_neg c3, show (1 : Int32) = nI 1 from rfl, pk_mul]
