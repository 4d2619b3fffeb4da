/-! A TICK: what it keeps -/
theorem SI_mono {β : Bw} {FO : UInt32 → Prop} {k cy cy' : Nat} {D : Nat → Nat} {V : Vw} {H : Hw} (h : SI β FO k cy D V H) (hc : cy ≤ cy') : SI β FO (k + 1) cy' D V H := by
  obtain ⟨i1, i2, i3, i4, i5, i6, i7⟩ := h
  refine ⟨i1, fun t ht => ?_, fun t ht => ?_, fun w => ?_, i5, i6, i7⟩
  · obtain ⟨a7, a0, a1, a2, a5, af⟩ := i2 t ht
    exact ⟨a7, a0, by omega, a2, by omega, af⟩
  · have := i3 t ht
    omega
  · have := i4 w
    omega
def GP (β : Bw) (k : Nat) (V : Vw) : Prop := ∀ t, t < β 0 0 5 → V.1 t 5 ≠ 0 → k + 2 ≤ V.1 t 5 + β 4 t 3
/-- at a tick's begin -/
def IVS (β : Bw) (L : Lw) (FO FM : UInt32 → Prop) (FS : Nat → UInt64 → Prop) (k cy : Nat) (s : Vw × Hw) : Prop := IV β L FO FM FS k k cy s ∧ ∀ t, t < β 0 0 5 → s.1.1 t 1 ≤ k
theorem IVS_next {β : Bw} {L : Lw} {FO FM : UInt32 → Prop} {FS : Nat → UInt64 → Prop} {k cy cy' : Nat} {s : Vw × Hw} (h : IV β L FO FM FS (k + 1) k cy s) (hp : GP β k s.1) (hc : cy ≤ cy') : IVS β L FO FM FS (k + 1) cy' s := by
  obtain ⟨⟨D, h1⟩, h2, h3, h4, h5⟩ := h
  refine ⟨⟨⟨D, SI_mono h1 hc⟩, fun t ht => ?_, h3, h4, h5.1, Nat.le_succ_of_le h5.2⟩, fun t ht => (h1.2.1 t ht).2.2.1⟩
  obtain ⟨j12, j10, j14, j3, j6, jm, js, j5, j2, j8⟩ := h2 t ht
  refine ⟨j12, j10, j14, j3, j6, jm, js, fun q => ⟨?_, hp t ht q⟩, fun q => ⟨?_, (j2 q).2⟩, j8⟩
  · have := (j5 q).1
    omega
  · have := (j2 q).1
    omega
def ovH (H : Hw) : Hw := (H.1, H.2.1, H.2.2.1, H.2.2.2.1, H.2.2.2.2.1, 0)
def beS (β : Bw) (k : Nat) (s : Vw × Hw) : Vw × Hw := (beV β (decide (0 < β 0 0 1 ∧ k % β 0 0 1 = 0)) k s.1 (β 0 0 5), ovH s.2)
theorem IV_be {β : Bw} {L : Lw} {FO FM : UInt32 → Prop} {FS : Nat → UInt64 → Prop} {k cy : Nat} {s : Vw × Hw} (hg : GB β L) (h : IVS β L FO FM FS k cy s) (hh : s.2.2.2.2.2.1 = 0) : IV β L FO FM FS k k cy (beS β k s) := by
  obtain ⟨⟨⟨D, i1, i2, i3, i4, i5, i6, i7⟩, h2, h3, h4, h5⟩, h6⟩ := h
  unfold beS
  generalize decide (0 < β 0 0 1 ∧ k % β 0 0 1 = 0) = c
  have hcase : ∀ t, t < β 0 0 5 → (∀ f, f ≠ 1 → f ≠ 2 → f ≠ 3 → f ≠ 9 → f ≠ 10 → (beV β c k s.1 (β 0 0 5)).1 t f = s.1.1 t f) ∧ (beV β c k s.1 (β 0 0 5)).1 t 9 ≤ s.1.1 t 9 ∧ (beV β c k s.1 (β 0 0 5)).1 t 10 ≤ s.1.1 t 10 ∧
      (((∀ f, f = 1 ∨ f = 2 ∨ f = 3 → (beV β c k s.1 (β 0 0 5)).1 t f = s.1.1 t f)) ∨ (s.1.1 t 0 ≤ k ∧ (beV β c k s.1 (β 0 0 5)).1 t 1 = s.1.1 t 1 + 1 ∧ (beV β c k s.1 (β 0 0 5)).1 t 2 = 1 ∧ (beV β c k s.1 (β 0 0 5)).1 t 3 = 0)) := by
    intro t ht
    have e : (beV β c k s.1 (β 0 0 5)).1 t = beG β c k s.1 t := if_pos ht
    rw [e]
    have f9 : ∀ F : Nat → Nat, ∀ f, fgF c F f ≤ F f := by
      intro F f
      unfold fgF
      by_cases z : c = true ∧ (f = 9 ∨ f = 10)
      · rw [if_pos z]; exact Nat.zero_le _
      · rw [if_neg z]; exact Nat.le_refl _
    unfold beG
    by_cases cb : beB β k s.1 t = true
    · rw [if_pos cb]
      have hb0 : s.1.1 t 0 ≤ k := by
        unfold beB at cb
        rw [Bool.and_eq_true, Bool.and_eq_true] at cb
        exact of_decide_eq_true cb.1.2
      refine ⟨fun f a b d e' g => ?_, ?_, ?_, Or.inr ⟨hb0, ?_, rfl, rfl⟩⟩
      · show (if f = 2 then _ else if f = 3 then 0 else (if f = 1 then _ else fgF c (s.1.1 t) f)) = _
        rw [if_neg b, if_neg d, if_neg a, fgF_o c _ e' g]
      · exact f9 _ 9
      · exact f9 _ 10
      · show fgF c (s.1.1 t) 1 + 1 = _
        rw [fgF_o c _ (by decide) (by decide)]
    · rw [if_neg cb]
      exact ⟨fun f a b d e' g => fgF_o c _ e' g, f9 _ 9, f9 _ 10, Or.inl (fun f q => fgF_o c _ (by omega) (by omega))⟩
  refine ⟨⟨D, ?_, fun t ht => ?_, fun t ht => ?_, i4, i5, i6, fun _ => h5.1 hh⟩, fun t ht => ?_, Nat.zero_le _, fun q => absurd rfl q, h5⟩
  · have es : sm (fun t => min 3 ((beV β c k s.1 (β 0 0 5)).1 t 7) + D t) (β 0 0 5) = sm (fun t => min 3 (s.1.1 t 7) + D t) (β 0 0 5) := sm_same (fun j hj => by rw [(hcase j hj).1 7 (by decide) (by decide) (by decide) (by decide) (by decide)])
    show s.2.2.2.1.length ≤ sm (fun t => min 3 ((beV β c k s.1 (β 0 0 5)).1 t 7) + D t) (β 0 0 5) + sm (fun w => s.2.2.1 w) (β 0 0 4) + s.2.2.2.2.1
    rw [es]
    exact i1
  · obtain ⟨a7, a0, a1, a2, a5, af⟩ := i2 t ht
    obtain ⟨e, e9, e10, ec⟩ := hcase t ht
    have hp := (hg.2.2.2.1 t ht).2.2.2.2.2.2.2.2.1
    have := h6 t ht
    show (beV β c k s.1 (β 0 0 5)).1 t 7 ≤ 3 + s.2.2.2.2.1 ∧ (beV β c k s.1 (β 0 0 5)).1 t 0 ≤ 1000 ∧ (beV β c k s.1 (β 0 0 5)).1 t 1 ≤ k + 1 ∧ (beV β c k s.1 (β 0 0 5)).1 t 2 ≤ β 4 t 6 ∧ (beV β c k s.1 (β 0 0 5)).1 t 5 ≤ k + 1 ∧ FO (s.1.2.1 t)
    rw [e 7 (by decide) (by decide) (by decide) (by decide) (by decide), e 0 (by decide) (by decide) (by decide) (by decide) (by decide), e 5 (by decide) (by decide) (by decide) (by decide) (by decide)]
    rcases ec with q | ⟨q0, q1, q2, q3⟩
    · rw [q 1 (by omega), q 2 (by omega)]
      exact ⟨a7, a0, a1, a2, a5, af⟩
    · rw [q1, q2]
      exact ⟨a7, a0, by omega, by omega, a5, af⟩
  · rw [(hcase t ht).1 8 (by decide) (by decide) (by decide) (by decide) (by decide)]
    exact i3 t ht
  · obtain ⟨j12, j10, j14, j3, j6, jm, js, j5, j2, j8⟩ := h2 t ht
    obtain ⟨e, e9, e10, ec⟩ := hcase t ht
    have en := fun f a b d g i => e f a b d g i
    show (beV β c k s.1 (β 0 0 5)).1 t 12 ≤ k ∧ _
    rw [e 12 (by decide) (by decide) (by decide) (by decide) (by decide), e 14 (by decide) (by decide) (by decide) (by decide) (by decide), e 6 (by decide) (by decide) (by decide) (by decide) (by decide), e 5 (by decide) (by decide) (by decide) (by decide) (by decide), e 0 (by decide) (by decide) (by decide) (by decide) (by decide), e 8 (by decide) (by decide) (by decide) (by decide) (by decide)]
    refine ⟨j12, Nat.le_trans e10 j10, j14, ?_, j6, jm, js, j5, ?_, j8.1, Nat.le_trans e9 j8.2⟩
    · rcases ec with q | ⟨q0, q1, q2, q3⟩
      · rw [q 3 (by omega)]; exact j3
      · rw [q3]; exact Nat.zero_le _
    · rcases ec with q | ⟨q0, q1, q2, q3⟩
      · have ech : chV L (beV β c k s.1 (β 0 0 5)) t = chV L s.1 t := by
          unfold chV
          rw [q 1 (by omega), q 2 (by omega)]
        show 0 < (beV β c k s.1 (β 0 0 5)).1 t 2 → _
        rw [ech, q 1 (by omega), q 2 (by omega), q 3 (by omega)]
        exact j2
      · intro _
        refine ⟨q0, by rw [q1]; omega, fun _ => ?_⟩
        show (beV β c k s.1 (β 0 0 5)).1 t 3 < due β t ((beV β c k s.1 (β 0 0 5)).1 t 2 - 1) (chV L (beV β c k s.1 (β 0 0 5)) t)
        rw [q2, q3, Nat.sub_self]
        have hp := (hg.2.2.2.1 t ht).2.2.2.2.2.2.2.2.1
        have hu := (hg.2.2.2.2.1 t 0 ht (by omega)).1
        unfold due
        by_cases z : chV L (beV β c k s.1 (β 0 0 5)) t = 3
        · rw [if_pos z]; omega
        · rw [if_neg z]; omega
theorem SI_one {β : Bw} {FO : UInt32 → Prop} {k cy t : Nat} {D : Nat → Nat} {V V' : Vw} {H : Hw} (h : SI β FO k cy D V H) (hne : ∀ t', t' ≠ t → VE V V' t') (h7 : V'.1 t 7 = V.1 t 7) (h8 : V'.1 t 8 = V.1 t 8) (h0 : V'.1 t 0 = V.1 t 0) (h1 : V'.1 t 1 = V.1 t 1) (h2 : t < β 0 0 5 → V'.1 t 2 ≤ β 4 t 6) (h5 : V'.1 t 5 ≤ k + 1) (hf : t < β 0 0 5 → FO (V'.2.1 t)) : SI β FO k cy D V' H := by
  obtain ⟨i1, i2, i3, i4, i5, i6, i7⟩ := h
  have e7 : ∀ t', V'.1 t' 7 = V.1 t' 7 := fun t' => by
    by_cases c : t' = t
    · rw [c, h7]
    · rw [(hne t' c).1]
  refine ⟨?_, fun t' ht' => ?_, fun t' ht' => ?_, i4, i5, i6, i7⟩
  · have es : sm (fun t => min 3 (V'.1 t 7) + D t) (β 0 0 5) = sm (fun t => min 3 (V.1 t 7) + D t) (β 0 0 5) := sm_same (fun j _ => by rw [e7])
    rw [es]
    exact i1
  · obtain ⟨a7, a0, a1, a2, a5, af⟩ := i2 t' ht'
    by_cases c : t' = t
    · subst c
      rw [h7, h0, h1]
      exact ⟨a7, a0, a1, h2 ht', h5, hf ht'⟩
    · obtain ⟨v1, v2, v3, v4⟩ := hne t' c
      rw [v1, v2]
      exact ⟨a7, a0, a1, a2, a5, af⟩
  · by_cases c : t' = t
    · subst c
      rw [h8]
      exact i3 t' ht'
    · rw [(hne t' c).1]
      exact i3 t' ht'
theorem SI_un {β : Bw} {FO : UInt32 → Prop} {k cy t : Nat} {D : Nat → Nat} {V : Vw} {H : Hw} (h : SI β FO k cy D V H) (ht : t < β 0 0 5) : SI β FO k cy D (unV V t) H := by
  obtain ⟨a7, a0, a1, a2, a5, af⟩ := h.2.1 t ht
  exact SI_one h (fun t' c => unV_ne c) (unV_f (by decide)) (unV_f (by decide)) (unV_f (by decide)) (unV_f (by decide)) (fun _ => by rw [unV_f (by decide)]; exact a2) (by rw [unV_f (by decide)]; exact a5) (fun _ => af)
theorem SJ_one {β : Bw} {L : Lw} {FM : UInt32 → Prop} {FS : Nat → UInt64 → Prop} {m m' k t : Nat} {V V' : Vw} (h : SJ β L FM FS m k V) (hm : m ≤ m') (hne : ∀ t', t' ≠ t → VE V V' t') (ht' : t < β 0 0 5 → V'.1 t 12 ≤ m' ∧ V'.1 t 10 ≤ V'.1 t 12 ∧ V'.1 t 14 ≤ V'.1 t 12 ∧ V'.1 t 3 ≤ m' ∧ V'.1 t 6 < 64 ∧ (0 < V'.1 t 14 → FM (V'.2.2.1 t)) ∧ FS (V'.1 t 14) (V'.2.2.2 t) ∧
  (V'.1 t 5 ≠ 0 → V'.1 t 0 ≤ k ∧ k + 1 ≤ V'.1 t 5 + β 4 t 3) ∧ (0 < V'.1 t 2 → V'.1 t 0 ≤ k ∧ 1 ≤ V'.1 t 1 ∧ (chV L V' t ≠ 0 → V'.1 t 3 < due β t (V'.1 t 2 - 1) (chV L V' t))) ∧ V'.1 t 8 ≤ 2 ∧ V'.1 t 9 ≤ 1) : SJ β L FM FS m' k V' := by
  intro t1 h1
  by_cases c : t1 = t
  · subst c
    exact ht' h1
  · obtain ⟨v1, v2, v3, v4⟩ := hne t1 c
    obtain ⟨j12, j10, j14, j3, j6, jm, js, j5, j2, j8⟩ := h t1 h1
    unfold chV at j2 ⊢
    rw [v1, v3, v4]
    exact ⟨by omega, j10, j14, by omega, j6, jm, js, j5, j2, j8⟩
theorem goV_f {β : Bw} {k : Nat} {V : Vw} {t f : Nat} (h14 : f ≠ 14) : (goV β k V t).1 t f = gkF k (V.1 t) f := by
  unfold goV
  rw [gdV_f]
  by_cases c : V.1 t 5 = 0
  · rw [if_pos c]
  · rw [if_neg c]
    unfold gkF
    rw [mgV_f _ _ _ (show 12 ≠ 14 by decide), mgV_f _ _ _ (show 10 ≠ 14 by decide), mgV_f _ _ _ (show 6 ≠ 14 by decide), mgV_f _ _ _ h14]
theorem goV_h {β : Bw} {k : Nat} {V : Vw} {t : Nat} : (goV β k V t).2.1 t = hUp (V.2.1 t) := by
  unfold goV
  show (if t = t then hUp ((if V.1 t 5 = 0 then V else mgV (mgn β V t k) V t).2.1 t) else _) = _
  rw [if_pos rfl]
  by_cases c : V.1 t 5 = 0
  · rw [if_pos c]
  · rw [if_neg c]
    rfl
theorem kk_open {β : Bw} {L : Lw} {k t cut : Nat} {V : Vw} (h : kkN β L k t cut V = 0) (h5 : V.1 t 5 ≠ 0) : β 4 t 2 ≤ gpN V t k := by
  unfold kkN at h
  by_cases c0 : cut ≠ 0
  · rw [if_pos c0] at h; omega
  rw [if_neg c0] at h
  by_cases c1 : chg L (nI t) (nI (V.1 t 1 - 1)) (-1) = 4
  · rw [if_pos c1] at h; omega
  rw [if_neg c1] at h
  by_cases c2 : V.1 t 5 ≠ 0 ∧ gpN V t k < β 4 t 2
  · rw [if_pos c2] at h; omega
  · exact Nat.le_of_not_lt (fun z => c2 ⟨h5, z⟩)
theorem IV_wk {β : Bw} {L : Lw} {FO FM : UInt32 → Prop} {FS : Nat → UInt64 → Prop} {k cy t : Nat} {s : Vw × Hw} (hg : GB β L) (hF : FH FO FM FS) (hk : k < 200) (ht : t < β 0 0 5) (h2 : 0 < s.1.1 t 2) (ho : s.2.2.2.2.2.2 = 0) (h : IV β L FO FM FS k k cy s) : IV β L FO FM FS (k + 1) k cy (wkS β L k t s) := by
  obtain ⟨⟨D, hS⟩, hJ, h3, h4, h5⟩ := id h
  obtain ⟨a7, a0, a1, a2, a5, af⟩ := hS.2.1 t ht
  obtain ⟨j12, j10, j14, j3, j6, jm, js, j5, j2, j8, j9⟩ := hJ t ht
  obtain ⟨j20, j21, j23⟩ := j2 h2
  have hSu : SI β FO k cy D (unV s.1 t) s.2 := SI_un hS ht
  have hmk : ∀ V' : Vw, SI β FO k cy D V' s.2 → SJ β L FM FS (k + 1) k V' → IV β L FO FM FS (k + 1) k cy (V', s.2) := fun V' q1 q2 => ⟨⟨D, q1⟩, q2, h3, fun q => absurd ho q, h5⟩
  unfold wkS
  by_cases c0 : wkC β L s.1 t = 0
  · rw [if_pos c0]
    refine hmk _ hSu (SJ_one (m := k) hJ (Nat.le_succ k) (fun t' c => unV_ne c) (fun _ => ?_))
    rw [unV_ch, unV_3, unV_f (show 12 ≠ 3 by decide), unV_f (show 10 ≠ 3 by decide), unV_f (show 14 ≠ 3 by decide), unV_f (show 6 ≠ 3 by decide), unV_f (show 5 ≠ 3 by decide), unV_f (show 0 ≠ 3 by decide), unV_f (show 2 ≠ 3 by decide), unV_f (show 1 ≠ 3 by decide), unV_f (show 8 ≠ 3 by decide), unV_f (show 9 ≠ 3 by decide)]
    refine ⟨by omega, j10, j14, by omega, j6, jm, js, j5, fun _ => ⟨j20, j21, fun q => ?_⟩, j8, j9⟩
    unfold wkC at c0
    by_cases c1 : chV L s.1 t = 0 ∨ s.1.1 t 3 + 1 < due β t (s.1.1 t 2 - 1) (chV L s.1 t)
    · rcases c1 with z | z
      · exact absurd z q
      · exact z
    · rw [if_neg c1] at c0
      by_cases c2 : fol β t (s.1.1 t 2 - 1) (s.1.1 t 1 - 1) ≠ 0 ∧ chV L s.1 t ≠ 2
      · rw [if_pos c2] at c0; omega
      · rw [if_neg c2] at c0; omega
  rw [if_neg c0]
  by_cases c1 : wkC β L s.1 t = 1
  · rw [if_pos c1]
    have cf : fol β t (s.1.1 t 2 - 1) (s.1.1 t 1 - 1) ≠ 0 := by
      intro q
      unfold wkC at c1
      by_cases z : chV L s.1 t = 0 ∨ s.1.1 t 3 + 1 < due β t (s.1.1 t 2 - 1) (chV L s.1 t)
      · rw [if_pos z] at c1; omega
      · rw [if_neg z, if_neg (fun w => w.1 q)] at c1; omega
    have hin := fol_in hg ht (show s.1.1 t 2 - 1 < β 4 t 6 by omega) cf
    generalize fol β t (s.1.1 t 2 - 1) (s.1.1 t 1 - 1) - 1 = x at hin ⊢
    have eo : ∀ f, f ≠ 2 → f ≠ 3 → (enV (unV s.1 t) t x).1 t f = s.1.1 t f := by
      intro f f2 f3
      unfold enV
      rw [vs_at]
      unfold enF
      rw [if_neg f2, if_neg f3, unV_f f3]
    have e2 : (enV (unV s.1 t) t x).1 t 2 = x + 1 := by unfold enV; rw [vs_at]; rfl
    have e3 : (enV (unV s.1 t) t x).1 t 3 = 0 := by unfold enV; rw [vs_at]; rfl
    refine hmk _ (SI_one hS (fun t' c => (unV_ne c).trans (enV_ne c)) (eo 7 (by decide) (by decide)) (eo 8 (by decide) (by decide)) (eo 0 (by decide) (by decide)) (eo 1 (by decide) (by decide)) (fun _ => by rw [e2]; exact hin) (by rw [eo 5 (by decide) (by decide)]; exact a5) (fun _ => af)) (SJ_one (m := k) hJ (Nat.le_succ k) (fun t' c => (unV_ne c).trans (enV_ne c)) (fun _ => ?_))
    rw [e2, e3, eo 12 (by decide) (by decide), eo 10 (by decide) (by decide), eo 14 (by decide) (by decide), eo 6 (by decide) (by decide), eo 5 (by decide) (by decide), eo 0 (by decide) (by decide), eo 1 (by decide) (by decide), eo 8 (by decide) (by decide), eo 9 (by decide) (by decide)]
    refine ⟨by omega, j10, j14, by omega, j6, jm, js, j5, fun _ => ⟨j20, j21, fun q => ?_⟩, j8, j9⟩
    have hu := (hg.2.2.2.2.1 t x ht hin).1
    rw [Nat.add_sub_cancel]
    unfold due
    by_cases z : chV L (enV (unV s.1 t) t x) t = 3
    · rw [if_pos z]; omega
    · rw [if_neg z]; omega
  rw [if_neg c1]
  by_cases ck : kkN β L k t (fol β t (s.1.1 t 2 - 1) (s.1.1 t 1 - 1)) s.1 = 0
  · rw [if_pos ck]
    have hop : s.1.1 t 5 ≠ 0 → β 4 t 2 ≤ gpN (unV s.1 t) t k := fun q => by rw [unV_gp]; exact kk_open ck q
    obtain ⟨-, -, -, gA, gAB, gB, -⟩ := hg.2.2.2.1 t ht
    have eg : ∀ f, f ≠ 14 → f ≠ 12 → f ≠ 10 → f ≠ 13 → f ≠ 5 → f ≠ 6 → f ≠ 2 → f ≠ 3 → (goV β k (unV s.1 t) t).1 t f = s.1.1 t f := by
      intro f q14 q12 q10 q13 q5 q6 q2 q3
      rw [goV_f q14]
      unfold gkF
      rw [if_neg q12, if_neg q10, if_neg q13, if_neg q5, if_neg q6, if_neg q2, unV_f q3]
    have e12 : (goV β k (unV s.1 t) t).1 t 12 = s.1.1 t 12 + 1 := by rw [goV_12, unV_f (by decide)]
    have e10 : (goV β k (unV s.1 t) t).1 t 10 = s.1.1 t 10 + 1 := by rw [goV_f (by decide)]; show (unV s.1 t).1 t 10 + 1 = _; rw [unV_f (by decide)]
    have e5 : (goV β k (unV s.1 t) t).1 t 5 = k + 1 := by rw [goV_f (by decide)]; rfl
    have e6 : (goV β k (unV s.1 t) t).1 t 6 = (13 * s.1.1 t 6 + 7) % 64 := by rw [goV_f (by decide)]; show (13 * (unV s.1 t).1 t 6 + 7) % 64 = _; rw [unV_f (by decide)]
    have e2 : (goV β k (unV s.1 t) t).1 t 2 = 0 := by rw [goV_f (by decide)]; rfl
    have e3 : (goV β k (unV s.1 t) t).1 t 3 = s.1.1 t 3 + 1 := by rw [goV_f (by decide)]; show (unV s.1 t).1 t 3 = _; rw [unV_3]
    have eh : (goV β k (unV s.1 t) t).2.1 t = hUp (s.1.2.1 t) := goV_h
    have h14 : ((goV β k (unV s.1 t) t).1 t 14 = s.1.1 t 14 ∧ (goV β k (unV s.1 t) t).2.2.1 t = s.1.2.2.1 t ∧ (goV β k (unV s.1 t) t).2.2.2 t = s.1.2.2.2 t) ∨ ((goV β k (unV s.1 t) t).1 t 14 = s.1.1 t 14 + 1 ∧ FM ((goV β k (unV s.1 t) t).2.2.1 t) ∧ FS (s.1.1 t 14 + 1) ((goV β k (unV s.1 t) t).2.2.2 t)) := by
      by_cases c5 : s.1.1 t 5 = 0
      · left
        unfold goV
        rw [unV_f (show 5 ≠ 3 by decide), if_pos c5]
        refine ⟨?_, rfl, rfl⟩
        rw [gdV_f]
        show (unV s.1 t).1 t 14 = _
        rw [unV_f (by decide)]
      · right
        have hB := (j5 c5).2
        have hgp : gpN (unV s.1 t) t k ≤ β 4 t 3 := by
          rw [unV_gp]
          unfold gpN
          rw [if_neg c5]
          omega
        obtain ⟨g1, g2⟩ := hF.2.2.1 (β 4 t 3 - gpN (unV s.1 t) t k) (β 4 t 3 - β 4 t 2) (by have := hop c5; omega) (by omega) (by omega)
        obtain ⟨g4, g5⟩ := hF.2.2.2.2 _ _ _ (show s.1.1 t 14 < 200 by omega) js g2
        unfold goV
        rw [unV_f (show 5 ≠ 3 by decide), if_neg c5]
        have em : mgn β (unV s.1 t) t k = FP.fdiv (FP.i2f (nI (β 4 t 3 - gpN (unV s.1 t) t k))) (FP.i2f (nI (β 4 t 3 - β 4 t 2))) := rfl
        rw [em]
        generalize FP.fdiv (FP.i2f (nI (β 4 t 3 - gpN (unV s.1 t) t k))) (FP.i2f (nI (β 4 t 3 - β 4 t 2))) = mm at g2 g5 ⊢
        refine ⟨?_, ?_, ?_⟩
        · rw [gdV_f]
          show (mgV mm (unV s.1 t) t).1 t 14 = _
          rw [mgV_14, unV_f (by decide)]
        · show FM (if t = t then lsN mm (unV s.1 t) t else _)
          rw [if_pos rfl]
          unfold lsN
          rw [unV_f (show 14 ≠ 3 by decide)]
          by_cases z : s.1.1 t 14 = 0 ∨ ltF mm ((unV s.1 t).2.2.1 t) = true
          · rw [if_pos z]; exact g2
          · rw [if_neg z]; exact jm (by omega)
        · show FS _ (if t = t then FP.dadd ((unV s.1 t).2.2.2 t) (FP.f2d mm) else _)
          rw [if_pos rfl]
          exact g5
    refine hmk _ (SI_one hS (fun t' c => (unV_ne c).trans (goV_ne c)) (eg 7 (by decide) (by decide) (by decide) (by decide) (by decide) (by decide) (by decide) (by decide)) (eg 8 (by decide) (by decide) (by decide) (by decide) (by decide) (by decide) (by decide) (by decide)) (eg 0 (by decide) (by decide) (by decide) (by decide) (by decide) (by decide) (by decide) (by decide)) (eg 1 (by decide) (by decide) (by decide) (by decide) (by decide) (by decide) (by decide) (by decide)) (fun _ => by rw [e2]; exact Nat.zero_le _) (by rw [e5]; exact Nat.le_refl _) (fun _ => by rw [eh]; exact (hF.2.1 _ af).2.2.2)) (SJ_one (m := k) hJ (Nat.le_succ k) (fun t' c => (unV_ne c).trans (goV_ne c)) (fun _ => ?_))
    rw [e12, e10, e5, e6, e2, e3, eg 0 (by decide) (by decide) (by decide) (by decide) (by decide) (by decide) (by decide) (by decide), eg 8 (by decide) (by decide) (by decide) (by decide) (by decide) (by decide) (by decide) (by decide), eg 9 (by decide) (by decide) (by decide) (by decide) (by decide) (by decide) (by decide) (by decide)]
    refine ⟨by omega, by omega, ?_, by omega, Nat.mod_lt _ (by decide), ?_, ?_, fun _ => ⟨j20, by omega⟩, fun q => absurd q (Nat.lt_irrefl 0), j8, j9⟩
    · rcases h14 with ⟨q, -, -⟩ | ⟨q, -, -⟩ <;> omega
    · rcases h14 with ⟨q, q2, -⟩ | ⟨q, q2, -⟩
      · rw [q, q2]; exact jm
      · exact fun _ => q2
    · rcases h14 with ⟨q, -, q2⟩ | ⟨q, -, q2⟩
      · rw [q, q2]; exact js
      · rw [q]; exact q2
  · rw [if_neg ck]
    -- a fault: behind it nothing is said of the place, which is gone
    have hJp : SJ β L FM FS (k + 1) k (plV (unV s.1 t) t) := SJ_one (m := k) hJ (Nat.le_succ k) (fun t' c => (unV_ne c).trans (plV_ne c)) (fun _ => by
      rw [plV_2, plV_f (show 12 ≠ 2 by decide), plV_f (show 10 ≠ 2 by decide), plV_f (show 14 ≠ 2 by decide), plV_f (show 3 ≠ 2 by decide), plV_f (show 6 ≠ 2 by decide), plV_f (show 5 ≠ 2 by decide), plV_f (show 0 ≠ 2 by decide), plV_f (show 8 ≠ 2 by decide), plV_f (show 9 ≠ 2 by decide), unV_3, unV_f (show 12 ≠ 3 by decide), unV_f (show 10 ≠ 3 by decide), unV_f (show 14 ≠ 3 by decide), unV_f (show 6 ≠ 3 by decide), unV_f (show 5 ≠ 3 by decide), unV_f (show 0 ≠ 3 by decide), unV_f (show 8 ≠ 3 by decide), unV_f (show 9 ≠ 3 by decide)]
      exact ⟨by omega, j10, j14, by omega, j6, jm, js, j5, fun q => absurd q (Nat.lt_irrefl 0), j8, j9⟩)
    have hSp : SI β FO k cy D (plV (unV s.1 t) t) s.2 := SI_one hSu (fun t' c => plV_ne c) (plV_f (by decide)) (plV_f (by decide)) (plV_f (by decide)) (plV_f (by decide)) (fun _ => by rw [plV_2]; exact Nat.zero_le _) (by rw [plV_f (by decide), unV_f (by decide)]; exact a5) (fun _ => af)
    have := IV_fail (s := (plV (unV s.1 t) t, s.2)) (kind := kkN β L k t (fol β t (s.1.1 t 2 - 1) (s.1.1 t 1 - 1)) s.1) hg hF (by omega) ht ho (hmk _ hSp hJp)
    rw [fail_pl ht] at this
    exact this
