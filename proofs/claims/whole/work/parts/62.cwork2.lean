/-! A TICK OF A TASK'S OWN, the class -/
/-- more bounds: m kicks and units at most, tick k -/
def SJ (β : Bw) (L : Lw) (FM : UInt32 → Prop) (FS : Nat → UInt64 → Prop) (m k : Nat) (V : Vw) : Prop := ∀ t, t < β 0 0 5 →
  V.1 t 12 ≤ m ∧ V.1 t 10 ≤ V.1 t 12 ∧ V.1 t 14 ≤ V.1 t 12 ∧ V.1 t 3 ≤ m ∧ V.1 t 6 < 64 ∧ (0 < V.1 t 14 → FM (V.2.2.1 t)) ∧ FS (V.1 t 14) (V.2.2.2 t) ∧
  (V.1 t 5 ≠ 0 → V.1 t 0 ≤ k ∧ k + 1 ≤ V.1 t 5 + β 4 t 3) ∧ (0 < V.1 t 2 → V.1 t 0 ≤ k ∧ 1 ≤ V.1 t 1 ∧ (chV L V t ≠ 0 → V.1 t 3 < due β t (V.1 t 2 - 1) (chV L V t))) ∧ V.1 t 8 ≤ 2 ∧ V.1 t 9 ≤ 1
theorem unV_f {V : Vw} {t f : Nat} (h : f ≠ 3) : (unV V t).1 t f = V.1 t f := by
  unfold unV
  rw [vs_at]
  exact if_neg h
theorem unV_3 (V : Vw) (t : Nat) : (unV V t).1 t 3 = V.1 t 3 + 1 := by
  unfold unV
  rw [vs_at]
  rfl
theorem unV_ch (L : Lw) (V : Vw) (t : Nat) : chV L (unV V t) t = chV L V t := by
  unfold chV
  rw [unV_f (by decide), unV_f (by decide)]
theorem unV_gp (V : Vw) (t k : Nat) : gpN (unV V t) t k = gpN V t k := by
  unfold gpN
  rw [unV_f (by decide), unV_f (by decide)]
theorem unV_kk (β : Bw) (L : Lw) (k t cut : Nat) (V : Vw) : kkN β L k t cut (unV V t) = kkN β L k t cut V := by
  unfold kkN
  rw [unV_gp, unV_f (by decide), unV_f (by decide)]
theorem enV_ne {V : Vw} {t t' n : Nat} (h : t' ≠ t) : VE V (enV V t n) t' := vs_ne h
theorem unV_ne {V : Vw} {t t' : Nat} (h : t' ≠ t) : VE V (unV V t) t' := vs_ne h
theorem goV_ne {β : Bw} {k : Nat} {V : Vw} {t t' : Nat} (h : t' ≠ t) : VE V (goV β k V t) t' := by
  unfold goV
  by_cases c : V.1 t 5 = 0
  · rw [if_pos c]
    exact gdV_ne h
  · rw [if_neg c]
    exact (mgV_ne h).trans (gdV_ne h)
theorem CTs.one {b t : Nat} {M M' : Mw} {β : Bw} {L : Lw} {V V' : Vw} (hT : CTs b M β L V) (h : CT b M' β L V' t) (ho : On25 b t M M') (hV : ∀ t', t' ≠ t → VE V V' t') : CTs b M' β L V' := fun t' ht' => by
  by_cases c : t' = t
  · subst c
    exact h
  · obtain ⟨o1, o2, o3⟩ := ho 25 b t' (fun q => c q.2.2)
    exact (hT t' ht').to o1 o2 o3 (hV t' c)
theorem CK.fr {b : Nat} {M M' : Mw} {K : List (Nat × Nat)} (h : CK b M K) (h1 : M'.1 23 b 0 12 = M.1 23 b 0 12) (h2 : M'.1 31 b = M.1 31 b) (h3 : M'.1 32 b = M.1 32 b) : CK b M' K := by
  unfold CK at h ⊢
  rw [h1, h2, h3]
  exact h
def OnW (b : Nat) (M M' : Mw) : Prop := Fr (SRun b) M M' ∧ (∀ κ, κ ≠ 25 → κ ≠ 33 → κ ≠ 23 → κ ≠ 26 → κ ≠ 28 → κ ≠ 31 → κ ≠ 32 → M'.1 κ b = M.1 κ b) ∧ (∀ j, j ≠ 5 → j ≠ 7 → j ≠ 8 → j ≠ 12 → M'.1 23 b 0 j = M.1 23 b 0 j)
theorem OnW.rfl {b : Nat} {M : Mw} : OnW b M M := ⟨Fr.rfl, fun _ _ _ _ _ _ _ _ => Eq.refl _, fun _ _ _ _ _ => Eq.refl _⟩
theorem OnW.trans {b : Nat} {M M1 M2 : Mw} (h : OnW b M M1) (h2 : OnW b M1 M2) : OnW b M M2 := ⟨h.1.trans h2.1, fun κ a c d e f g i => (h2.2.1 κ a c d e f g i).trans (h.2.1 κ a c d e f g i), fun j a c d e => (h2.2.2 j a c d e).trans (h.2.2 j a c d e)⟩
theorem On25.w {b t : Nat} {M M' : Mw} (h : On25 b t M M') : OnW b M M' := ⟨h.run, fun κ a _ _ _ _ _ _ => funext fun i => (h κ b i (fun q => a q.1)).1, fun j _ _ _ _ => by rw [(h 23 b 0 (by omega)).1]⟩
theorem OnF.w {b : Nat} {M M' : Mw} (h : OnF b M M') : OnW b M M' := ⟨h.1, fun κ a c d e f _ _ => h.2.1 κ a c d e f, fun j a c d _ => h.2.2 j a c d⟩
theorem fol_in {β : Bw} {L : Lw} (hg : GB β L) {t n j : Nat} (ht : t < β 0 0 5) (hn : n < β 4 t 6) (h : fol β t n j ≠ 0) : fol β t n j - 1 < β 4 t 6 := by
  obtain ⟨-, -, hv, hbits⟩ := hg.2.2.2.2.1 t n ht hn
  unfold fol at h ⊢
  by_cases c : (scl (β 8 t n)).length = 0
  · rw [if_pos c] at h
    exact absurd rfl h
  · rw [if_neg c]
    have hlt : j % (scl (β 8 t n)).length < (scl (β 8 t n)).length := Nat.mod_lt _ (by omega)
    obtain ⟨x6, xb, -⟩ := scl_at _ hv _ hlt
    have := (hbits _ xb).2
    omega
theorem fol_le {β : Bw} {L : Lw} (hg : GB β L) {t n j : Nat} (ht : t < β 0 0 5) (hn : n < β 4 t 6) : fol β t n j ≤ 6 := by
  have h6 := (hg.2.2.2.1 t ht).2.2.2.2.2.2.2.2.2
  by_cases c : fol β t n j = 0
  · omega
  · have := fol_in hg ht hn c
    omega
theorem ct_un {b : Nat} {M M' : Mw} {β : Bw} {L : Lw} {V : Vw} {t : Nat} {x : Int32} (h : CT b M β L V t) (hM : M' = uIw M 25 b t 3 x) (hx : 0 < V.1 t 2 → chV L V t ≠ 0 → x = nI (due β t (V.1 t 2 - 1) (chV L V t) - (V.1 t 3 + 1)) ∧ V.1 t 3 + 1 ≤ due β t (V.1 t 2 - 1) (chV L V t)) : CT b M' β L (unV V t) t := by
  obtain ⟨h0, h1, h2, h3, h5, h6, h7, h8, h9, h10, h12, h13, h14, h11, h15, h16⟩ := h
  have g : ∀ f, f ≠ 3 → M'.1 25 b t f = M.1 25 b t f := by
    intro f hf
    rw [hM, uI1, if_neg (fun q => hf q.2.2.2)]
  have g3 : M'.1 25 b t 3 = x := by rw [hM, uI1, if_pos ⟨rfl, rfl, rfl, rfl⟩]
  have g2 : M'.2 = M.2 := by rw [hM, uI2]
  unfold CT
  rw [unV_ch, unV_3, unV_f (show 0 ≠ 3 by decide), unV_f (show 1 ≠ 3 by decide), unV_f (show 2 ≠ 3 by decide), unV_f (show 5 ≠ 3 by decide), unV_f (show 6 ≠ 3 by decide), unV_f (show 7 ≠ 3 by decide), unV_f (show 8 ≠ 3 by decide), unV_f (show 9 ≠ 3 by decide), unV_f (show 10 ≠ 3 by decide), unV_f (show 12 ≠ 3 by decide), unV_f (show 13 ≠ 3 by decide), unV_f (show 14 ≠ 3 by decide), g 0 (by decide), g 1 (by decide), g 2 (by decide), g3, g 4 (by decide), g 5 (by decide), g 6 (by decide), g 7 (by decide), g 8 (by decide), g 9 (by decide), g 10 (by decide), g 12 (by decide), g 13 (by decide), g 14 (by decide), g2]
  exact ⟨h0, h1, h2, fun q => ⟨(h3 q).1, fun w => hx q w⟩, h5, h6, h7, h8, h9, h10, h12, h13, h14, h11, h15, h16⟩
theorem c_end98 {b : Nat} {M : Mw} {β : Bw} {L : Lw} {V : Vw} {H : Hw} {k t cy cut : Nat} {K : List (Nat × Nat)} {D : Nat → Nat} {FO FM : UInt32 → Prop} {FS : Nat → UInt64 → Prop} (hg : GB β L) (hF : FH FO FM FS) (hlow : nf (FP.fdiv (FP.i2f (nI (β 0 0 2))) 1092616192) = true) (hB : CBd (b + 5) M β L) (hT : CTs b M β L V) (hG : CG b M β k H) (hK : CK b M K) (hk : k < 200) (hcy : cy ≤ 40) (hKl : K.length < 200) (ht : t < β 0 0 5) (h2 : 0 < V.1 t 2) (hc : cut ≤ 1) (ho : H.2.2.2.2.2 = 0)
    (hI : SI β FO k cy D V H) (v1 : 1 ≤ V.1 t 1) (v0 : V.1 t 0 ≤ k) (v6 : V.1 t 6 < 64) (v14 : V.1 t 14 < 200) (vS : FS (V.1 t 14) (V.2.2.2 t)) (v5 : V.1 t 5 ≠ 0 → gpN V t k ≤ β 4 t 3) :
    ∃ M', B_X5_work_98 b (nI t) t (nI cut) (nI t) M = some M' ∧ CTs b M' β L (if kkN β L k t cut V = 0 then (goV β k V t, H) else failS β k (kkN β L k t cut V) t (V, H)).1 ∧ CG b M' β k (if kkN β L k t cut V = 0 then (goV β k V t, H) else failS β k (kkN β L k t cut V) t (V, H)).2 ∧ CK b M' (if kkN β L k t cut V = 0 then K ++ [(t, gpN V t k)] else K) ∧ OnW b M M' := by
  have hT5 := hg.1.2.2.2.2
  have hin : inb (nI t) 5 = true := inb_nI (by omega) (by omega)
  obtain ⟨a7, a0, a1, a2, a5, af⟩ := hI.2.1 t ht
  obtain ⟨-, -, -, gA, gAB, gB, -⟩ := hg.2.2.2.1 t ht
  have e6 := hG.1
  have hkk : kkN β L k t cut V ≤ 4 := by
    unfold kkN
    by_cases c0 : cut ≠ 0
    · rw [if_pos c0]; omega
    rw [if_neg c0]
    by_cases c1 : chg L (nI t) (nI (V.1 t 1 - 1)) (-1) = 4
    · rw [if_pos c1]; omega
    rw [if_neg c1]
    by_cases c2 : V.1 t 5 ≠ 0 ∧ gpN V t k < β 4 t 2
    · rw [if_pos c2]; omega
    · rw [if_neg c2]; omega
  unfold B_X5_work_98
  rw [c_kind hg hB (hT t ht) e6 ht v0 a5 (by omega) v1 hc, Option.bind_some, e6, c_gap (hT t ht) v0 a5 (by omega), Option.bind_some]
  by_cases c : kkN β L k t cut V = 0
  · have hge : V.1 t 5 ≠ 0 → β 4 t 2 ≤ gpN V t k := by
      intro q
      unfold kkN at c
      by_cases c0 : cut ≠ 0
      · rw [if_pos c0] at c; omega
      rw [if_neg c0] at c
      by_cases c1 : chg L (nI t) (nI (V.1 t 1 - 1)) (-1) = 4
      · rw [if_pos c1] at c; omega
      rw [if_neg c1] at c
      by_cases c2 : V.1 t 5 ≠ 0 ∧ gpN V t k < β 4 t 2
      · rw [if_pos c2] at c; omega
      · exact Nat.le_of_not_lt (fun z => c2 ⟨q, z⟩)
    rw [if_pos (show nI (kkN β L k t cut V) = 0 by rw [c]; rfl), if_pos c, if_pos c]
    obtain ⟨M2, q1, q2, q3, q4⟩ := c_note (t := t) (g := gpN V t k) hK hKl
    have hB2 : CBd (b + 5) M2 β L := hB.run (q3.mono (fun κ b' h => ⟨by omega, by omega, h.2⟩))
    have hT2 : CTs b M2 β L V := fun t' ht' => (hT t' ht').to (by rw [(q3 25 b (by omega)).1]) (by rw [(q3 25 b (by omega)).2.1]) (by rw [(q3 25 b (by omega)).2.2]) VE.rfl
    have hG2 : CG b M2 β k H := by
      obtain ⟨g6, g7, g5, g8, gw, gn, gr⟩ := hG
      unfold CG
      rw [q4 6 (by decide), q4 7 (by decide), q4 5 (by decide), q4 8 (by decide), (q3 33 b (by omega)).1, (q3 34 b (by omega)).1, (q3 26 b (by omega)).1, (q3 28 b (by omega)).1]
      exact ⟨g6, g7, g5, g8, gw, gn, gr⟩
    have eA : M2.1 4 (b + 5) t 2 = nI (β 4 t 2) := hB2.2.2.1 t ht 2 (by omega)
    have eB : M2.1 4 (b + 5) t 3 = nI (β 4 t 3) := hB2.2.2.1 t ht 3 (by omega)
    obtain ⟨M3, r1, r2, r3⟩ := c_kickWell (k := k) hF (hT2 t ht) v0 a5 (by omega) v6 af v14 vS (fun q => ⟨hge q, v5 q⟩) gAB gB
    rw [q1, Option.bind_some, if_pos hin, if_pos hin, clampI (by omega), eA, eB, hG2.1, r1, Option.bind_some]
    refine ⟨M3, rfl, hT2.one r2 r3 (fun t' h => goV_ne h), hG2.fr r3.fr, q2.fr (by rw [(r3 23 b 0 (by omega)).1]) (funext fun i => (r3 31 b i (by omega)).1) (funext fun i => (r3 32 b i (by omega)).1), ?_⟩
    refine OnW.trans ⟨q3.mono (fun κ b' h => ⟨by omega, by omega, h.2⟩), fun κ a b1 c1 d e f g => (q3 κ b (by omega)).1, fun j _ _ _ d => q4 j d⟩ r3.w
  · have hl := hI.len hg hcy
    have hb6 := hI.2.2.2.2.2.2 ho
    obtain ⟨M2, q1, q2, q3, q4, q5, q6⟩ := c_fail (kind := kkN β L k t cut V) hg hB hT hG (by omega) ht hb6 (by omega) (hF.1 _ af).1 hlow (by omega)
    rw [if_neg (nI_ne0 (by omega) (by omega)), if_neg c, if_neg c, q1, Option.bind_some]
    exact ⟨M2, rfl, q2, q3, hK.fr (q6 12 (by decide) (by decide) (by decide)) (q5 31 (by decide) (by decide) (by decide) (by decide) (by decide)) (q5 32 (by decide) (by decide) (by decide) (by decide) (by decide)), OnF.w ⟨q4, q5, q6⟩⟩
theorem c_work {b : Nat} {M : Mw} {β : Bw} {L : Lw} {V : Vw} {H : Hw} {k t cy : Nat} {K : List (Nat × Nat)} {D : Nat → Nat} {FO FM : UInt32 → Prop} {FS : Nat → UInt64 → Prop} (hg : GB β L) (hF : FH FO FM FS) (hlow : nf (FP.fdiv (FP.i2f (nI (β 0 0 2))) 1092616192) = true) (hB : CBd (b + 5) M β L) (hT : CTs b M β L V) (hG : CG b M β k H) (hK : CK b M K) (hk : k < 200) (hcy : cy ≤ 40) (hKl : K.length < 200) (ht : t < β 0 0 5) (h2 : 0 < V.1 t 2) (ho : H.2.2.2.2.2 = 0)
    (hI : SI β FO k cy D V H) (hI' : SI β FO k cy D (unV V t) H) (hJ : SJ β L FM FS k k V) :
    ∃ M', F_X5_work b (nI t) M = some M' ∧ CTs b M' β L (wkS β L k t (V, H)).1 ∧ CG b M' β k (wkS β L k t (V, H)).2 ∧ CK b M' (wkK β L k t V K) ∧ OnW b M M' := by
  have hT5 := hg.1.2.2.2.2
  have hin : inb (nI t) 5 = true := inb_nI (by omega) (by omega)
  obtain ⟨a7, a0, a1, a2, a5, af⟩ := hI.2.1 t ht
  obtain ⟨j12, j10, j14, j3, j6, jm, js, j5, j2, j8⟩ := hJ t ht
  obtain ⟨j20, j21, j23⟩ := j2 h2
  have hCT := hT t ht
  obtain ⟨h4, h3⟩ := hCT.2.2.2.1 h2
  have hd : due β t (V.1 t 2 - 1) (chV L V t) ≤ 18 := by
    have hu := (hg.2.2.2.2.1 t (V.1 t 2 - 1) ht (by omega)).2.1
    unfold due
    by_cases c : chV L V t = 3
    · rw [if_pos c]; omega
    · rw [if_neg c]; omega
  unfold F_X5_work
  rw [c_hasTask1 (hB.1 5 (by omega)) hT5 ht, Option.bind_some, if_neg (by decide), if_pos hin, clampI (by omega), h4]
  by_cases c0 : chV L V t = 0
  · have ew : wkC β L V t = 0 := if_pos (Or.inl c0)
    have es : wkS β L k t (V, H) = (unV V t, H) := if_pos ew
    have eK : wkK β L k t V K = K := if_neg (fun q => by rw [ew] at q; exact absurd q.1 (by decide))
    rw [if_pos c0, es, eK]
    refine ⟨M, rfl, fun t' ht' => ?_, hG, hK, OnW.rfl⟩
    by_cases c : t' = t
    · subst c
      have : M = uIw M 25 b t' 3 (M.1 25 b t' 3) := by
        unfold uIw
        refine Prod.ext ?_ rfl
        funext κ' b'' i'
        rw [rI1]
        by_cases z : κ' = 25 ∧ b'' = b ∧ i' = t'
        · rw [if_pos z]
          obtain ⟨rfl, rfl, rfl⟩ := z
          funext j'
          by_cases y : j' = 3
          · subst y; simp [upd]
          · simp [upd, y]
        · rw [if_neg z]
      exact ct_un hCT this (fun _ q => absurd c0 q)
    · exact (hT t' ht').to rfl rfl rfl (unV_ne c)
  obtain ⟨h3a, h3b⟩ := h3 c0
  have h3c := j23 c0
  rw [if_neg c0, if_pos hin, bd_eq, h3a]
  have ex : nI (due β t (V.1 t 2 - 1) (chV L V t) - V.1 t 3) - 1 = nI (due β t (V.1 t 2 - 1) (chV L V t) - (V.1 t 3 + 1)) := by
    rw [show (1 : Int32) = nI 1 from rfl, pk_sub (by omega), show due β t (V.1 t 2 - 1) (chV L V t) - V.1 t 3 - 1 = due β t (V.1 t 2 - 1) (chV L V t) - (V.1 t 3 + 1) by omega]
  rw [ex]
  obtain ⟨M7, hM7⟩ : ∃ M7, M7 = uIw M 25 b t 3 (nI (due β t (V.1 t 2 - 1) (chV L V t) - (V.1 t 3 + 1))) := ⟨_, rfl⟩
  rw [← hM7]
  have hC7 : CT b M7 β L (unV V t) t := ct_un hCT hM7 (fun _ _ => ⟨rfl, by omega⟩)
  have hO7 : On25 b t M M7 := by rw [hM7]; exact On25.uI
  have hT7 : CTs b M7 β L (unV V t) := hT.one hC7 hO7 (fun t' h => unV_ne h)
  have hB7 : CBd (b + 5) M7 β L := hB.run hO7.run
  have hG7 : CG b M7 β k H := hG.fr hO7.fr
  have hK7 : CK b M7 K := hK.fr (by rw [(hO7 23 b 0 (by omega)).1]) (funext fun i => (hO7 31 b i (by omega)).1) (funext fun i => (hO7 32 b i (by omega)).1)
  have e73 : M7.1 25 b t 3 = nI (due β t (V.1 t 2 - 1) (chV L V t) - (V.1 t 3 + 1)) := by rw [hM7, uI1, if_pos ⟨rfl, rfl, rfl, rfl⟩]
  rw [e73]
  by_cases c1 : V.1 t 3 + 1 < due β t (V.1 t 2 - 1) (chV L V t)
  · have ew : wkC β L V t = 0 := if_pos (Or.inr c1)
    have es : wkS β L k t (V, H) = (unV V t, H) := if_pos ew
    have eK : wkK β L k t V K = K := if_neg (fun q => by rw [ew] at q; exact absurd q.1 (by decide))
    rw [if_neg (nI_nle (by omega) (by omega)), es, eK]
    exact ⟨M7, rfl, hT7, hG7, hK7, hO7.w⟩
  have e0 : nI (due β t (V.1 t 2 - 1) (chV L V t) - (V.1 t 3 + 1)) ≤ 0 := by
    rw [show due β t (V.1 t 2 - 1) (chV L V t) - (V.1 t 3 + 1) = 0 by omega]
    decide
  have ej : F_X7_job b t M7 = some (nI (V.1 t 1 - 1)) := by
    unfold F_X7_job
    rw [hC7.2.1, unV_f (by decide), show (1 : Int32) = nI 1 from rfl, pk_sub j21]
  have e2 : M7.1 25 b t 2 = nI (V.1 t 2 - 1) := by
    rw [hC7.2.2.1, unV_f (by decide)]
    obtain ⟨n, hn⟩ := Nat.exists_eq_succ_of_ne_zero (show V.1 t 2 ≠ 0 by omega)
    rw [hn, pk_m1]
    rfl
  have e4 : M7.1 25 b t 4 = chV L V t := by
    rw [(hC7.2.2.2.1 (by rw [unV_f (by decide)]; exact h2)).1, unV_ch]
  have hfl := fol_le hg (j := V.1 t 1 - 1) ht (show V.1 t 2 - 1 < β 4 t 6 by omega)
  rw [if_pos e0, ej, Option.bind_some, e2, c_follower hg hB7 ht (by omega) (by omega), Option.bind_some, e4]
  have hend : ∀ cut : Nat, cut ≤ 1 → (fol β t (V.1 t 2 - 1) (V.1 t 1 - 1) = 0 ↔ cut = 0) → wkC β L V t = 2 → ∃ M', B_X5_work_98 b (nI t) t (nI cut) (nI t) M7 = some M' ∧ CTs b M' β L (wkS β L k t (V, H)).1 ∧ CG b M' β k (wkS β L k t (V, H)).2 ∧ CK b M' (wkK β L k t V K) ∧ OnW b M M' := by
    intro cut hcu hcf ew
    have ekk : kkN β L k t cut (unV V t) = kkN β L k t (fol β t (V.1 t 2 - 1) (V.1 t 1 - 1)) V := by
      rw [unV_kk]
      unfold kkN
      by_cases z : cut = 0
      · rw [hcf.mpr z, z]
      · rw [if_pos z, if_pos (fun q => z (hcf.mp q))]
    obtain ⟨M', q1, q2, q3, q4, q5⟩ := c_end98 (cut := cut) hg hF hlow hB7 hT7 hG7 hK7 hk hcy hKl ht (by rw [unV_f (by decide)]; exact h2) hcu ho hI' (by rw [unV_f (by decide)]; exact j21) (by rw [unV_f (by decide)]; exact j20) (by rw [unV_f (by decide)]; exact j6) (by rw [unV_f (by decide)]; omega) (by rw [unV_f (by decide)]; exact js) (fun q => by
      rw [unV_f (by decide)] at q
      rw [unV_gp]
      have := (j5 q).2
      unfold gpN
      rw [if_neg q]
      omega)
    rw [ekk, unV_gp] at q4
    rw [ekk] at q2 q3
    have es : wkS β L k t (V, H) = if kkN β L k t (fol β t (V.1 t 2 - 1) (V.1 t 1 - 1)) V = 0 then (goV β k (unV V t) t, H) else failS β k (kkN β L k t (fol β t (V.1 t 2 - 1) (V.1 t 1 - 1)) V) t (unV V t, H) := by
      unfold wkS
      rw [if_neg (show ¬ wkC β L (V, H).1 t = 0 by show ¬ wkC β L V t = 0; omega), if_neg (show ¬ wkC β L (V, H).1 t = 1 by show ¬ wkC β L V t = 1; omega)]
    have eK : wkK β L k t V K = if kkN β L k t (fol β t (V.1 t 2 - 1) (V.1 t 1 - 1)) V = 0 then K ++ [(t, gpN V t k)] else K := by
      unfold wkK
      by_cases z : kkN β L k t (fol β t (V.1 t 2 - 1) (V.1 t 1 - 1)) V = 0
      · rw [if_pos ⟨ew, z⟩, if_pos z]
      · rw [if_neg (fun q => z q.2), if_neg z]
    rw [es, eK]
    exact ⟨M', q1, q2, q3, q4, hO7.w.trans q5⟩
  have hnlt : ¬ (chV L V t = 0 ∨ V.1 t 3 + 1 < due β t (V.1 t 2 - 1) (chV L V t)) := fun q => q.elim c0 c1
  have ewc : wkC β L V t = if fol β t (V.1 t 2 - 1) (V.1 t 1 - 1) ≠ 0 ∧ chV L V t ≠ 2 then 1 else 2 := if_neg hnlt
  by_cases cf : fol β t (V.1 t 2 - 1) (V.1 t 1 - 1) = 0
  · rw [if_pos (by rw [cf]; decide)]
    unfold B_X5_work_86
    rw [if_pos (by rw [cf]; decide)]
    exact hend 0 (by omega) (by omega) (by rw [ewc, if_neg (fun q => q.1 cf)])
  rw [if_neg (nI_m1n cf (by omega))]
  by_cases c2 : chV L V t = 2
  · rw [if_pos c2]
    unfold B_X5_work_86
    rw [if_neg (nI_m1n cf (by omega))]
    exact hend 1 (by omega) (by omega) (by rw [ewc, if_neg (fun q => q.2 c2)])
  rw [if_neg c2]
  have ew : wkC β L V t = 1 := by rw [ewc, if_pos ⟨cf, c2⟩]
  have es : wkS β L k t (V, H) = (enV (unV V t) t (fol β t (V.1 t 2 - 1) (V.1 t 1 - 1) - 1), H) := by
    unfold wkS
    rw [if_neg (show ¬ wkC β L (V, H).1 t = 0 by show ¬ wkC β L V t = 0; omega), if_pos (show wkC β L (V, H).1 t = 1 from ew)]
  have eK : wkK β L k t V K = K := if_neg (fun q => by rw [ew] at q; exact absurd q.1 (by decide))
  obtain ⟨M8, q1, q2, q3⟩ := c_enter (n := fol β t (V.1 t 2 - 1) (V.1 t 1 - 1) - 1) hg hB7 hC7 ht (fol_in hg ht (by omega) cf) (by rw [unV_f (by decide)]; exact j21)
  have ef : nI (fol β t (V.1 t 2 - 1) (V.1 t 1 - 1)) + (-1) = nI (fol β t (V.1 t 2 - 1) (V.1 t 1 - 1) - 1) := by
    obtain ⟨n, hn⟩ := Nat.exists_eq_succ_of_ne_zero cf
    rw [hn, pk_m1]
    rfl
  rw [ef, q1, Option.bind_some, es, eK]
  exact ⟨M8, rfl, hT7.one q2 q3 (fun t' h => enV_ne h), hG7.fr q3.fr, hK7.fr (by rw [(q3 23 b 0 (by omega)).1]) (funext fun i => (q3 31 b i (by omega)).1) (funext fun i => (q3 32 b i (by omega)).1), hO7.w.trans q3.w⟩
