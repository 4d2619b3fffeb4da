/-! ORDERS: one by one, the class -/
def exts (T : Nat) : Nat → List Nat → List (List Nat)
  | 0, pre => [pre]
  | d + 1, pre => (List.range T).flatMap (fun x => if x ∈ pre then [] else exts T d (pre ++ [x]))
def Eo (T : Nat) : List (List Nat) := exts T T []
def fo (l : List Nat) : Nat → Nat := fun p => l.getD p 0
theorem eo_len : ∀ T, T < 6 → 0 < (Eo T).length ∧ (Eo T).length ≤ 120 := by decide +kernel
theorem eo_0 : ∀ T, T < 6 → ∀ p, p < T → fo ((Eo T).getD 0 []) p = p := by decide +kernel
theorem eo_perm : ∀ T, T < 6 → ∀ l ∈ Eo T, l.length = T ∧ (∀ p, p < T → fo l p < T) ∧ (∀ t, t < T → ∃ p, p < T ∧ fo l p = t) ∧ (∀ p1, p1 < T → ∀ p2, p2 < T → fo l p1 = fo l p2 → p1 = p2) := by decide +kernel
def swp (o : Nat → Nat) (a b : Nat) : Nat → Nat := fun p => if p = b then o a else if p = a then o b else o p
def pvN (o : Nat → Nat) : Nat → Nat
  | 0 => 0
  | j + 1 => if o j ≤ o (j + 1) then j + 1 else pvN o j
def scN (o : Nat → Nat) (j : Nat) : Nat → Nat
  | 0 => 0
  | k + 1 => if k + 1 ≤ j + 1 then k + 1 else if o j ≤ o (k + 1) then k + 1 else scN o j k
def rvs : Nat → Nat → Nat → (Nat → Nat) → (Nat → Nat)
  | 0, _, _, o => o
  | f + 1, a, b, o => if b ≤ a then o else rvs f (a + 1) (b - 1) (swp o a b)
def nxtF (T : Nat) (o : Nat → Nat) : Nat → Nat := rvs 3 (pvN o (T - 1)) (T - 1) (swp o (pvN o (T - 1) - 1) (scN o (pvN o (T - 1) - 1) (T - 1)))
theorem eo_next : ∀ T, T < 6 → ∀ i, i < (Eo T).length → if pvN (fo ((Eo T).getD i [])) (T - 1) = 0 then i + 1 = (Eo T).length else i + 1 < (Eo T).length ∧ ∀ p, p < T → nxtF T (fo ((Eo T).getD i [])) p = fo ((Eo T).getD (i + 1) []) p := by decide +kernel
theorem it_downN {β : Type} {z : Int32 → Option β} {B : (Int32 → Option β) → Int32 → Option β} {P : Nat → Prop} {Q : Option β → Prop}
    (step : ∀ (k : Int32 → Option β) (t : Nat), P (t + 1) → (B k (nI t) = k (nI t + (-1)) ∧ P t) ∨ Q (B k (nI t)))
    (done : ∀ (k : Int32 → Option β), P 0 → Q (B k (-1))) :
    ∀ (f t : Nat), t < f → P t → Q (it z B f (nI t + (-1))) := by
  intro f
  induction f with
  | zero => intro t h1; omega
  | succ f ih =>
    intro t h1 hP
    rw [it_succ]
    cases t with
    | zero =>
      have e : nI 0 + (-1) = -1 := by decide +kernel
      rw [e]
      exact done _ hP
    | succ t =>
      rw [pk_m1]
      rcases step (it z B f) t hP with ⟨e, hP'⟩ | hq
      · rw [e]
        exact ih t (by omega) hP'
      · exact hq
def O22 (M : Mw) (T : Nat) (o : Nat → Nat) : Prop := ∀ p, p < T → M.1 22 0 0 p = nI (o p)
theorem c_swap {M : Mw} {T a b : Nat} {o : Nat → Nat} (hT : T ≤ 5) (h : O22 M T o) (ha : a < T) (hb : b < T) : ∃ M', F_X3_swap (nI a) (nI b) M = some M' ∧ O22 M' T (swp o a b) ∧ Fr (fun κ _ => κ = 22) M M' := by
  have ia : inb (nI a) 5 = true := inb_nI (by omega) (by omega)
  have ib : inb (nI b) 5 = true := inb_nI (by omega) (by omega)
  unfold F_X3_swap
  rw [if_pos ia, clampI (by omega), clampI (by omega), h a ha, h b hb, bd_eq, if_pos ib, if_pos ia, bd_eq, if_pos ib, bd_eq]
  refine ⟨_, rfl, fun p hp => ?_, (Fr.uI (S := fun κ _ => κ = 22) rfl).trans (Fr.uI (S := fun κ _ => κ = 22) rfl)⟩
  unfold swp
  rw [uI1, uI1]
  by_cases z : p = b
  · rw [if_pos ⟨rfl, rfl, rfl, z⟩, if_pos z]
  · rw [if_neg (fun y => z y.2.2.2), if_neg z]
    by_cases y : p = a
    · rw [if_pos ⟨rfl, rfl, rfl, y⟩, if_pos y]
    · rw [if_neg (fun w => y w.2.2.2), if_neg y]
      exact h p hp
theorem swp_lt {o : Nat → Nat} {a b : Nat} (h : ∀ p, o p < 1000) : ∀ p, swp o a b p < 1000 := by
  intro p
  unfold swp
  split
  · exact h _
  · split
    · exact h _
    · exact h _
theorem c_rev {M : Mw} {T A B : Nat} {o : Nat → Nat} (hT : T ≤ 5) (h : O22 M T o) (hB : B < T) (hA : A ≤ T) (hAB : B ≤ A + 6) : ∃ M', it (fun _ _ _ => none) (B_X3_nextOrder_85) FU (nI A) (nI B) M = some (1, M') ∧ O22 M' T (rvs 3 A B o) ∧ Fr (fun κ _ => κ = 22) M M' :=
  it_ghM (z := fun _ _ _ => none) (B := B_X3_nextOrder_85) (n := 3)
    (P := fun i a c M1 => ∃ A' B' o', a = nI A' ∧ c = nI B' ∧ O22 M1 T o' ∧ B' < T ∧ A' ≤ T + i ∧ B' ≤ A' + 2 * (3 - i) ∧ rvs (3 - i) A' B' o' = rvs 3 A B o ∧ Fr (fun κ _ => κ = 22) M M1)
    (Q := fun r => ∃ M', r = some (1, M') ∧ O22 M' T (rvs 3 A B o) ∧ Fr (fun κ _ => κ = 22) M M')
    (fun kk i a c M1 hi hP => by
      obtain ⟨A', B', o', rfl, rfl, p1, p2, p3, p4, p5, p6⟩ := hP
      obtain ⟨f, hf⟩ : ∃ f, 3 - i = f + 1 := ⟨2 - i, by omega⟩
      rw [hf] at p5 p4
      have p5' : (if B' ≤ A' then o' else rvs f (A' + 1) (B' - 1) (swp o' A' B')) = rvs 3 A B o := p5
      unfold B_X3_nextOrder_85
      by_cases cc : B' ≤ A'
      · right
        rw [if_pos cc] at p5'
        rw [if_pos (nI_le cc (by omega)), ← p5']
        exact ⟨M1, rfl, p1, p6⟩
      · left
        rw [if_neg cc] at p5'
        obtain ⟨M2, s1, s2, s3⟩ := c_swap hT p1 (show A' < T by omega) p2
        obtain ⟨b, hb⟩ : ∃ b, B' = b + 1 := ⟨B' - 1, by omega⟩
        rw [if_neg (nI_ge (by omega) (by omega)), s1, Option.bind_some, nI_1, bd_eq, hb, pk_m1, bd_eq]
        refine ⟨_, _, M2, rfl, A' + 1, b, swp o' A' B', rfl, rfl, s2, by omega, by omega, by omega, ?_, p6.trans s3⟩
        rw [show 3 - (i + 1) = f by omega, ← p5', hb]
        rfl)
    (fun kk a c M1 hP => by
      obtain ⟨A', B', o', rfl, rfl, p1, p2, p3, p4, p5, p6⟩ := hP
      have p5' : o' = rvs 3 A B o := p5
      unfold B_X3_nextOrder_85
      rw [if_pos (nI_le (show B' ≤ A' by omega) (by omega)), ← p5']
      exact ⟨M1, rfl, p1, p6⟩)
    FU 0 (nI A) (nI B) M (Nat.zero_le _) (by unfold FU; omega) ⟨A, B, o, rfl, rfl, h, hB, by omega, by omega, rfl, Fr.rfl⟩
theorem pv_le {o : Nat → Nat} : ∀ j, pvN o j ≤ j := by
  intro j
  induction j with
  | zero => exact Nat.le_refl _
  | succ j ih =>
    show (if o j ≤ o (j + 1) then j + 1 else pvN o j) ≤ j + 1
    split
    · exact Nat.le_refl _
    · omega
theorem sc_le {o : Nat → Nat} {j : Nat} : ∀ k, scN o j k ≤ k := by
  intro k
  induction k with
  | zero => exact Nat.le_refl _
  | succ k ih =>
    show (if k + 1 ≤ j + 1 then k + 1 else if o j ≤ o (k + 1) then k + 1 else scN o j k) ≤ k + 1
    split
    · exact Nat.le_refl _
    · split
      · exact Nat.le_refl _
      · omega
theorem c_next {M : Mw} {T : Nat} {o : Nat → Nat} (hT : T ≤ 5) (h : O22 M T o) (ho : ∀ p, p < T → o p < 1000) : (pvN o (T - 1) = 0 → F_X3_nextOrder (nI T) M = some (0, M)) ∧ (pvN o (T - 1) ≠ 0 → ∃ M', F_X3_nextOrder (nI T) M = some (1, M') ∧ O22 M' T (nxtF T o) ∧ Fr (fun κ _ => κ = 22) M M') := by
  unfold F_X3_nextOrder
  rw [bd_eq]
  by_cases cT : T = 0
  · subst cT
    refine ⟨fun _ => ?_, fun q => absurd rfl q⟩
    rw [it_FU]
    unfold B_X3_nextOrder_4 B_X3_nextOrder_31
    rw [if_pos (by decide), if_neg (by decide)]
  have es : nI T - 2 = nI (T - 1) + (-1) := by
    rcases (by omega : T = 1 ∨ T = 2 ∨ T = 3 ∨ T = 4 ∨ T = 5) with rfl | rfl | rfl | rfl | rfl <;> decide
  rw [es]
  have main : ∀ (Q : Option (Int32 × Mw) → Prop), (pvN o (T - 1) = 0 → Q (some (0, M))) → (∀ j, pvN o (T - 1) = j + 1 → Q (B_X3_nextOrder_31 (nI T) (nI j) M)) → Q (it (fun _ => none) (B_X3_nextOrder_4 (nI T) M) FU (nI (T - 1) + (-1))) := by
    intro Q h0 h1
    exact it_downN (z := fun _ => none) (B := B_X3_nextOrder_4 (nI T) M) (P := fun t => t ≤ T - 1 ∧ pvN o t = pvN o (T - 1)) (Q := Q)
      (fun kk t hP => by
        obtain ⟨p1, p2⟩ := hP
        have p2' : (if o t ≤ o (t + 1) then t + 1 else pvN o t) = pvN o (T - 1) := p2
        unfold B_X3_nextOrder_4
        rw [if_neg (nI_pos (by omega)), if_pos (inb_nI (by omega) (by omega)), nI_1, if_pos (inb_nI (by omega) (by omega)), clampI (by omega), clampI (by omega), h t (by omega), h (t + 1) (by omega)]
        have b1 := ho t (by omega)
        have b2 := ho (t + 1) (by omega)
        by_cases c : o t ≤ o (t + 1)
        · right
          rw [if_pos c] at p2'
          rw [if_pos (nI_le c (by omega))]
          exact h1 t p2'.symm
        · left
          rw [if_neg c] at p2'
          rw [if_neg (nI_ge (by omega) (by omega)), bd_eq]
          exact ⟨rfl, by omega, p2'⟩)
      (fun kk hP => by
        unfold B_X3_nextOrder_4 B_X3_nextOrder_31
        rw [if_pos (by decide), if_neg (by decide)]
        exact h0 hP.2.symm)
      FU (T - 1) (by unfold FU; omega) ⟨Nat.le_refl _, rfl⟩
  refine ⟨fun q => ?_, fun q => ?_⟩
  · exact main (fun r => r = some (0, M)) (fun _ => rfl) (fun j hj => by omega)
  · refine main (fun r => ∃ M', r = some (1, M') ∧ O22 M' T (nxtF T o) ∧ Fr (fun κ _ => κ = 22) M M') (fun z => absurd z q) (fun j hj => ?_)
    have hjT := pv_le (o := o) (T - 1)
    have h69 : ∀ k, k = scN o j (T - 1) → k < T → ∃ M', B_X3_nextOrder_69 (nI T) (nI j) (nI k) M = some (1, M') ∧ O22 M' T (nxtF T o) ∧ Fr (fun κ _ => κ = 22) M M' := by
      intro k hk hkT
      obtain ⟨M2, s1, s2, s3⟩ := c_swap hT h (show j < T by omega) hkT
      obtain ⟨M3, r1, r2, r3⟩ := c_rev (A := j + 1) (B := T - 1) hT s2 (by omega) (by omega) (by omega)
      refine ⟨M3, ?_, ?_, s3.trans r3⟩
      · unfold B_X3_nextOrder_69
        rw [s1, Option.bind_some, nI_1, bd_eq, nI_predm (by omega), bd_eq, r1]
      · unfold nxtF
        rw [hj, Nat.add_sub_cancel, ← hk]
        exact r2
    unfold B_X3_nextOrder_31
    rw [if_pos (Int32.not_lt.mp (nI_pos (by omega))), nI_predm (by omega), bd_eq]
    have es2 : nI (T - 1) = nI T + (-1) := by
      obtain ⟨T', rfl⟩ : ∃ T', T = T' + 1 := ⟨T - 1, by omega⟩
      rw [pk_m1]
      rfl
    rw [es2]
    exact it_downN (z := fun _ => none) (B := B_X3_nextOrder_41 (nI T) (nI j) M) (P := fun s => j + 2 ≤ s ∧ s ≤ T ∧ scN o j (s - 1) = scN o j (T - 1))
      (Q := fun r => ∃ M', r = some (1, M') ∧ O22 M' T (nxtF T o) ∧ Fr (fun κ _ => κ = 22) M M')
      (fun kk k hP => by
        obtain ⟨p1, p2, p3⟩ := hP
        obtain ⟨k', hk'⟩ : ∃ k', k = k' + 1 := ⟨k - 1, by omega⟩
        rw [Nat.add_sub_cancel] at p3
        subst hk'
        have p3' : (if k' + 1 ≤ j + 1 then k' + 1 else if o j ≤ o (k' + 1) then k' + 1 else scN o j k') = scN o j (T - 1) := p3
        unfold B_X3_nextOrder_41
        rw [nI_1]
        by_cases c1 : k' + 1 ≤ j + 1
        · right
          rw [if_pos c1] at p3'
          rw [if_pos (nI_le c1 (by omega))]
          exact h69 _ p3' (by omega)
        rw [if_neg c1] at p3'
        have b1 := ho j (by omega)
        have b2 := ho (k' + 1) (by omega)
        rw [if_neg (nI_ge (by omega) (by omega)), if_pos (inb_nI (by omega) (by omega)), if_pos (inb_nI (by omega) (by omega)), clampI (by omega), clampI (by omega), h j (by omega), h (k' + 1) (by omega)]
        by_cases c2 : o j ≤ o (k' + 1)
        · right
          rw [if_pos c2] at p3'
          rw [if_pos (nI_le c2 (by omega))]
          exact h69 _ p3' (by omega)
        · left
          rw [if_neg c2] at p3'
          rw [if_neg (nI_ge (by omega) (by omega)), bd_eq]
          exact ⟨rfl, by omega, by omega, p3'⟩)
      (fun kk hP => by
        have := hP.1
        omega)
      FU T (by unfold FU; omega) ⟨by omega, Nat.le_refl _, rfl⟩
def okO (β : Bw) (o : Nat → Nat) : Bool := decide (∀ p, p < β 0 0 5 → lwB β (goC β) (rsC β (goC β) o p) (o p) = true)
theorem c_isOrd {M : Mw} {β : Bw} {L : Lw} {o : Nat → Nat} (hx : Gx β L) (hB : CBd 1 M β L) (h : LwC M β (goC β) o) : F_X3_isOrderLawful 1 M = some (if okO β o = true then 1 else 0) := by
  have hg := hx.1
  have hT5 := hx.1.1.2.2.2.2
  unfold F_X3_isOrderLawful
  exact it_forN (z := fun _ => none) (B := B_X3_isOrderLawful_2 1 M) (n := β 0 0 5) (P := fun i => ∀ p, p < i → lwB β (goC β) (rsC β (goC β) o p) (o p) = true) (Q := fun r => r = some (if okO β o = true then 1 else 0))
    (fun kk i hi hP => by
      unfold B_X3_isOrderLawful_2
      rw [hB.1 5 (by omega), if_neg (nI_ge hi (by omega)), c_isLaw hg (gc_go hg) hB h hi, Option.bind_some]
      by_cases c : lwB β (goC β) (rsC β (goC β) o i) (o i) = true
      · left
        rw [if_pos c, if_neg (show ¬ (1 : Int32) = 0 by decide), nI_1, bd_eq]
        refine ⟨rfl, fun p hp => ?_⟩
        by_cases z : p = i
        · rw [z]; exact c
        · exact hP p (by omega)
      · right
        rw [if_neg c, if_pos rfl, if_neg (fun (q : okO β o = true) => c ((show ∀ p, p < β 0 0 5 → lwB β (goC β) (rsC β (goC β) o p) (o p) = true from of_decide_eq_true q) i hi))])
    (fun kk hP => by
      unfold B_X3_isOrderLawful_2
      rw [hB.1 5 (by omega), if_pos (Int32.le_refl _), if_pos (show okO β o = true from decide_eq_true hP)])
    FU 0 (Nat.zero_le _) (by unfold FU; omega) (fun p hp => by omega)
