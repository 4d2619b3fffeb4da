/-! A TICK, the class: entering a node -/
def enF (F : Nat → Nat) (n : Nat) : Nat → Nat := fun f => if f = 2 then n + 1 else if f = 3 then 0 else F f
def enV (V : Vw) (t n : Nat) : Vw := vs V t (enF (V.1 t) n)
theorem On25.run {b t : Nat} {M M' : Mw} (h : On25 b t M M') : Fr (SRun b) M M' := h.fr.mono (fun κ b' q => ⟨by omega, by omega, q.2⟩)
theorem c_enter {b : Nat} {M : Mw} {β : Bw} {L : Lw} {V : Vw} {t n : Nat} (hg : GB β L) (hB : CBd (b + 5) M β L) (h : CT b M β L V t) (ht : t < β 0 0 5) (hn : n < β 4 t 6) (hj : 1 ≤ V.1 t 1) :
    ∃ M', F_X5_enterNode b (nI t) (nI n) M = some M' ∧ CT b M' β L (enV V t n) t ∧ On25 b t M M' := by
  have h5 := hg.1.2.2.2.2
  have h6 := (hg.2.2.2.1 t ht).2.2.2.2.2.2.2.2.2
  obtain ⟨u1, u2, -, -⟩ := hg.2.2.2.2.1 t n ht hn
  have hin : inb (nI t) 5 = true := inb_nI (by omega) (by omega)
  have hin6 : inb (nI n) 6 = true := inb_nI (by omega) (by omega)
  obtain ⟨h0, h1, h2, h3, h5', h6', h7, h8, h9, h10, h12, h13, h14, h11, h15, h16⟩ := h
  have hB2 : CBd (b + 5) (uIw M 25 b t 2 (nI n)) β L := hB.run (On25.run (t := t) On25.uI)
  have ejob : (uIw M 25 b t 2 (nI n)).1 25 b t 1 - 1 = nI (V.1 t 1 - 1) := by
    rw [uI1, if_neg (by omega), h1, show (1 : Int32) = nI 1 from rfl, pk_sub hj]
  have ech : ∀ M' : Mw, M' = M → chV L (enV V t n) t = chg L (nI t) (nI (V.1 t 1 - 1)) (nI n) := by
    intro _ _
    unfold chV enV
    rw [vs_at]
    simp [enF]
  have ech := ech M rfl
  unfold F_X5_enterNode F_X7_job
  rw [if_pos hin]
  simp only [bd_eq, clampI (show t < 2 ^ 31 by omega), clampI (show n < 2 ^ 31 by omega), Option.bind_some, ejob, c_chg hg.2.2.2.2.2.2.2.1 hB2, if_pos hin, if_pos hin6]
  have eu : M.1 6 (b + 5) t n = nI (β 6 t n) := (hB.2.2.2.1 t ht n hn).1
  rw [← ech]
  have e4 : (uIw (uIw M 25 b t 2 (nI n)) 25 b t 4 (chV L (enV V t n) t)).1 25 b t 4 = chV L (enV V t n) t := by
    rw [uI1, if_pos ⟨rfl, rfl, rfl, rfl⟩]
  have e6 : (uIw (uIw M 25 b t 2 (nI n)) 25 b t 4 (chV L (enV V t n) t)).1 6 (b + 5) t n = nI (β 6 t n) := by
    rw [uI1, if_neg (by omega), uI1, if_neg (by omega), eu]
  rw [e4, e6]
  have hfin : ∀ x : Int32, x = nI (due β t n (chV L (enV V t n) t)) → CT b (uIw (uIw (uIw M 25 b t 2 (nI n)) 25 b t 4 (chV L (enV V t n) t)) 25 b t 3 x) β L (enV V t n) t ∧ On25 b t M (uIw (uIw (uIw M 25 b t 2 (nI n)) 25 b t 4 (chV L (enV V t n) t)) 25 b t 3 x) := by
    intro x hx
    have hdue : 0 < due β t n (chV L (enV V t n) t) := by
      unfold due
      by_cases c : chV L (enV V t n) t = 3
      · rw [if_pos c]; omega
      · rw [if_neg c]; omega
    refine ⟨?_, (On25.uI.trans On25.uI).trans On25.uI⟩
    generalize hc : chV L (enV V t n) t = c at hx hdue ⊢
    have e2 : (enV V t n).1 t 2 = n + 1 := by unfold enV; rw [vs_at]; rfl
    have e3 : (enV V t n).1 t 3 = 0 := by unfold enV; rw [vs_at]; rfl
    have eo : ∀ f, f ≠ 2 → f ≠ 3 → (enV V t n).1 t f = V.1 t f := by
      intro f f2 f3
      unfold enV
      rw [vs_at]
      unfold enF
      rw [if_neg f2, if_neg f3]
    unfold CT
    rw [hc, e2, e3]
    simp only [eo _ (show (0 : Nat) ≠ 2 by decide) (by decide), eo 1 (by decide) (by decide), eo 5 (by decide) (by decide), eo 6 (by decide) (by decide), eo 7 (by decide) (by decide), eo 8 (by decide) (by decide), eo 9 (by decide) (by decide), eo 10 (by decide) (by decide), eo 12 (by decide) (by decide), eo 13 (by decide) (by decide), eo 14 (by decide) (by decide)]
    refine ⟨?_, ?_, ?_, fun _ => ⟨?_, fun _ => ⟨?_, ?_⟩⟩, ?_, ?_, ?_, ?_, ?_, ?_, ?_, ?_, ?_, ?_, ?_, ?_⟩
    · simp [uI1, h0]
    · simp [uI1, h1]
    · simp [uI1, pk_m1]
    · simp [uI1]
    · simp [uI1, hx]
    · exact Nat.zero_le _
    all_goals first
      | simp [uI1, h5', h6', h7, h8, h9, h10, h12, h13, h14]; done
      | exact h11
      | exact h15
      | exact h16
  by_cases c : chV L (enV V t n) t = 3
  · rw [if_pos c]
    refine ⟨_, rfl, ?_⟩
    refine hfin _ ?_
    unfold due
    rw [if_pos c, show (2 : Int32) = nI 2 from rfl, pk_mul]
  · rw [if_neg c]
    refine ⟨_, rfl, ?_⟩
    refine hfin _ ?_
    unfold due
    rw [if_neg c, show (1 : Int32) = nI 1 from rfl, pk_mul]
