/-! THE START, AND ALL CALLS -/
theorem no0 {t : Nat} {p : Prop} (h : t < 0) : p := absurd h (Nat.not_lt_zero _)
theorem cbs_new (b : Nat) : CBs b M0w (gB B0w) [] := by
  refine CBs.mk' ⟨fun j hj => ?_, rfl, fun t ht => no0 ht, fun t ht => no0 ht, fun w hw => no0 hw, fun t ht => no0 ht, fun i hi => no0 hi⟩
  show (0 : Int32) = nI (B0w 0 0 j)
  rfl
theorem crn_new (b : Nat) : CRn b M0w (gB B0w) [] 0 := by
  have em : nI 0 + (-1) = -1 := by decide
  refine ⟨(cbs_new (b + 5)).d, fun t ht => no0 ht, ⟨0, ?_⟩, ⟨?_, fun i r hr => ?_⟩, fun t ht => no0 ht, ?_, ?_⟩
  · refine ⟨rfl, rfl, ?_, rfl, fun w hw => no0 hw, rfl, fun i r hr => ?_⟩
    · show (-1 : Int32) = nI 0 + (-1)
      exact em.symm
    · have hr' : ([] : List (Nat × Nat × Nat × Nat))[i]? = some r := hr
      rw [List.getElem?_nil] at hr'
      exact absurd hr' (by intro q; cases q)
  · rfl
  · have hr' : ([] : List (Nat × Nat))[i]? = some r := hr
    rw [List.getElem?_nil] at hr'
    exact absurd hr' (by intro q; cases q)
  · show (-1 : Int32) = nI 0 + (-1)
    exact em.symm
  · rfl
theorem inv_new : Inv M0w := by
  refine ⟨gB B0w, [], ⟨⟨0, Nat.zero_le _, rfl, rfl, fun j hj => no0 hj⟩, rfl, rfl, fun k hk => Or.inl ⟨rfl, rfl⟩, rfl, rfl⟩, ⟨GBp.zero.gx (fun t ht => no0 ht) (Nat.zero_le _), cbs_new 1, ⟨⟨rfl, rfl, rfl, rfl, rfl, rfl, rfl, rfl⟩, fun t ht => no0 ht, fun t ht => no0 ht, fun w hw => no0 hw, fun i hi => no0 hi⟩⟩, crn_new 0, ⟨0, Nat.zero_le _, crn_new 1⟩, fun i => ?_, fun t ht => no0 ht⟩
  show bz 0 = true
  decide
theorem all_ok : AllOK Inv := ⟨ok_feed, ok_end, ok_board, ok_fault, ok_task, ok_node, ok_watcher, ok_injection, ok_cost, ok_ways, ok_response, ok_least, ok_room, ok_orders, ok_order, ok_path, ok_answer, ok_alike, ok_lawful, ok_load, ok_had, ok_idle, ok_kicks, ok_kicked, ok_gap, ok_jobs, ok_at, ok_question, ok_start, ok_memory, ok_health, ok_tenths, ok_margin, ok_mean, ok_faults, ok_record, ok_ledger, ok_kinds, ok_levels, ok_halts, ok_sleeps, ok_caught, ok_without, ok_blame, ok_with, ok_tight, ok_loose, ok_longest, ok_silent, ok_inject, ok_undo, ok_anew, ok_count, ok_image, ok_back⟩
