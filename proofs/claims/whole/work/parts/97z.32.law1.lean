def PK_feed (Inv : Mw → Prop) : Prop := ∀ M : Mw, Inv M → ∀ a1 a2 a3 a4 a5 : Int32, ∃ (r1 : Int32 × Mw) (r2 : Int32 × Mw), F_X9_feed a1 a2 a3 a4 a5 M = some r1 ∧ F_X10_feed a1 a2 a3 a4 a5 r1.2 = some r2 ∧ r1.1 = r2.1 ∧ Inv r2.2
def PK_end (Inv : Mw → Prop) : Prop := ∀ M : Mw, Inv M → ∀ a1 : Int32, ∃ (r1 : Int32 × Mw) (r2 : Int32 × Mw), F_X9_end a1 M = some r1 ∧ F_X10_end a1 r1.2 = some r2 ∧ r1.1 = r2.1 ∧ Inv r2.2
def PK_board (Inv : Mw → Prop) : Prop := ∀ M : Mw, Inv M → ∃ (r1 : Int32 × Mw) (r2 : Int32 × Mw), F_X9_board M = some r1 ∧ F_X10_board r1.2 = some r2 ∧ r1.1 = r2.1 ∧ Inv r2.2
def PK_fault (Inv : Mw → Prop) : Prop := ∀ M : Mw, Inv M → ∀ a1 : Int32, ∃ (r1 : Int32) (r2 : Int32), F_X9_fault a1 M = some r1 ∧ F_X10_fault a1 M = some r2 ∧ r1 = r2 ∧ Inv M
def PK_task (Inv : Mw → Prop) : Prop := ∀ M : Mw, Inv M → ∀ a1 a2 : Int32, ∃ (r1 : Int32) (r2 : Int32), F_X9_task a1 a2 M = some r1 ∧ F_X10_task a1 a2 M = some r2 ∧ r1 = r2 ∧ Inv M
def PK_node (Inv : Mw → Prop) : Prop := ∀ M : Mw, Inv M → ∀ a1 a2 a3 : Int32, ∃ (r1 : Int32) (r2 : Int32), F_X9_node a1 a2 a3 M = some r1 ∧ F_X10_node a1 a2 a3 M = some r2 ∧ r1 = r2 ∧ Inv M
def PK_watcher (Inv : Mw → Prop) : Prop := ∀ M : Mw, Inv M → ∀ a1 : Int32, ∃ (r1 : Int32) (r2 : Int32), F_X9_watcher a1 M = some r1 ∧ F_X10_watcher a1 M = some r2 ∧ r1 = r2 ∧ Inv M
def PK_injection (Inv : Mw → Prop) : Prop := ∀ M : Mw, Inv M → ∀ a1 a2 : Int32, ∃ (r1 : Int32) (r2 : Int32), F_X9_injection a1 a2 M = some r1 ∧ F_X10_injection a1 a2 M = some r2 ∧ r1 = r2 ∧ Inv M
def PK_cost (Inv : Mw → Prop) : Prop := ∀ M : Mw, Inv M → ∀ a1 a2 : Int32, ∃ (r1 : Int32) (r2 : Int32 × Mw), F_X9_cost a1 a2 M = some r1 ∧ F_X10_cost a1 a2 M = some r2 ∧ r1 = r2.1 ∧ Inv r2.2
def PK_ways (Inv : Mw → Prop) : Prop := ∀ M : Mw, Inv M → ∀ a1 : Int32, ∃ (r1 : Int32 × Mw) (r2 : Int32 × Mw), F_X9_ways a1 M = some r1 ∧ F_X10_ways a1 r1.2 = some r2 ∧ r1.1 = r2.1 ∧ Inv r2.2
def PK_response (Inv : Mw → Prop) : Prop := ∀ M : Mw, Inv M → ∀ a1 : Int32, ∃ (r1 : Int32 × Mw) (r2 : Int32 × Mw), F_X9_response a1 M = some r1 ∧ F_X10_response a1 r1.2 = some r2 ∧ r1.1 = r2.1 ∧ Inv r2.2
def PK_least (Inv : Mw → Prop) : Prop := ∀ M : Mw, Inv M → ∀ a1 a2 : Int32, ∃ (r1 : Int32 × Mw) (r2 : Int32 × Mw), F_X9_least a1 a2 M = some r1 ∧ F_X10_least a1 a2 r1.2 = some r2 ∧ r1.1 = r2.1 ∧ Inv r2.2
def PK_room (Inv : Mw → Prop) : Prop := ∀ M : Mw, Inv M → ∀ a1 : Int32, ∃ (r1 : Int32 × Mw) (r2 : Int32 × Mw), F_X9_room a1 M = some r1 ∧ F_X10_room a1 r1.2 = some r2 ∧ r1.1 = r2.1 ∧ Inv r2.2
def PK_orders (Inv : Mw → Prop) : Prop := ∀ M : Mw, Inv M → ∃ (r1 : Int32 × Mw) (r2 : Int32 × Mw), F_X9_orders M = some r1 ∧ F_X10_orders r1.2 = some r2 ∧ r1.1 = r2.1 ∧ Inv r2.2
def PK_order (Inv : Mw → Prop) : Prop := ∀ M : Mw, Inv M → ∀ a1 : Int32, ∃ (r1 : Int32 × Mw) (r2 : Int32 × Mw), F_X9_order a1 M = some r1 ∧ F_X10_order a1 r1.2 = some r2 ∧ r1.1 = r2.1 ∧ Inv r2.2
def PK_path (Inv : Mw → Prop) : Prop := ∀ M : Mw, Inv M → ∀ a1 a2 a3 : Int32, ∃ (r1 : Int32) (r2 : Int32), F_X9_path a1 a2 a3 M = some r1 ∧ F_X10_path a1 a2 a3 M = some r2 ∧ r1 = r2 ∧ Inv M
def PK_answer (Inv : Mw → Prop) : Prop := ∀ M : Mw, Inv M → ∀ a1 a2 a3 : Int32, ∃ (r1 : Int32) (r2 : Int32), F_X9_answer a1 a2 a3 M = some r1 ∧ F_X10_answer a1 a2 a3 M = some r2 ∧ r1 = r2 ∧ Inv M
def PK_alike (Inv : Mw → Prop) : Prop := ∀ M : Mw, Inv M → ∀ a1 a2 : Int32, ∃ (r1 : Int32 × Mw) (r2 : Int32 × Mw), F_X9_alike a1 a2 M = some r1 ∧ F_X10_alike a1 a2 r1.2 = some r2 ∧ r1.1 = r2.1 ∧ Inv r2.2
def PK_lawful (Inv : Mw → Prop) : Prop := ∀ M : Mw, Inv M → ∃ (r1 : Int32 × Mw) (r2 : Int32 × Mw), F_X9_lawful M = some r1 ∧ F_X10_lawful r1.2 = some r2 ∧ r1.1 = r2.1 ∧ Inv r2.2
def PK_load (Inv : Mw → Prop) : Prop := ∀ M : Mw, Inv M → ∃ (r1 : Int32) (r2 : Int32 × Mw), F_X9_load M = some r1 ∧ F_X10_load M = some r2 ∧ r1 = r2.1 ∧ Inv r2.2
def PK_had (Inv : Mw → Prop) : Prop := ∀ M : Mw, Inv M → ∀ a1 : Int32, ∃ (r1 : Int32 × Mw) (r2 : Int32 × Mw), F_X9_had a1 M = some r1 ∧ F_X10_had a1 r1.2 = some r2 ∧ r1.1 = r2.1 ∧ Inv r2.2
def PK_idle (Inv : Mw → Prop) : Prop := ∀ M : Mw, Inv M → ∀ a1 : Int32, ∃ (r1 : Int32 × Mw) (r2 : Int32 × Mw), F_X9_idle a1 M = some r1 ∧ F_X10_idle a1 r1.2 = some r2 ∧ r1.1 = r2.1 ∧ Inv r2.2
def PK_kicks (Inv : Mw → Prop) : Prop := ∀ M : Mw, Inv M → ∀ a1 a2 : Int32, ∃ (r1 : Int32 × Mw) (r2 : Int32 × Mw), F_X9_kicks a1 a2 M = some r1 ∧ F_X10_kicks a1 a2 r1.2 = some r2 ∧ r1.1 = r2.1 ∧ Inv r2.2
def PK_kicked (Inv : Mw → Prop) : Prop := ∀ M : Mw, Inv M → ∀ a1 a2 : Int32, ∃ (r1 : Int32 × Mw) (r2 : Int32 × Mw), F_X9_kicked a1 a2 M = some r1 ∧ F_X10_kicked a1 a2 r1.2 = some r2 ∧ r1.1 = r2.1 ∧ Inv r2.2
def PK_gap (Inv : Mw → Prop) : Prop := ∀ M : Mw, Inv M → ∀ a1 a2 : Int32, ∃ (r1 : Int32) (r2 : Int32 × Mw), F_X9_gap a1 a2 M = some r1 ∧ F_X10_gap a1 a2 M = some r2 ∧ r1 = r2.1 ∧ Inv r2.2
def PK_jobs (Inv : Mw → Prop) : Prop := ∀ M : Mw, Inv M → ∀ a1 a2 : Int32, ∃ (r1 : Int32 × Mw) (r2 : Int32 × Mw), F_X9_jobs a1 a2 M = some r1 ∧ F_X10_jobs a1 a2 r1.2 = some r2 ∧ r1.1 = r2.1 ∧ Inv r2.2
def PK_at (Inv : Mw → Prop) : Prop := ∀ M : Mw, Inv M → ∀ a1 a2 : Int32, ∃ (r1 : Int32 × Mw) (r2 : Int32 × Mw), F_X9_at a1 a2 M = some r1 ∧ F_X10_at a1 a2 r1.2 = some r2 ∧ r1.1 = r2.1 ∧ Inv r2.2
def PK_question (Inv : Mw → Prop) : Prop := ∀ M : Mw, Inv M → ∀ a1 a2 : Int32, ∃ (r1 : Int32 × Mw) (r2 : Int32 × Mw), F_X9_question a1 a2 M = some r1 ∧ F_X10_question a1 a2 r1.2 = some r2 ∧ r1.1 = r2.1 ∧ Inv r2.2
def PK_start (Inv : Mw → Prop) : Prop := ∀ M : Mw, Inv M → ∀ a1 a2 : Int32, ∃ (r1 : Int32 × Mw) (r2 : Int32 × Mw), F_X9_start a1 a2 M = some r1 ∧ F_X10_start a1 a2 r1.2 = some r2 ∧ r1.1 = r2.1 ∧ Inv r2.2
def PK_memory (Inv : Mw → Prop) : Prop := ∀ M : Mw, Inv M → ∀ a1 a2 : Int32, ∃ (r1 : Int32 × Mw) (r2 : Int32 × Mw), F_X9_memory a1 a2 M = some r1 ∧ F_X10_memory a1 a2 r1.2 = some r2 ∧ r1.1 = r2.1 ∧ Inv r2.2
def PK_health (Inv : Mw → Prop) : Prop := ∀ M : Mw, Inv M → ∀ a1 a2 : Int32, ∃ (r1 : Int32 × Mw) (r2 : Int32 × Mw), F_X9_health a1 a2 M = some r1 ∧ F_X10_health a1 a2 r1.2 = some r2 ∧ r1.1 = r2.1 ∧ Inv r2.2
def PK_tenths (Inv : Mw → Prop) : Prop := ∀ M : Mw, Inv M → ∀ a1 a2 : Int32, ∃ (r1 : Int32 × Mw) (r2 : Int32 × Mw), F_X9_tenths a1 a2 M = some r1 ∧ F_X10_tenths a1 a2 r1.2 = some r2 ∧ r1.1 = r2.1 ∧ Inv r2.2
def PK_margin (Inv : Mw → Prop) : Prop := ∀ M : Mw, Inv M → ∀ a1 a2 : Int32, ∃ (r1 : Int32 × Mw) (r2 : Int32 × Mw), F_X9_margin a1 a2 M = some r1 ∧ F_X10_margin a1 a2 r1.2 = some r2 ∧ r1.1 = r2.1 ∧ Inv r2.2
def PK_mean (Inv : Mw → Prop) : Prop := ∀ M : Mw, Inv M → ∀ a1 a2 : Int32, ∃ (r1 : Int64 × Mw) (r2 : Int64 × Mw), F_X9_mean a1 a2 M = some r1 ∧ F_X10_mean a1 a2 r1.2 = some r2 ∧ r1.1 = r2.1 ∧ Inv r2.2
def PK_faults (Inv : Mw → Prop) : Prop := ∀ M : Mw, Inv M → ∀ a1 : Int32, ∃ (r1 : Int32) (r2 : Int32 × Mw), F_X9_faults a1 M = some r1 ∧ F_X10_faults a1 M = some r2 ∧ r1 = r2.1 ∧ Inv r2.2
def PK_record (Inv : Mw → Prop) : Prop := ∀ M : Mw, Inv M → ∀ a1 a2 : Int32, ∃ (r1 : Int32) (r2 : Int32 × Mw), F_X9_record a1 a2 M = some r1 ∧ F_X10_record a1 a2 M = some r2 ∧ r1 = r2.1 ∧ Inv r2.2
def PK_ledger (Inv : Mw → Prop) : Prop := ∀ M : Mw, Inv M → ∀ a1 : Int32, ∃ (r1 : Int32) (r2 : Int32 × Mw), F_X9_ledger a1 M = some r1 ∧ F_X10_ledger a1 M = some r2 ∧ r1 = r2.1 ∧ Inv r2.2
def PK_kinds (Inv : Mw → Prop) : Prop := ∀ M : Mw, Inv M → ∀ a1 : Int32, ∃ (r1 : Int32) (r2 : Int32 × Mw), F_X9_kinds a1 M = some r1 ∧ F_X10_kinds a1 M = some r2 ∧ r1 = r2.1 ∧ Inv r2.2
def PK_levels (Inv : Mw → Prop) : Prop := ∀ M : Mw, Inv M → ∀ a1 a2 : Int32, ∃ (r1 : Int32) (r2 : Int32 × Mw), F_X9_levels a1 a2 M = some r1 ∧ F_X10_levels a1 a2 M = some r2 ∧ r1 = r2.1 ∧ Inv r2.2
def PK_halts (Inv : Mw → Prop) : Prop := ∀ M : Mw, Inv M → ∃ (r1 : Int32) (r2 : Int32 × Mw), F_X9_halts M = some r1 ∧ F_X10_halts M = some r2 ∧ r1 = r2.1 ∧ Inv r2.2
def PK_sleeps (Inv : Mw → Prop) : Prop := ∀ M : Mw, Inv M → ∀ a1 a2 : Int32, ∃ (r1 : Int32 × Mw) (r2 : Int32 × Mw), F_X9_sleeps a1 a2 M = some r1 ∧ F_X10_sleeps a1 a2 r1.2 = some r2 ∧ r1.1 = r2.1 ∧ Inv r2.2
def PK_caught (Inv : Mw → Prop) : Prop := ∀ M : Mw, Inv M → ∀ a1 : Int32, ∃ (r1 : Int32) (r2 : Int32 × Mw), F_X9_caught a1 M = some r1 ∧ F_X10_caught a1 M = some r2 ∧ r1 = r2.1 ∧ Inv r2.2
def PK_without (Inv : Mw → Prop) : Prop := ∀ M : Mw, Inv M → ∀ a1 : Int32, ∃ (r1 : Int32 × Mw) (r2 : Int32 × Mw), F_X9_without a1 M = some r1 ∧ F_X10_without a1 r1.2 = some r2 ∧ r1.1 = r2.1 ∧ Inv r2.2
def PK_blame (Inv : Mw → Prop) : Prop := ∀ M : Mw, Inv M → ∃ (r1 : Int32 × Mw) (r2 : Int32 × Mw), F_X9_blame M = some r1 ∧ F_X10_blame r1.2 = some r2 ∧ r1.1 = r2.1 ∧ Inv r2.2
def PK_with (Inv : Mw → Prop) : Prop := ∀ M : Mw, Inv M → ∀ a1 a2 a3 : Int32, ∃ (r1 : Int32 × Mw) (r2 : Int32 × Mw), F_X9_with a1 a2 a3 M = some r1 ∧ F_X10_with a1 a2 a3 r1.2 = some r2 ∧ r1.1 = r2.1 ∧ Inv r2.2
def PK_tight (Inv : Mw → Prop) : Prop := ∀ M : Mw, Inv M → ∀ a1 : Int32, ∃ (r1 : Int32 × Mw) (r2 : Int32 × Mw), F_X9_tight a1 M = some r1 ∧ F_X10_tight a1 r1.2 = some r2 ∧ r1.1 = r2.1 ∧ Inv r2.2
def PK_loose (Inv : Mw → Prop) : Prop := ∀ M : Mw, Inv M → ∀ a1 : Int32, ∃ (r1 : Int32 × Mw) (r2 : Int32 × Mw), F_X9_loose a1 M = some r1 ∧ F_X10_loose a1 r1.2 = some r2 ∧ r1.1 = r2.1 ∧ Inv r2.2
def PK_longest (Inv : Mw → Prop) : Prop := ∀ M : Mw, Inv M → ∀ a1 a2 : Int32, ∃ (r1 : Int32 × Mw) (r2 : Int32 × Mw), F_X9_longest a1 a2 M = some r1 ∧ F_X10_longest a1 a2 r1.2 = some r2 ∧ r1.1 = r2.1 ∧ Inv r2.2
def PK_silent (Inv : Mw → Prop) : Prop := ∀ M : Mw, Inv M → ∀ a1 a2 : Int32, ∃ (r1 : Int32 × Mw) (r2 : Int32 × Mw), F_X9_silent a1 a2 M = some r1 ∧ F_X10_silent a1 a2 r1.2 = some r2 ∧ r1.1 = r2.1 ∧ Inv r2.2
def PK_inject (Inv : Mw → Prop) : Prop := ∀ M : Mw, Inv M → ∀ a1 a2 a3 a4 a5 : Int32, ∃ (r1 : Int32 × Mw) (r2 : Int32 × Mw), F_X9_inject a1 a2 a3 a4 a5 M = some r1 ∧ F_X10_inject a1 a2 a3 a4 a5 r1.2 = some r2 ∧ r1.1 = r2.1 ∧ Inv r2.2
def PK_undo (Inv : Mw → Prop) : Prop := ∀ M : Mw, Inv M → ∃ (r1 : Int32 × Mw) (r2 : Int32 × Mw), F_X9_undo M = some r1 ∧ F_X10_undo r1.2 = some r2 ∧ r1.1 = r2.1 ∧ Inv r2.2
def PK_anew (Inv : Mw → Prop) : Prop := ∀ M : Mw, Inv M → ∃ (r1 : Int32 × Mw) (r2 : Int32 × Mw), F_X9_anew M = some r1 ∧ F_X10_anew r1.2 = some r2 ∧ r1.1 = r2.1 ∧ Inv r2.2
def PK_count (Inv : Mw → Prop) : Prop := ∀ M : Mw, Inv M → ∀ a1 : Int32, ∃ (r1 : Int32) (r2 : Int32), F_X9_count a1 M = some r1 ∧ F_X10_count a1 M = some r2 ∧ r1 = r2 ∧ Inv M
def PK_image (Inv : Mw → Prop) : Prop := ∀ M : Mw, Inv M → ∀ a1 : Int32, ∃ (r1 : Int32 × Mw) (r2 : Int32 × Mw), F_X9_image a1 M = some r1 ∧ F_X10_image a1 r1.2 = some r2 ∧ r1.1 = r2.1 ∧ Inv r2.2
def PK_back (Inv : Mw → Prop) : Prop := ∀ M : Mw, Inv M → ∀ a1 : Int32, ∃ (r1 : Int32 × Mw) (r2 : Int32 × Mw), F_X9_back a1 M = some r1 ∧ F_X10_back a1 r1.2 = some r2 ∧ r1.1 = r2.1 ∧ Inv r2.2
def AllOK (Inv : Mw → Prop) : Prop := PK_feed Inv ∧ PK_end Inv ∧ PK_board Inv ∧ PK_fault Inv ∧ PK_task Inv ∧ PK_node Inv ∧ PK_watcher Inv ∧ PK_injection Inv ∧ PK_cost Inv ∧ PK_ways Inv ∧ PK_response Inv ∧ PK_least Inv ∧ PK_room Inv ∧ PK_orders Inv ∧ PK_order Inv ∧ PK_path Inv ∧ PK_answer Inv ∧ PK_alike Inv ∧ PK_lawful Inv ∧ PK_load Inv ∧ PK_had Inv ∧ PK_idle Inv ∧ PK_kicks Inv ∧ PK_kicked Inv ∧ PK_gap Inv ∧ PK_jobs Inv ∧ PK_at Inv ∧ PK_question Inv ∧ PK_start Inv ∧ PK_memory Inv ∧ PK_health Inv ∧ PK_tenths Inv ∧ PK_margin Inv ∧ PK_mean Inv ∧ PK_faults Inv ∧ PK_record Inv ∧ PK_ledger Inv ∧ PK_kinds Inv ∧ PK_levels Inv ∧ PK_halts Inv ∧ PK_sleeps Inv ∧ PK_caught Inv ∧ PK_without Inv ∧ PK_blame Inv ∧ PK_with Inv ∧ PK_tight Inv ∧ PK_loose Inv ∧ PK_longest Inv ∧ PK_silent Inv ∧ PK_inject Inv ∧ PK_undo Inv ∧ PK_anew Inv ∧ PK_count Inv ∧ PK_image Inv ∧ PK_back Inv
set_option maxHeartbeats 1000000 in
theorem lc_0 {y : Yw} {g : Gw} {b L : Nat} {xs : Nat → Int32} {M : Mw} {cells slots : Nat} {i : Int32} {Inv : Mw → Prop} (hT : gT g = 0) (C : LCw y b L xs g) (hI : Inv M) (hp : PK_feed Inv) (h1 : vp_in (i + 1) L) (h2 : vp_in (i + 2) L) (h3 : vp_in (i + 3) L) (h4 : vp_in (i + 4) L) (h5 : vp_in (i + 5) L) (hc : cells + 2 ≤ 600000) (hs : slots + 12 ≤ 7302250) (kk : ∀ M : Mw, Inv M → LSx y g b M (cells + 2) (slots + 12) 1834 i []) : LSx y g b M cells slots 268 i [] := by
  obtain ⟨r1, r2, e1, e2, he, hI2⟩ := hp M hI (xs (i + 1).toNatClampNeg) (xs (i + 2).toNatClampNeg) (xs (i + 3).toNatClampNeg) (xs (i + 4).toNatClampNeg) (xs (i + 5).toNatClampNeg)
  refine q_x C dL_law_268 ?_
  refine q_arg (k := 1) C (by decide) dL_law_269 dL_law_270 dL_law_271 dL_law_272 dL_law_273 h1 ?_
  refine q_arg (k := 2) C (by decide) dL_law_274 dL_law_275 dL_law_276 dL_law_277 dL_law_278 h2 ?_
  refine q_arg (k := 3) C (by decide) dL_law_279 dL_law_280 dL_law_281 dL_law_282 dL_law_283 h3 ?_
  refine q_arg (k := 4) C (by decide) dL_law_284 dL_law_285 dL_law_286 dL_law_287 dL_law_288 h4 ?_
  refine q_arg (k := 5) C (by decide) dL_law_289 dL_law_290 dL_law_291 dL_law_292 dL_law_293 h5 ?_
  refine q_call C (rest := []) (As := [.int (xs (i + 1).toNatClampNeg), .int (xs (i + 2).toNatClampNeg), .int (xs (i + 3).toNatClampNeg), .int (xs (i + 4).toNatClampNeg), .int (xs (i + 5).toNatClampNeg)]) (c_X9_feed (xs (i + 1).toNatClampNeg) (xs (i + 2).toNatClampNeg) (xs (i + 3).toNatClampNeg) (xs (i + 4).toNatClampNeg) (xs (i + 5).toNatClampNeg) M) e1 dL_law_294 u_373 in_41 (contW_41 g _ _ _ _ _) rfl u_374 u_375 mi_X9_feed (by decide) (by decide) rfl rfl (by decide) (by omega) (by omega) ?_
  refine q_m C dL_law_297 ?_
  refine q_arg (k := 1) C (by decide) dL_law_298 dL_law_299 dL_law_300 dL_law_301 dL_law_302 h1 ?_
  refine q_arg (k := 2) C (by decide) dL_law_303 dL_law_304 dL_law_305 dL_law_306 dL_law_307 h2 ?_
  refine q_arg (k := 3) C (by decide) dL_law_308 dL_law_309 dL_law_310 dL_law_311 dL_law_312 h3 ?_
  refine q_arg (k := 4) C (by decide) dL_law_313 dL_law_314 dL_law_315 dL_law_316 dL_law_317 h4 ?_
  refine q_arg (k := 5) C (by decide) dL_law_318 dL_law_319 dL_law_320 dL_law_321 dL_law_322 h5 ?_
  refine q_call C (rest := [.int r1.1]) (As := [.int (xs (i + 1).toNatClampNeg), .int (xs (i + 2).toNatClampNeg), .int (xs (i + 3).toNatClampNeg), .int (xs (i + 4).toNatClampNeg), .int (xs (i + 5).toNatClampNeg)]) (c_X10_feed (xs (i + 1).toNatClampNeg) (xs (i + 2).toNatClampNeg) (xs (i + 3).toNatClampNeg) (xs (i + 4).toNatClampNeg) (xs (i + 5).toNatClampNeg) r1.2) e2 dL_law_323 u_1181 in_50 (contW_50 g _ _ _ _ _) rfl u_1182 u_1183 mi_X10_feed (by decide) (by decide) rfl rfl (Nat.le_of_ble_eq_true rfl) (by omega) (by omega) ?_
  show LSx y g b r2.2 _ _ 326 i [.int r2.1, .int r1.1]
  exact q_eq (tgt := 1834) C he dL_law_326 (by decide) (q_widen (by show cells + _ + _ ≤ _; omega) (by show slots + _ + _ ≤ _; omega) (kk _ hI2))
set_option maxHeartbeats 1000000 in
theorem lc_1 {y : Yw} {g : Gw} {b L : Nat} {xs : Nat → Int32} {M : Mw} {cells slots : Nat} {i : Int32} {Inv : Mw → Prop} (hT : gT g = 0) (C : LCw y b L xs g) (hI : Inv M) (hp : PK_end Inv) (h1 : vp_in (i + 1) L) (h2 : vp_in (i + 2) L) (h3 : vp_in (i + 3) L) (h4 : vp_in (i + 4) L) (h5 : vp_in (i + 5) L) (hc : cells + 2 ≤ 600000) (hs : slots + 12 ≤ 7302250) (kk : ∀ M : Mw, Inv M → LSx y g b M (cells + 2) (slots + 12) 1834 i []) : LSx y g b M cells slots 331 i [] := by
  obtain ⟨r1, r2, e1, e2, he, hI2⟩ := hp M hI (xs (i + 1).toNatClampNeg)
  refine q_x C dL_law_331 ?_
  refine q_arg (k := 1) C (by decide) dL_law_332 dL_law_333 dL_law_334 dL_law_335 dL_law_336 h1 ?_
  refine q_call C (rest := []) (As := [.int (xs (i + 1).toNatClampNeg)]) (c_X9_end (xs (i + 1).toNatClampNeg) M) e1 dL_law_337 u_384 in_41 (contW_41 g _ _ _ _ _) rfl u_385 u_386 mi_X9_end (by decide) (by decide) rfl rfl (by decide) (by omega) (by omega) ?_
  refine q_m C dL_law_340 ?_
  refine q_arg (k := 1) C (by decide) dL_law_341 dL_law_342 dL_law_343 dL_law_344 dL_law_345 h1 ?_
  refine q_call C (rest := [.int r1.1]) (As := [.int (xs (i + 1).toNatClampNeg)]) (c_X10_end (xs (i + 1).toNatClampNeg) r1.2) e2 dL_law_346 u_1185 in_50 (contW_50 g _ _ _ _ _) rfl u_1186 u_1187 mi_X10_end (by decide) (by decide) rfl rfl (Nat.le_of_ble_eq_true rfl) (by omega) (by omega) ?_
  show LSx y g b r2.2 _ _ 349 i [.int r2.1, .int r1.1]
  exact q_eq (tgt := 1834) C he dL_law_349 (by decide) (q_widen (by show cells + _ + _ ≤ _; omega) (by show slots + _ + _ ≤ _; omega) (kk _ hI2))
set_option maxHeartbeats 1000000 in
theorem lc_2 {y : Yw} {g : Gw} {b L : Nat} {xs : Nat → Int32} {M : Mw} {cells slots : Nat} {i : Int32} {Inv : Mw → Prop} (hT : gT g = 0) (C : LCw y b L xs g) (hI : Inv M) (hp : PK_board Inv) (h1 : vp_in (i + 1) L) (h2 : vp_in (i + 2) L) (h3 : vp_in (i + 3) L) (h4 : vp_in (i + 4) L) (h5 : vp_in (i + 5) L) (hc : cells + 2 ≤ 600000) (hs : slots + 12 ≤ 7302250) (kk : ∀ M : Mw, Inv M → LSx y g b M (cells + 2) (slots + 12) 1834 i []) : LSx y g b M cells slots 354 i [] := by
  obtain ⟨r1, r2, e1, e2, he, hI2⟩ := hp M hI
  refine q_x C dL_law_354 ?_
  refine q_call C (rest := []) (As := []) (c_X9_board hT  M) e1 dL_law_355 u_392 in_41 (contW_41 g _ _ _ _ _) rfl u_393 u_394 mi_X9_board (by decide) (by decide) rfl rfl (by decide) (by omega) (by omega) ?_
  refine q_m C dL_law_358 ?_
  refine q_call C (rest := [.int r1.1]) (As := []) (c_X10_board  r1.2) e2 dL_law_359 u_1193 in_50 (contW_50 g _ _ _ _ _) rfl u_1194 u_1195 mi_X10_board (by decide) (by decide) rfl rfl (Nat.le_of_ble_eq_true rfl) (by omega) (by omega) ?_
  show LSx y g b r2.2 _ _ 362 i [.int r2.1, .int r1.1]
  exact q_eq (tgt := 1834) C he dL_law_362 (by decide) (q_widen (by show cells + _ + _ ≤ _; omega) (by show slots + _ + _ ≤ _; omega) (kk _ hI2))
set_option maxHeartbeats 1000000 in
theorem lc_3 {y : Yw} {g : Gw} {b L : Nat} {xs : Nat → Int32} {M : Mw} {cells slots : Nat} {i : Int32} {Inv : Mw → Prop} (hT : gT g = 0) (C : LCw y b L xs g) (hI : Inv M) (hp : PK_fault Inv) (h1 : vp_in (i + 1) L) (h2 : vp_in (i + 2) L) (h3 : vp_in (i + 3) L) (h4 : vp_in (i + 4) L) (h5 : vp_in (i + 5) L) (hc : cells + 2 ≤ 600000) (hs : slots + 12 ≤ 7302250) (kk : ∀ M : Mw, Inv M → LSx y g b M (cells + 2) (slots + 12) 1834 i []) : LSx y g b M cells slots 367 i [] := by
  obtain ⟨r1, r2, e1, e2, he, hI2⟩ := hp M hI (xs (i + 1).toNatClampNeg)
  refine q_x C dL_law_367 ?_
  refine q_arg (k := 1) C (by decide) dL_law_368 dL_law_369 dL_law_370 dL_law_371 dL_law_372 h1 ?_
  refine q_call C (rest := []) (As := [.int (xs (i + 1).toNatClampNeg)]) (c_X9_fault (xs (i + 1).toNatClampNeg) M) e1 dL_law_373 u_691 in_41 (contW_41 g _ _ _ _ _) rfl u_692 u_693 mi_X9_fault (by decide) (by decide) rfl rfl (by decide) (by omega) (by omega) ?_
  refine q_m C dL_law_376 ?_
  refine q_arg (k := 1) C (by decide) dL_law_377 dL_law_378 dL_law_379 dL_law_380 dL_law_381 h1 ?_
  refine q_call C (rest := [.int r1]) (As := [.int (xs (i + 1).toNatClampNeg)]) (c_X10_fault (xs (i + 1).toNatClampNeg) M) e2 dL_law_382 u_1189 in_50 (contW_50 g _ _ _ _ _) rfl u_1190 u_1191 mi_X10_fault (by decide) (by decide) rfl rfl (Nat.le_of_ble_eq_true rfl) (by omega) (by omega) ?_
  show LSx y g b M _ _ 385 i [.int r2, .int r1]
  exact q_eq (tgt := 1834) C he dL_law_385 (by decide) (q_widen (by show cells + _ + _ ≤ _; omega) (by show slots + _ + _ ≤ _; omega) (kk _ hI2))
set_option maxHeartbeats 1000000 in
theorem lc_4 {y : Yw} {g : Gw} {b L : Nat} {xs : Nat → Int32} {M : Mw} {cells slots : Nat} {i : Int32} {Inv : Mw → Prop} (hT : gT g = 0) (C : LCw y b L xs g) (hI : Inv M) (hp : PK_task Inv) (h1 : vp_in (i + 1) L) (h2 : vp_in (i + 2) L) (h3 : vp_in (i + 3) L) (h4 : vp_in (i + 4) L) (h5 : vp_in (i + 5) L) (hc : cells + 2 ≤ 600000) (hs : slots + 12 ≤ 7302250) (kk : ∀ M : Mw, Inv M → LSx y g b M (cells + 2) (slots + 12) 1834 i []) : LSx y g b M cells slots 390 i [] := by
  obtain ⟨r1, r2, e1, e2, he, hI2⟩ := hp M hI (xs (i + 1).toNatClampNeg) (xs (i + 2).toNatClampNeg)
  refine q_x C dL_law_390 ?_
  refine q_arg (k := 1) C (by decide) dL_law_391 dL_law_392 dL_law_393 dL_law_394 dL_law_395 h1 ?_
  refine q_arg (k := 2) C (by decide) dL_law_396 dL_law_397 dL_law_398 dL_law_399 dL_law_400 h2 ?_
  refine q_call C (rest := []) (As := [.int (xs (i + 1).toNatClampNeg), .int (xs (i + 2).toNatClampNeg)]) (c_X9_task (xs (i + 1).toNatClampNeg) (xs (i + 2).toNatClampNeg) M) e1 dL_law_401 u_695 in_41 (contW_41 g _ _ _ _ _) rfl u_696 u_697 mi_X9_task (by decide) (by decide) rfl rfl (by decide) (by omega) (by omega) ?_
  refine q_m C dL_law_404 ?_
  refine q_arg (k := 1) C (by decide) dL_law_405 dL_law_406 dL_law_407 dL_law_408 dL_law_409 h1 ?_
  refine q_arg (k := 2) C (by decide) dL_law_410 dL_law_411 dL_law_412 dL_law_413 dL_law_414 h2 ?_
  refine q_call C (rest := [.int r1]) (As := [.int (xs (i + 1).toNatClampNeg), .int (xs (i + 2).toNatClampNeg)]) (c_X10_task (xs (i + 1).toNatClampNeg) (xs (i + 2).toNatClampNeg) M) e2 dL_law_415 u_1262 in_50 (contW_50 g _ _ _ _ _) rfl u_1263 u_1264 mi_X10_task (by decide) (by decide) rfl rfl (Nat.le_of_ble_eq_true rfl) (by omega) (by omega) ?_
  show LSx y g b M _ _ 418 i [.int r2, .int r1]
  exact q_eq (tgt := 1834) C he dL_law_418 (by decide) (q_widen (by show cells + _ + _ ≤ _; omega) (by show slots + _ + _ ≤ _; omega) (kk _ hI2))
set_option maxHeartbeats 1000000 in
theorem lc_5 {y : Yw} {g : Gw} {b L : Nat} {xs : Nat → Int32} {M : Mw} {cells slots : Nat} {i : Int32} {Inv : Mw → Prop} (hT : gT g = 0) (C : LCw y b L xs g) (hI : Inv M) (hp : PK_node Inv) (h1 : vp_in (i + 1) L) (h2 : vp_in (i + 2) L) (h3 : vp_in (i + 3) L) (h4 : vp_in (i + 4) L) (h5 : vp_in (i + 5) L) (hc : cells + 2 ≤ 600000) (hs : slots + 12 ≤ 7302250) (kk : ∀ M : Mw, Inv M → LSx y g b M (cells + 2) (slots + 12) 1834 i []) : LSx y g b M cells slots 423 i [] := by
  obtain ⟨r1, r2, e1, e2, he, hI2⟩ := hp M hI (xs (i + 1).toNatClampNeg) (xs (i + 2).toNatClampNeg) (xs (i + 3).toNatClampNeg)
  refine q_x C dL_law_423 ?_
  refine q_arg (k := 1) C (by decide) dL_law_424 dL_law_425 dL_law_426 dL_law_427 dL_law_428 h1 ?_
  refine q_arg (k := 2) C (by decide) dL_law_429 dL_law_430 dL_law_431 dL_law_432 dL_law_433 h2 ?_
  refine q_arg (k := 3) C (by decide) dL_law_434 dL_law_435 dL_law_436 dL_law_437 dL_law_438 h3 ?_
  refine q_call C (rest := []) (As := [.int (xs (i + 1).toNatClampNeg), .int (xs (i + 2).toNatClampNeg), .int (xs (i + 3).toNatClampNeg)]) (c_X9_node (xs (i + 1).toNatClampNeg) (xs (i + 2).toNatClampNeg) (xs (i + 3).toNatClampNeg) M) e1 dL_law_439 u_700 in_41 (contW_41 g _ _ _ _ _) rfl u_701 u_702 mi_X9_node (by decide) (by decide) rfl rfl (by decide) (by omega) (by omega) ?_
  refine q_m C dL_law_442 ?_
  refine q_arg (k := 1) C (by decide) dL_law_443 dL_law_444 dL_law_445 dL_law_446 dL_law_447 h1 ?_
  refine q_arg (k := 2) C (by decide) dL_law_448 dL_law_449 dL_law_450 dL_law_451 dL_law_452 h2 ?_
  refine q_arg (k := 3) C (by decide) dL_law_453 dL_law_454 dL_law_455 dL_law_456 dL_law_457 h3 ?_
  refine q_call C (rest := [.int r1]) (As := [.int (xs (i + 1).toNatClampNeg), .int (xs (i + 2).toNatClampNeg), .int (xs (i + 3).toNatClampNeg)]) (c_X10_node (xs (i + 1).toNatClampNeg) (xs (i + 2).toNatClampNeg) (xs (i + 3).toNatClampNeg) M) e2 dL_law_458 u_1273 in_50 (contW_50 g _ _ _ _ _) rfl u_1274 u_1275 mi_X10_node (by decide) (by decide) rfl rfl (Nat.le_of_ble_eq_true rfl) (by omega) (by omega) ?_
  show LSx y g b M _ _ 461 i [.int r2, .int r1]
  exact q_eq (tgt := 1834) C he dL_law_461 (by decide) (q_widen (by show cells + _ + _ ≤ _; omega) (by show slots + _ + _ ≤ _; omega) (kk _ hI2))
set_option maxHeartbeats 1000000 in
theorem lc_6 {y : Yw} {g : Gw} {b L : Nat} {xs : Nat → Int32} {M : Mw} {cells slots : Nat} {i : Int32} {Inv : Mw → Prop} (hT : gT g = 0) (C : LCw y b L xs g) (hI : Inv M) (hp : PK_watcher Inv) (h1 : vp_in (i + 1) L) (h2 : vp_in (i + 2) L) (h3 : vp_in (i + 3) L) (h4 : vp_in (i + 4) L) (h5 : vp_in (i + 5) L) (hc : cells + 2 ≤ 600000) (hs : slots + 12 ≤ 7302250) (kk : ∀ M : Mw, Inv M → LSx y g b M (cells + 2) (slots + 12) 1834 i []) : LSx y g b M cells slots 466 i [] := by
  obtain ⟨r1, r2, e1, e2, he, hI2⟩ := hp M hI (xs (i + 1).toNatClampNeg)
  refine q_x C dL_law_466 ?_
  refine q_arg (k := 1) C (by decide) dL_law_467 dL_law_468 dL_law_469 dL_law_470 dL_law_471 h1 ?_
  refine q_call C (rest := []) (As := [.int (xs (i + 1).toNatClampNeg)]) (c_X9_watcher (xs (i + 1).toNatClampNeg) M) e1 dL_law_472 u_705 in_41 (contW_41 g _ _ _ _ _) rfl u_706 u_707 mi_X9_watcher (by decide) (by decide) rfl rfl (by decide) (by omega) (by omega) ?_
  refine q_m C dL_law_475 ?_
  refine q_arg (k := 1) C (by decide) dL_law_476 dL_law_477 dL_law_478 dL_law_479 dL_law_480 h1 ?_
  refine q_call C (rest := [.int r1]) (As := [.int (xs (i + 1).toNatClampNeg)]) (c_X10_watcher (xs (i + 1).toNatClampNeg) M) e2 dL_law_481 u_1289 in_50 (contW_50 g _ _ _ _ _) rfl u_1290 u_1291 mi_X10_watcher (by decide) (by decide) rfl rfl (Nat.le_of_ble_eq_true rfl) (by omega) (by omega) ?_
  show LSx y g b M _ _ 484 i [.int r2, .int r1]
  exact q_eq (tgt := 1834) C he dL_law_484 (by decide) (q_widen (by show cells + _ + _ ≤ _; omega) (by show slots + _ + _ ≤ _; omega) (kk _ hI2))
set_option maxHeartbeats 1000000 in
theorem lc_7 {y : Yw} {g : Gw} {b L : Nat} {xs : Nat → Int32} {M : Mw} {cells slots : Nat} {i : Int32} {Inv : Mw → Prop} (hT : gT g = 0) (C : LCw y b L xs g) (hI : Inv M) (hp : PK_injection Inv) (h1 : vp_in (i + 1) L) (h2 : vp_in (i + 2) L) (h3 : vp_in (i + 3) L) (h4 : vp_in (i + 4) L) (h5 : vp_in (i + 5) L) (hc : cells + 2 ≤ 600000) (hs : slots + 12 ≤ 7302250) (kk : ∀ M : Mw, Inv M → LSx y g b M (cells + 2) (slots + 12) 1834 i []) : LSx y g b M cells slots 489 i [] := by
  obtain ⟨r1, r2, e1, e2, he, hI2⟩ := hp M hI (xs (i + 1).toNatClampNeg) (xs (i + 2).toNatClampNeg)
  refine q_x C dL_law_489 ?_
  refine q_arg (k := 1) C (by decide) dL_law_490 dL_law_491 dL_law_492 dL_law_493 dL_law_494 h1 ?_
  refine q_arg (k := 2) C (by decide) dL_law_495 dL_law_496 dL_law_497 dL_law_498 dL_law_499 h2 ?_
  refine q_call C (rest := []) (As := [.int (xs (i + 1).toNatClampNeg), .int (xs (i + 2).toNatClampNeg)]) (c_X9_injection (xs (i + 1).toNatClampNeg) (xs (i + 2).toNatClampNeg) M) e1 dL_law_500 u_713 in_41 (contW_41 g _ _ _ _ _) rfl u_714 u_715 mi_X9_injection (by decide) (by decide) rfl rfl (by decide) (by omega) (by omega) ?_
  refine q_m C dL_law_503 ?_
  refine q_arg (k := 1) C (by decide) dL_law_504 dL_law_505 dL_law_506 dL_law_507 dL_law_508 h1 ?_
  refine q_arg (k := 2) C (by decide) dL_law_509 dL_law_510 dL_law_511 dL_law_512 dL_law_513 h2 ?_
  refine q_call C (rest := [.int r1]) (As := [.int (xs (i + 1).toNatClampNeg), .int (xs (i + 2).toNatClampNeg)]) (c_X10_injection (xs (i + 1).toNatClampNeg) (xs (i + 2).toNatClampNeg) M) e2 dL_law_514 u_1296 in_50 (contW_50 g _ _ _ _ _) rfl u_1297 u_1298 mi_X10_injection (by decide) (by decide) rfl rfl (Nat.le_of_ble_eq_true rfl) (by omega) (by omega) ?_
  show LSx y g b M _ _ 517 i [.int r2, .int r1]
  exact q_eq (tgt := 1834) C he dL_law_517 (by decide) (q_widen (by show cells + _ + _ ≤ _; omega) (by show slots + _ + _ ≤ _; omega) (kk _ hI2))
set_option maxHeartbeats 1000000 in
theorem lc_8 {y : Yw} {g : Gw} {b L : Nat} {xs : Nat → Int32} {M : Mw} {cells slots : Nat} {i : Int32} {Inv : Mw → Prop} (hT : gT g = 0) (C : LCw y b L xs g) (hI : Inv M) (hp : PK_cost Inv) (h1 : vp_in (i + 1) L) (h2 : vp_in (i + 2) L) (h3 : vp_in (i + 3) L) (h4 : vp_in (i + 4) L) (h5 : vp_in (i + 5) L) (hc : cells + 2 ≤ 600000) (hs : slots + 12 ≤ 7302250) (kk : ∀ M : Mw, Inv M → LSx y g b M (cells + 2) (slots + 12) 1834 i []) : LSx y g b M cells slots 522 i [] := by
  obtain ⟨r1, r2, e1, e2, he, hI2⟩ := hp M hI (xs (i + 1).toNatClampNeg) (xs (i + 2).toNatClampNeg)
  refine q_x C dL_law_522 ?_
  refine q_arg (k := 1) C (by decide) dL_law_523 dL_law_524 dL_law_525 dL_law_526 dL_law_527 h1 ?_
  refine q_arg (k := 2) C (by decide) dL_law_528 dL_law_529 dL_law_530 dL_law_531 dL_law_532 h2 ?_
  refine q_call C (rest := []) (As := [.int (xs (i + 1).toNatClampNeg), .int (xs (i + 2).toNatClampNeg)]) (c_X9_cost (xs (i + 1).toNatClampNeg) (xs (i + 2).toNatClampNeg) M) e1 dL_law_533 u_721 in_41 (contW_41 g _ _ _ _ _) rfl u_722 u_723 mi_X9_cost (by decide) (by decide) rfl rfl (by decide) (by omega) (by omega) ?_
  refine q_m C dL_law_536 ?_
  refine q_arg (k := 1) C (by decide) dL_law_537 dL_law_538 dL_law_539 dL_law_540 dL_law_541 h1 ?_
  refine q_arg (k := 2) C (by decide) dL_law_542 dL_law_543 dL_law_544 dL_law_545 dL_law_546 h2 ?_
  refine q_call C (rest := [.int r1]) (As := [.int (xs (i + 1).toNatClampNeg), .int (xs (i + 2).toNatClampNeg)]) (c_X10_cost (xs (i + 1).toNatClampNeg) (xs (i + 2).toNatClampNeg) M) e2 dL_law_547 u_1307 in_50 (contW_50 g _ _ _ _ _) rfl u_1308 u_1309 mi_X10_cost (by decide) (by decide) rfl rfl (Nat.le_of_ble_eq_true rfl) (by omega) (by omega) ?_
  show LSx y g b r2.2 _ _ 550 i [.int r2.1, .int r1]
  exact q_eq (tgt := 1834) C he dL_law_550 (by decide) (q_widen (by show cells + _ + _ ≤ _; omega) (by show slots + _ + _ ≤ _; omega) (kk _ hI2))
set_option maxHeartbeats 1000000 in
theorem lc_9 {y : Yw} {g : Gw} {b L : Nat} {xs : Nat → Int32} {M : Mw} {cells slots : Nat} {i : Int32} {Inv : Mw → Prop} (hT : gT g = 0) (C : LCw y b L xs g) (hI : Inv M) (hp : PK_ways Inv) (h1 : vp_in (i + 1) L) (h2 : vp_in (i + 2) L) (h3 : vp_in (i + 3) L) (h4 : vp_in (i + 4) L) (h5 : vp_in (i + 5) L) (hc : cells + 2 ≤ 600000) (hs : slots + 12 ≤ 7302250) (kk : ∀ M : Mw, Inv M → LSx y g b M (cells + 2) (slots + 12) 1834 i []) : LSx y g b M cells slots 555 i [] := by
  obtain ⟨r1, r2, e1, e2, he, hI2⟩ := hp M hI (xs (i + 1).toNatClampNeg)
  refine q_x C dL_law_555 ?_
  refine q_arg (k := 1) C (by decide) dL_law_556 dL_law_557 dL_law_558 dL_law_559 dL_law_560 h1 ?_
  refine q_call C (rest := []) (As := [.int (xs (i + 1).toNatClampNeg)]) (c_X9_ways (xs (i + 1).toNatClampNeg) M) e1 dL_law_561 u_725 in_41 (contW_41 g _ _ _ _ _) rfl u_726 u_727 mi_X9_ways (by decide) (by decide) rfl rfl (by decide) (by omega) (by omega) ?_
  refine q_m C dL_law_564 ?_
  refine q_arg (k := 1) C (by decide) dL_law_565 dL_law_566 dL_law_567 dL_law_568 dL_law_569 h1 ?_
  refine q_call C (rest := [.int r1.1]) (As := [.int (xs (i + 1).toNatClampNeg)]) (c_X10_ways (xs (i + 1).toNatClampNeg) r1.2) e2 dL_law_570 u_1318 in_50 (contW_50 g _ _ _ _ _) rfl u_1319 u_1320 mi_X10_ways (by decide) (by decide) rfl rfl (Nat.le_of_ble_eq_true rfl) (by omega) (by omega) ?_
  show LSx y g b r2.2 _ _ 573 i [.int r2.1, .int r1.1]
  exact q_eq (tgt := 1834) C he dL_law_573 (by decide) (q_widen (by show cells + _ + _ ≤ _; omega) (by show slots + _ + _ ≤ _; omega) (kk _ hI2))
set_option maxHeartbeats 1000000 in
theorem lc_10 {y : Yw} {g : Gw} {b L : Nat} {xs : Nat → Int32} {M : Mw} {cells slots : Nat} {i : Int32} {Inv : Mw → Prop} (hT : gT g = 0) (C : LCw y b L xs g) (hI : Inv M) (hp : PK_response Inv) (h1 : vp_in (i + 1) L) (h2 : vp_in (i + 2) L) (h3 : vp_in (i + 3) L) (h4 : vp_in (i + 4) L) (h5 : vp_in (i + 5) L) (hc : cells + 2 ≤ 600000) (hs : slots + 12 ≤ 7302250) (kk : ∀ M : Mw, Inv M → LSx y g b M (cells + 2) (slots + 12) 1834 i []) : LSx y g b M cells slots 578 i [] := by
  obtain ⟨r1, r2, e1, e2, he, hI2⟩ := hp M hI (xs (i + 1).toNatClampNeg)
  refine q_x C dL_law_578 ?_
  refine q_arg (k := 1) C (by decide) dL_law_579 dL_law_580 dL_law_581 dL_law_582 dL_law_583 h1 ?_
  refine q_call C (rest := []) (As := [.int (xs (i + 1).toNatClampNeg)]) (c_X9_response (xs (i + 1).toNatClampNeg) M) e1 dL_law_584 u_742 in_41 (contW_41 g _ _ _ _ _) rfl u_743 u_744 mi_X9_response (by decide) (by decide) rfl rfl (by decide) (by omega) (by omega) ?_
  refine q_m C dL_law_587 ?_
  refine q_arg (k := 1) C (by decide) dL_law_588 dL_law_589 dL_law_590 dL_law_591 dL_law_592 h1 ?_
  refine q_call C (rest := [.int r1.1]) (As := [.int (xs (i + 1).toNatClampNeg)]) (c_X10_response (xs (i + 1).toNatClampNeg) r1.2) e2 dL_law_593 u_1322 in_50 (contW_50 g _ _ _ _ _) rfl u_1323 u_1324 mi_X10_response (by decide) (by decide) rfl rfl (Nat.le_of_ble_eq_true rfl) (by omega) (by omega) ?_
  show LSx y g b r2.2 _ _ 596 i [.int r2.1, .int r1.1]
  exact q_eq (tgt := 1834) C he dL_law_596 (by decide) (q_widen (by show cells + _ + _ ≤ _; omega) (by show slots + _ + _ ≤ _; omega) (kk _ hI2))
set_option maxHeartbeats 1000000 in
theorem lc_11 {y : Yw} {g : Gw} {b L : Nat} {xs : Nat → Int32} {M : Mw} {cells slots : Nat} {i : Int32} {Inv : Mw → Prop} (hT : gT g = 0) (C : LCw y b L xs g) (hI : Inv M) (hp : PK_least Inv) (h1 : vp_in (i + 1) L) (h2 : vp_in (i + 2) L) (h3 : vp_in (i + 3) L) (h4 : vp_in (i + 4) L) (h5 : vp_in (i + 5) L) (hc : cells + 2 ≤ 600000) (hs : slots + 12 ≤ 7302250) (kk : ∀ M : Mw, Inv M → LSx y g b M (cells + 2) (slots + 12) 1834 i []) : LSx y g b M cells slots 601 i [] := by
  obtain ⟨r1, r2, e1, e2, he, hI2⟩ := hp M hI (xs (i + 1).toNatClampNeg) (xs (i + 2).toNatClampNeg)
  refine q_x C dL_law_601 ?_
  refine q_arg (k := 1) C (by decide) dL_law_602 dL_law_603 dL_law_604 dL_law_605 dL_law_606 h1 ?_
  refine q_arg (k := 2) C (by decide) dL_law_607 dL_law_608 dL_law_609 dL_law_610 dL_law_611 h2 ?_
  refine q_call C (rest := []) (As := [.int (xs (i + 1).toNatClampNeg), .int (xs (i + 2).toNatClampNeg)]) (c_X9_least (xs (i + 1).toNatClampNeg) (xs (i + 2).toNatClampNeg) M) e1 dL_law_612 u_762 in_41 (contW_41 g _ _ _ _ _) rfl u_763 u_764 mi_X9_least (by decide) (by decide) rfl rfl (by decide) (by omega) (by omega) ?_
  refine q_m C dL_law_615 ?_
  refine q_arg (k := 1) C (by decide) dL_law_616 dL_law_617 dL_law_618 dL_law_619 dL_law_620 h1 ?_
  refine q_arg (k := 2) C (by decide) dL_law_621 dL_law_622 dL_law_623 dL_law_624 dL_law_625 h2 ?_
  refine q_call C (rest := [.int r1.1]) (As := [.int (xs (i + 1).toNatClampNeg), .int (xs (i + 2).toNatClampNeg)]) (c_X10_least (xs (i + 1).toNatClampNeg) (xs (i + 2).toNatClampNeg) r1.2) e2 dL_law_626 u_1335 in_50 (contW_50 g _ _ _ _ _) rfl u_1336 u_1337 mi_X10_least (by decide) (by decide) rfl rfl (Nat.le_of_ble_eq_true rfl) (by omega) (by omega) ?_
  show LSx y g b r2.2 _ _ 629 i [.int r2.1, .int r1.1]
  exact q_eq (tgt := 1834) C he dL_law_629 (by decide) (q_widen (by show cells + _ + _ ≤ _; omega) (by show slots + _ + _ ≤ _; omega) (kk _ hI2))
set_option maxHeartbeats 1000000 in
theorem lc_12 {y : Yw} {g : Gw} {b L : Nat} {xs : Nat → Int32} {M : Mw} {cells slots : Nat} {i : Int32} {Inv : Mw → Prop} (hT : gT g = 0) (C : LCw y b L xs g) (hI : Inv M) (hp : PK_room Inv) (h1 : vp_in (i + 1) L) (h2 : vp_in (i + 2) L) (h3 : vp_in (i + 3) L) (h4 : vp_in (i + 4) L) (h5 : vp_in (i + 5) L) (hc : cells + 2 ≤ 600000) (hs : slots + 12 ≤ 7302250) (kk : ∀ M : Mw, Inv M → LSx y g b M (cells + 2) (slots + 12) 1834 i []) : LSx y g b M cells slots 634 i [] := by
  obtain ⟨r1, r2, e1, e2, he, hI2⟩ := hp M hI (xs (i + 1).toNatClampNeg)
  refine q_x C dL_law_634 ?_
  refine q_arg (k := 1) C (by decide) dL_law_635 dL_law_636 dL_law_637 dL_law_638 dL_law_639 h1 ?_
  refine q_call C (rest := []) (As := [.int (xs (i + 1).toNatClampNeg)]) (c_X9_room (xs (i + 1).toNatClampNeg) M) e1 dL_law_640 u_773 in_41 (contW_41 g _ _ _ _ _) rfl u_774 u_775 mi_X9_room (by decide) (by decide) rfl rfl (by decide) (by omega) (by omega) ?_
  refine q_m C dL_law_643 ?_
  refine q_arg (k := 1) C (by decide) dL_law_644 dL_law_645 dL_law_646 dL_law_647 dL_law_648 h1 ?_
  refine q_call C (rest := [.int r1.1]) (As := [.int (xs (i + 1).toNatClampNeg)]) (c_X10_room (xs (i + 1).toNatClampNeg) r1.2) e2 dL_law_649 u_1356 in_50 (contW_50 g _ _ _ _ _) rfl u_1357 u_1358 mi_X10_room (by decide) (by decide) rfl rfl (Nat.le_of_ble_eq_true rfl) (by omega) (by omega) ?_
  show LSx y g b r2.2 _ _ 652 i [.int r2.1, .int r1.1]
  exact q_eq (tgt := 1834) C he dL_law_652 (by decide) (q_widen (by show cells + _ + _ ≤ _; omega) (by show slots + _ + _ ≤ _; omega) (kk _ hI2))
set_option maxHeartbeats 1000000 in
theorem lc_13 {y : Yw} {g : Gw} {b L : Nat} {xs : Nat → Int32} {M : Mw} {cells slots : Nat} {i : Int32} {Inv : Mw → Prop} (hT : gT g = 0) (C : LCw y b L xs g) (hI : Inv M) (hp : PK_orders Inv) (h1 : vp_in (i + 1) L) (h2 : vp_in (i + 2) L) (h3 : vp_in (i + 3) L) (h4 : vp_in (i + 4) L) (h5 : vp_in (i + 5) L) (hc : cells + 2 ≤ 600000) (hs : slots + 12 ≤ 7302250) (kk : ∀ M : Mw, Inv M → LSx y g b M (cells + 2) (slots + 12) 1834 i []) : LSx y g b M cells slots 657 i [] := by
  obtain ⟨r1, r2, e1, e2, he, hI2⟩ := hp M hI
  refine q_x C dL_law_657 ?_
  refine q_call C (rest := []) (As := []) (c_X9_orders  M) e1 dL_law_658 u_791 in_41 (contW_41 g _ _ _ _ _) rfl u_792 u_793 mi_X9_orders (by decide) (by decide) rfl rfl (by decide) (by omega) (by omega) ?_
  refine q_m C dL_law_661 ?_
  refine q_call C (rest := [.int r1.1]) (As := []) (c_X10_orders  r1.2) e2 dL_law_662 u_1360 in_50 (contW_50 g _ _ _ _ _) rfl u_1361 u_1362 mi_X10_orders (by decide) (by decide) rfl rfl (Nat.le_of_ble_eq_true rfl) (by omega) (by omega) ?_
  show LSx y g b r2.2 _ _ 665 i [.int r2.1, .int r1.1]
  exact q_eq (tgt := 1834) C he dL_law_665 (by decide) (q_widen (by show cells + _ + _ ≤ _; omega) (by show slots + _ + _ ≤ _; omega) (kk _ hI2))
set_option maxHeartbeats 1000000 in
theorem lc_14 {y : Yw} {g : Gw} {b L : Nat} {xs : Nat → Int32} {M : Mw} {cells slots : Nat} {i : Int32} {Inv : Mw → Prop} (hT : gT g = 0) (C : LCw y b L xs g) (hI : Inv M) (hp : PK_order Inv) (h1 : vp_in (i + 1) L) (h2 : vp_in (i + 2) L) (h3 : vp_in (i + 3) L) (h4 : vp_in (i + 4) L) (h5 : vp_in (i + 5) L) (hc : cells + 2 ≤ 600000) (hs : slots + 12 ≤ 7302250) (kk : ∀ M : Mw, Inv M → LSx y g b M (cells + 2) (slots + 12) 1834 i []) : LSx y g b M cells slots 670 i [] := by
  obtain ⟨r1, r2, e1, e2, he, hI2⟩ := hp M hI (xs (i + 1).toNatClampNeg)
  refine q_x C dL_law_670 ?_
  refine q_arg (k := 1) C (by decide) dL_law_671 dL_law_672 dL_law_673 dL_law_674 dL_law_675 h1 ?_
  refine q_call C (rest := []) (As := [.int (xs (i + 1).toNatClampNeg)]) (c_X9_order (xs (i + 1).toNatClampNeg) M) e1 dL_law_676 u_808 in_41 (contW_41 g _ _ _ _ _) rfl u_809 u_810 mi_X9_order (by decide) (by decide) rfl rfl (by decide) (by omega) (by omega) ?_
  refine q_m C dL_law_679 ?_
  refine q_arg (k := 1) C (by decide) dL_law_680 dL_law_681 dL_law_682 dL_law_683 dL_law_684 h1 ?_
  refine q_call C (rest := [.int r1.1]) (As := [.int (xs (i + 1).toNatClampNeg)]) (c_X10_order (xs (i + 1).toNatClampNeg) r1.2) e2 dL_law_685 u_1370 in_50 (contW_50 g _ _ _ _ _) rfl u_1371 u_1372 mi_X10_order (by decide) (by decide) rfl rfl (Nat.le_of_ble_eq_true rfl) (by omega) (by omega) ?_
  show LSx y g b r2.2 _ _ 688 i [.int r2.1, .int r1.1]
  exact q_eq (tgt := 1834) C he dL_law_688 (by decide) (q_widen (by show cells + _ + _ ≤ _; omega) (by show slots + _ + _ ≤ _; omega) (kk _ hI2))
set_option maxHeartbeats 1000000 in
theorem lc_15 {y : Yw} {g : Gw} {b L : Nat} {xs : Nat → Int32} {M : Mw} {cells slots : Nat} {i : Int32} {Inv : Mw → Prop} (hT : gT g = 0) (C : LCw y b L xs g) (hI : Inv M) (hp : PK_path Inv) (h1 : vp_in (i + 1) L) (h2 : vp_in (i + 2) L) (h3 : vp_in (i + 3) L) (h4 : vp_in (i + 4) L) (h5 : vp_in (i + 5) L) (hc : cells + 2 ≤ 600000) (hs : slots + 12 ≤ 7302250) (kk : ∀ M : Mw, Inv M → LSx y g b M (cells + 2) (slots + 12) 1834 i []) : LSx y g b M cells slots 693 i [] := by
  obtain ⟨r1, r2, e1, e2, he, hI2⟩ := hp M hI (xs (i + 1).toNatClampNeg) (xs (i + 2).toNatClampNeg) (xs (i + 3).toNatClampNeg)
  refine q_x C dL_law_693 ?_
  refine q_arg (k := 1) C (by decide) dL_law_694 dL_law_695 dL_law_696 dL_law_697 dL_law_698 h1 ?_
  refine q_arg (k := 2) C (by decide) dL_law_699 dL_law_700 dL_law_701 dL_law_702 dL_law_703 h2 ?_
  refine q_arg (k := 3) C (by decide) dL_law_704 dL_law_705 dL_law_706 dL_law_707 dL_law_708 h3 ?_
  refine q_call C (rest := []) (As := [.int (xs (i + 1).toNatClampNeg), .int (xs (i + 2).toNatClampNeg), .int (xs (i + 3).toNatClampNeg)]) (c_X9_path (xs (i + 1).toNatClampNeg) (xs (i + 2).toNatClampNeg) (xs (i + 3).toNatClampNeg) M) e1 dL_law_709 u_816 in_41 (contW_41 g _ _ _ _ _) rfl u_817 u_818 mi_X9_path (by decide) (by decide) rfl rfl (by decide) (by omega) (by omega) ?_
  refine q_m C dL_law_712 ?_
  refine q_arg (k := 1) C (by decide) dL_law_713 dL_law_714 dL_law_715 dL_law_716 dL_law_717 h1 ?_
  refine q_arg (k := 2) C (by decide) dL_law_718 dL_law_719 dL_law_720 dL_law_721 dL_law_722 h2 ?_
  refine q_arg (k := 3) C (by decide) dL_law_723 dL_law_724 dL_law_725 dL_law_726 dL_law_727 h3 ?_
  refine q_call C (rest := [.int r1]) (As := [.int (xs (i + 1).toNatClampNeg), .int (xs (i + 2).toNatClampNeg), .int (xs (i + 3).toNatClampNeg)]) (c_X10_path (xs (i + 1).toNatClampNeg) (xs (i + 2).toNatClampNeg) (xs (i + 3).toNatClampNeg) M) e2 dL_law_728 u_1388 in_50 (contW_50 g _ _ _ _ _) rfl u_1389 u_1390 mi_X10_path (by decide) (by decide) rfl rfl (Nat.le_of_ble_eq_true rfl) (by omega) (by omega) ?_
  show LSx y g b M _ _ 731 i [.int r2, .int r1]
  exact q_eq (tgt := 1834) C he dL_law_731 (by decide) (q_widen (by show cells + _ + _ ≤ _; omega) (by show slots + _ + _ ≤ _; omega) (kk _ hI2))
set_option maxHeartbeats 1000000 in
theorem lc_16 {y : Yw} {g : Gw} {b L : Nat} {xs : Nat → Int32} {M : Mw} {cells slots : Nat} {i : Int32} {Inv : Mw → Prop} (hT : gT g = 0) (C : LCw y b L xs g) (hI : Inv M) (hp : PK_answer Inv) (h1 : vp_in (i + 1) L) (h2 : vp_in (i + 2) L) (h3 : vp_in (i + 3) L) (h4 : vp_in (i + 4) L) (h5 : vp_in (i + 5) L) (hc : cells + 2 ≤ 600000) (hs : slots + 12 ≤ 7302250) (kk : ∀ M : Mw, Inv M → LSx y g b M (cells + 2) (slots + 12) 1834 i []) : LSx y g b M cells slots 736 i [] := by
  obtain ⟨r1, r2, e1, e2, he, hI2⟩ := hp M hI (xs (i + 1).toNatClampNeg) (xs (i + 2).toNatClampNeg) (xs (i + 3).toNatClampNeg)
  refine q_x C dL_law_736 ?_
  refine q_arg (k := 1) C (by decide) dL_law_737 dL_law_738 dL_law_739 dL_law_740 dL_law_741 h1 ?_
  refine q_arg (k := 2) C (by decide) dL_law_742 dL_law_743 dL_law_744 dL_law_745 dL_law_746 h2 ?_
  refine q_arg (k := 3) C (by decide) dL_law_747 dL_law_748 dL_law_749 dL_law_750 dL_law_751 h3 ?_
  refine q_call C (rest := []) (As := [.int (xs (i + 1).toNatClampNeg), .int (xs (i + 2).toNatClampNeg), .int (xs (i + 3).toNatClampNeg)]) (c_X9_answer (xs (i + 1).toNatClampNeg) (xs (i + 2).toNatClampNeg) (xs (i + 3).toNatClampNeg) M) e1 dL_law_752 u_827 in_41 (contW_41 g _ _ _ _ _) rfl u_828 u_829 mi_X9_answer (by decide) (by decide) rfl rfl (by decide) (by omega) (by omega) ?_
  refine q_m C dL_law_755 ?_
  refine q_arg (k := 1) C (by decide) dL_law_756 dL_law_757 dL_law_758 dL_law_759 dL_law_760 h1 ?_
  refine q_arg (k := 2) C (by decide) dL_law_761 dL_law_762 dL_law_763 dL_law_764 dL_law_765 h2 ?_
  refine q_arg (k := 3) C (by decide) dL_law_766 dL_law_767 dL_law_768 dL_law_769 dL_law_770 h3 ?_
  refine q_call C (rest := [.int r1]) (As := [.int (xs (i + 1).toNatClampNeg), .int (xs (i + 2).toNatClampNeg), .int (xs (i + 3).toNatClampNeg)]) (c_X10_answer (xs (i + 1).toNatClampNeg) (xs (i + 2).toNatClampNeg) (xs (i + 3).toNatClampNeg) M) e2 dL_law_771 u_1396 in_50 (contW_50 g _ _ _ _ _) rfl u_1397 u_1398 mi_X10_answer (by decide) (by decide) rfl rfl (Nat.le_of_ble_eq_true rfl) (by omega) (by omega) ?_
  show LSx y g b M _ _ 774 i [.int r2, .int r1]
  exact q_eq (tgt := 1834) C he dL_law_774 (by decide) (q_widen (by show cells + _ + _ ≤ _; omega) (by show slots + _ + _ ≤ _; omega) (kk _ hI2))
set_option maxHeartbeats 1000000 in
theorem lc_17 {y : Yw} {g : Gw} {b L : Nat} {xs : Nat → Int32} {M : Mw} {cells slots : Nat} {i : Int32} {Inv : Mw → Prop} (hT : gT g = 0) (C : LCw y b L xs g) (hI : Inv M) (hp : PK_alike Inv) (h1 : vp_in (i + 1) L) (h2 : vp_in (i + 2) L) (h3 : vp_in (i + 3) L) (h4 : vp_in (i + 4) L) (h5 : vp_in (i + 5) L) (hc : cells + 2 ≤ 600000) (hs : slots + 12 ≤ 7302250) (kk : ∀ M : Mw, Inv M → LSx y g b M (cells + 2) (slots + 12) 1834 i []) : LSx y g b M cells slots 779 i [] := by
  obtain ⟨r1, r2, e1, e2, he, hI2⟩ := hp M hI (xs (i + 1).toNatClampNeg) (xs (i + 2).toNatClampNeg)
  refine q_x C dL_law_779 ?_
  refine q_arg (k := 1) C (by decide) dL_law_780 dL_law_781 dL_law_782 dL_law_783 dL_law_784 h1 ?_
  refine q_arg (k := 2) C (by decide) dL_law_785 dL_law_786 dL_law_787 dL_law_788 dL_law_789 h2 ?_
  refine q_call C (rest := []) (As := [.int (xs (i + 1).toNatClampNeg), .int (xs (i + 2).toNatClampNeg)]) (c_X9_alike (xs (i + 1).toNatClampNeg) (xs (i + 2).toNatClampNeg) M) e1 dL_law_790 u_837 in_41 (contW_41 g _ _ _ _ _) rfl u_838 u_839 mi_X9_alike (by decide) (by decide) rfl rfl (by decide) (by omega) (by omega) ?_
  refine q_m C dL_law_793 ?_
  refine q_arg (k := 1) C (by decide) dL_law_794 dL_law_795 dL_law_796 dL_law_797 dL_law_798 h1 ?_
  refine q_arg (k := 2) C (by decide) dL_law_799 dL_law_800 dL_law_801 dL_law_802 dL_law_803 h2 ?_
  refine q_call C (rest := [.int r1.1]) (As := [.int (xs (i + 1).toNatClampNeg), .int (xs (i + 2).toNatClampNeg)]) (c_X10_alike (xs (i + 1).toNatClampNeg) (xs (i + 2).toNatClampNeg) r1.2) e2 dL_law_804 u_1404 in_50 (contW_50 g _ _ _ _ _) rfl u_1405 u_1406 mi_X10_alike (by decide) (by decide) rfl rfl (Nat.le_of_ble_eq_true rfl) (by omega) (by omega) ?_
  show LSx y g b r2.2 _ _ 807 i [.int r2.1, .int r1.1]
  exact q_eq (tgt := 1834) C he dL_law_807 (by decide) (q_widen (by show cells + _ + _ ≤ _; omega) (by show slots + _ + _ ≤ _; omega) (kk _ hI2))
set_option maxHeartbeats 1000000 in
theorem lc_18 {y : Yw} {g : Gw} {b L : Nat} {xs : Nat → Int32} {M : Mw} {cells slots : Nat} {i : Int32} {Inv : Mw → Prop} (hT : gT g = 0) (C : LCw y b L xs g) (hI : Inv M) (hp : PK_lawful Inv) (h1 : vp_in (i + 1) L) (h2 : vp_in (i + 2) L) (h3 : vp_in (i + 3) L) (h4 : vp_in (i + 4) L) (h5 : vp_in (i + 5) L) (hc : cells + 2 ≤ 600000) (hs : slots + 12 ≤ 7302250) (kk : ∀ M : Mw, Inv M → LSx y g b M (cells + 2) (slots + 12) 1834 i []) : LSx y g b M cells slots 812 i [] := by
  obtain ⟨r1, r2, e1, e2, he, hI2⟩ := hp M hI
  refine q_x C dL_law_812 ?_
  refine q_call C (rest := []) (As := []) (c_X9_lawful  M) e1 dL_law_813 u_845 in_41 (contW_41 g _ _ _ _ _) rfl u_846 u_847 mi_X9_lawful (by decide) (by decide) rfl rfl (by decide) (by omega) (by omega) ?_
  refine q_m C dL_law_816 ?_
  refine q_call C (rest := [.int r1.1]) (As := []) (c_X10_lawful  r1.2) e2 dL_law_817 u_1343 in_50 (contW_50 g _ _ _ _ _) rfl u_1344 u_1345 mi_X10_lawful (by decide) (by decide) rfl rfl (Nat.le_of_ble_eq_true rfl) (by omega) (by omega) ?_
  show LSx y g b r2.2 _ _ 820 i [.int r2.1, .int r1.1]
  exact q_eq (tgt := 1834) C he dL_law_820 (by decide) (q_widen (by show cells + _ + _ ≤ _; omega) (by show slots + _ + _ ≤ _; omega) (kk _ hI2))
set_option maxHeartbeats 1000000 in
theorem lc_19 {y : Yw} {g : Gw} {b L : Nat} {xs : Nat → Int32} {M : Mw} {cells slots : Nat} {i : Int32} {Inv : Mw → Prop} (hT : gT g = 0) (C : LCw y b L xs g) (hI : Inv M) (hp : PK_load Inv) (h1 : vp_in (i + 1) L) (h2 : vp_in (i + 2) L) (h3 : vp_in (i + 3) L) (h4 : vp_in (i + 4) L) (h5 : vp_in (i + 5) L) (hc : cells + 2 ≤ 600000) (hs : slots + 12 ≤ 7302250) (kk : ∀ M : Mw, Inv M → LSx y g b M (cells + 2) (slots + 12) 1834 i []) : LSx y g b M cells slots 825 i [] := by
  obtain ⟨r1, r2, e1, e2, he, hI2⟩ := hp M hI
  refine q_x C dL_law_825 ?_
  refine q_call C (rest := []) (As := []) (c_X9_load  M) e1 dL_law_826 u_850 in_41 (contW_41 g _ _ _ _ _) rfl u_851 u_852 mi_X9_load (by decide) (by decide) rfl rfl (by decide) (by omega) (by omega) ?_
  refine q_m C dL_law_829 ?_
  refine q_call C (rest := [.int r1]) (As := []) (c_X10_load  M) e2 dL_law_830 u_1374 in_50 (contW_50 g _ _ _ _ _) rfl u_1375 u_1376 mi_X10_load (by decide) (by decide) rfl rfl (Nat.le_of_ble_eq_true rfl) (by omega) (by omega) ?_
  show LSx y g b r2.2 _ _ 833 i [.int r2.1, .int r1]
  exact q_eq (tgt := 1834) C he dL_law_833 (by decide) (q_widen (by show cells + _ + _ ≤ _; omega) (by show slots + _ + _ ≤ _; omega) (kk _ hI2))
set_option maxHeartbeats 1000000 in
theorem lc_20 {y : Yw} {g : Gw} {b L : Nat} {xs : Nat → Int32} {M : Mw} {cells slots : Nat} {i : Int32} {Inv : Mw → Prop} (hT : gT g = 0) (C : LCw y b L xs g) (hI : Inv M) (hp : PK_had Inv) (h1 : vp_in (i + 1) L) (h2 : vp_in (i + 2) L) (h3 : vp_in (i + 3) L) (h4 : vp_in (i + 4) L) (h5 : vp_in (i + 5) L) (hc : cells + 2 ≤ 600000) (hs : slots + 12 ≤ 7302250) (kk : ∀ M : Mw, Inv M → LSx y g b M (cells + 2) (slots + 12) 1834 i []) : LSx y g b M cells slots 838 i [] := by
  obtain ⟨r1, r2, e1, e2, he, hI2⟩ := hp M hI (xs (i + 1).toNatClampNeg)
  refine q_x C dL_law_838 ?_
  refine q_arg (k := 1) C (by decide) dL_law_839 dL_law_840 dL_law_841 dL_law_842 dL_law_843 h1 ?_
  refine q_call C (rest := []) (As := [.int (xs (i + 1).toNatClampNeg)]) (c_X9_had (xs (i + 1).toNatClampNeg) M) e1 dL_law_844 u_861 in_41 (contW_41 g _ _ _ _ _) rfl u_862 u_863 mi_X9_had (by decide) (by decide) rfl rfl (by decide) (by omega) (by omega) ?_
  refine q_m C dL_law_847 ?_
  refine q_arg (k := 1) C (by decide) dL_law_848 dL_law_849 dL_law_850 dL_law_851 dL_law_852 h1 ?_
  refine q_call C (rest := [.int r1.1]) (As := [.int (xs (i + 1).toNatClampNeg)]) (c_X10_had (xs (i + 1).toNatClampNeg) r1.2) e2 dL_law_853 u_1411 in_50 (contW_50 g _ _ _ _ _) rfl u_1412 u_1413 mi_X10_had (by decide) (by decide) rfl rfl (Nat.le_of_ble_eq_true rfl) (by omega) (by omega) ?_
  show LSx y g b r2.2 _ _ 856 i [.int r2.1, .int r1.1]
  exact q_eq (tgt := 1834) C he dL_law_856 (by decide) (q_widen (by show cells + _ + _ ≤ _; omega) (by show slots + _ + _ ≤ _; omega) (kk _ hI2))
set_option maxHeartbeats 1000000 in
theorem lc_21 {y : Yw} {g : Gw} {b L : Nat} {xs : Nat → Int32} {M : Mw} {cells slots : Nat} {i : Int32} {Inv : Mw → Prop} (hT : gT g = 0) (C : LCw y b L xs g) (hI : Inv M) (hp : PK_idle Inv) (h1 : vp_in (i + 1) L) (h2 : vp_in (i + 2) L) (h3 : vp_in (i + 3) L) (h4 : vp_in (i + 4) L) (h5 : vp_in (i + 5) L) (hc : cells + 2 ≤ 600000) (hs : slots + 12 ≤ 7302250) (kk : ∀ M : Mw, Inv M → LSx y g b M (cells + 2) (slots + 12) 1834 i []) : LSx y g b M cells slots 861 i [] := by
  obtain ⟨r1, r2, e1, e2, he, hI2⟩ := hp M hI (xs (i + 1).toNatClampNeg)
  refine q_x C dL_law_861 ?_
  refine q_arg (k := 1) C (by decide) dL_law_862 dL_law_863 dL_law_864 dL_law_865 dL_law_866 h1 ?_
  refine q_call C (rest := []) (As := [.int (xs (i + 1).toNatClampNeg)]) (c_X9_idle (xs (i + 1).toNatClampNeg) M) e1 dL_law_867 u_865 in_41 (contW_41 g _ _ _ _ _) rfl u_866 u_867 mi_X9_idle (by decide) (by decide) rfl rfl (by decide) (by omega) (by omega) ?_
  refine q_m C dL_law_870 ?_
  refine q_arg (k := 1) C (by decide) dL_law_871 dL_law_872 dL_law_873 dL_law_874 dL_law_875 h1 ?_
  refine q_call C (rest := [.int r1.1]) (As := [.int (xs (i + 1).toNatClampNeg)]) (c_X10_idle (xs (i + 1).toNatClampNeg) r1.2) e2 dL_law_876 u_1495 in_50 (contW_50 g _ _ _ _ _) rfl u_1496 u_1497 mi_X10_idle (by decide) (by decide) rfl rfl (Nat.le_of_ble_eq_true rfl) (by omega) (by omega) ?_
  show LSx y g b r2.2 _ _ 879 i [.int r2.1, .int r1.1]
  exact q_eq (tgt := 1834) C he dL_law_879 (by decide) (q_widen (by show cells + _ + _ ≤ _; omega) (by show slots + _ + _ ≤ _; omega) (kk _ hI2))
set_option maxHeartbeats 1000000 in
theorem lc_22 {y : Yw} {g : Gw} {b L : Nat} {xs : Nat → Int32} {M : Mw} {cells slots : Nat} {i : Int32} {Inv : Mw → Prop} (hT : gT g = 0) (C : LCw y b L xs g) (hI : Inv M) (hp : PK_kicks Inv) (h1 : vp_in (i + 1) L) (h2 : vp_in (i + 2) L) (h3 : vp_in (i + 3) L) (h4 : vp_in (i + 4) L) (h5 : vp_in (i + 5) L) (hc : cells + 2 ≤ 600000) (hs : slots + 12 ≤ 7302250) (kk : ∀ M : Mw, Inv M → LSx y g b M (cells + 2) (slots + 12) 1834 i []) : LSx y g b M cells slots 884 i [] := by
  obtain ⟨r1, r2, e1, e2, he, hI2⟩ := hp M hI (xs (i + 1).toNatClampNeg) (xs (i + 2).toNatClampNeg)
  refine q_x C dL_law_884 ?_
  refine q_arg (k := 1) C (by decide) dL_law_885 dL_law_886 dL_law_887 dL_law_888 dL_law_889 h1 ?_
  refine q_arg (k := 2) C (by decide) dL_law_890 dL_law_891 dL_law_892 dL_law_893 dL_law_894 h2 ?_
  refine q_call C (rest := []) (As := [.int (xs (i + 1).toNatClampNeg), .int (xs (i + 2).toNatClampNeg)]) (c_X9_kicks (xs (i + 1).toNatClampNeg) (xs (i + 2).toNatClampNeg) M) e1 dL_law_895 u_872 in_41 (contW_41 g _ _ _ _ _) rfl u_873 u_874 mi_X9_kicks (by decide) (by decide) rfl rfl (by decide) (by omega) (by omega) ?_
  refine q_m C dL_law_898 ?_
  refine q_arg (k := 1) C (by decide) dL_law_899 dL_law_900 dL_law_901 dL_law_902 dL_law_903 h1 ?_
  refine q_arg (k := 2) C (by decide) dL_law_904 dL_law_905 dL_law_906 dL_law_907 dL_law_908 h2 ?_
  refine q_call C (rest := [.int r1.1]) (As := [.int (xs (i + 1).toNatClampNeg), .int (xs (i + 2).toNatClampNeg)]) (c_X10_kicks (xs (i + 1).toNatClampNeg) (xs (i + 2).toNatClampNeg) r1.2) e2 dL_law_909 u_1505 in_50 (contW_50 g _ _ _ _ _) rfl u_1506 u_1507 mi_X10_kicks (by decide) (by decide) rfl rfl (Nat.le_of_ble_eq_true rfl) (by omega) (by omega) ?_
  show LSx y g b r2.2 _ _ 912 i [.int r2.1, .int r1.1]
  exact q_eq (tgt := 1834) C he dL_law_912 (by decide) (q_widen (by show cells + _ + _ ≤ _; omega) (by show slots + _ + _ ≤ _; omega) (kk _ hI2))
set_option maxHeartbeats 1000000 in
theorem lc_23 {y : Yw} {g : Gw} {b L : Nat} {xs : Nat → Int32} {M : Mw} {cells slots : Nat} {i : Int32} {Inv : Mw → Prop} (hT : gT g = 0) (C : LCw y b L xs g) (hI : Inv M) (hp : PK_kicked Inv) (h1 : vp_in (i + 1) L) (h2 : vp_in (i + 2) L) (h3 : vp_in (i + 3) L) (h4 : vp_in (i + 4) L) (h5 : vp_in (i + 5) L) (hc : cells + 2 ≤ 600000) (hs : slots + 12 ≤ 7302250) (kk : ∀ M : Mw, Inv M → LSx y g b M (cells + 2) (slots + 12) 1834 i []) : LSx y g b M cells slots 917 i [] := by
  obtain ⟨r1, r2, e1, e2, he, hI2⟩ := hp M hI (xs (i + 1).toNatClampNeg) (xs (i + 2).toNatClampNeg)
  refine q_x C dL_law_917 ?_
  refine q_arg (k := 1) C (by decide) dL_law_918 dL_law_919 dL_law_920 dL_law_921 dL_law_922 h1 ?_
  refine q_arg (k := 2) C (by decide) dL_law_923 dL_law_924 dL_law_925 dL_law_926 dL_law_927 h2 ?_
  refine q_call C (rest := []) (As := [.int (xs (i + 1).toNatClampNeg), .int (xs (i + 2).toNatClampNeg)]) (c_X9_kicked (xs (i + 1).toNatClampNeg) (xs (i + 2).toNatClampNeg) M) e1 dL_law_928 u_882 in_41 (contW_41 g _ _ _ _ _) rfl u_883 u_884 mi_X9_kicked (by decide) (by decide) rfl rfl (by decide) (by omega) (by omega) ?_
  refine q_m C dL_law_931 ?_
  refine q_arg (k := 1) C (by decide) dL_law_932 dL_law_933 dL_law_934 dL_law_935 dL_law_936 h1 ?_
  refine q_arg (k := 2) C (by decide) dL_law_937 dL_law_938 dL_law_939 dL_law_940 dL_law_941 h2 ?_
  refine q_call C (rest := [.int r1.1]) (As := [.int (xs (i + 1).toNatClampNeg), .int (xs (i + 2).toNatClampNeg)]) (c_X10_kicked (xs (i + 1).toNatClampNeg) (xs (i + 2).toNatClampNeg) r1.2) e2 dL_law_942 u_1512 in_50 (contW_50 g _ _ _ _ _) rfl u_1513 u_1514 mi_X10_kicked (by decide) (by decide) rfl rfl (Nat.le_of_ble_eq_true rfl) (by omega) (by omega) ?_
  show LSx y g b r2.2 _ _ 945 i [.int r2.1, .int r1.1]
  exact q_eq (tgt := 1834) C he dL_law_945 (by decide) (q_widen (by show cells + _ + _ ≤ _; omega) (by show slots + _ + _ ≤ _; omega) (kk _ hI2))
set_option maxHeartbeats 1000000 in
theorem lc_24 {y : Yw} {g : Gw} {b L : Nat} {xs : Nat → Int32} {M : Mw} {cells slots : Nat} {i : Int32} {Inv : Mw → Prop} (hT : gT g = 0) (C : LCw y b L xs g) (hI : Inv M) (hp : PK_gap Inv) (h1 : vp_in (i + 1) L) (h2 : vp_in (i + 2) L) (h3 : vp_in (i + 3) L) (h4 : vp_in (i + 4) L) (h5 : vp_in (i + 5) L) (hc : cells + 2 ≤ 600000) (hs : slots + 12 ≤ 7302250) (kk : ∀ M : Mw, Inv M → LSx y g b M (cells + 2) (slots + 12) 1834 i []) : LSx y g b M cells slots 950 i [] := by
  obtain ⟨r1, r2, e1, e2, he, hI2⟩ := hp M hI (xs (i + 1).toNatClampNeg) (xs (i + 2).toNatClampNeg)
  refine q_x C dL_law_950 ?_
  refine q_arg (k := 1) C (by decide) dL_law_951 dL_law_952 dL_law_953 dL_law_954 dL_law_955 h1 ?_
  refine q_arg (k := 2) C (by decide) dL_law_956 dL_law_957 dL_law_958 dL_law_959 dL_law_960 h2 ?_
  refine q_call C (rest := []) (As := [.int (xs (i + 1).toNatClampNeg), .int (xs (i + 2).toNatClampNeg)]) (c_X9_gap (xs (i + 1).toNatClampNeg) (xs (i + 2).toNatClampNeg) M) e1 dL_law_961 u_886 in_41 (contW_41 g _ _ _ _ _) rfl u_887 u_888 mi_X9_gap (by decide) (by decide) rfl rfl (by decide) (by omega) (by omega) ?_
  refine q_m C dL_law_964 ?_
  refine q_arg (k := 1) C (by decide) dL_law_965 dL_law_966 dL_law_967 dL_law_968 dL_law_969 h1 ?_
  refine q_arg (k := 2) C (by decide) dL_law_970 dL_law_971 dL_law_972 dL_law_973 dL_law_974 h2 ?_
  refine q_call C (rest := [.int r1]) (As := [.int (xs (i + 1).toNatClampNeg), .int (xs (i + 2).toNatClampNeg)]) (c_X10_gap (xs (i + 1).toNatClampNeg) (xs (i + 2).toNatClampNeg) M) e2 dL_law_975 u_1516 in_50 (contW_50 g _ _ _ _ _) rfl u_1517 u_1518 mi_X10_gap (by decide) (by decide) rfl rfl (Nat.le_of_ble_eq_true rfl) (by omega) (by omega) ?_
  show LSx y g b r2.2 _ _ 978 i [.int r2.1, .int r1]
  exact q_eq (tgt := 1834) C he dL_law_978 (by decide) (q_widen (by show cells + _ + _ ≤ _; omega) (by show slots + _ + _ ≤ _; omega) (kk _ hI2))
set_option maxHeartbeats 1000000 in
theorem lc_25 {y : Yw} {g : Gw} {b L : Nat} {xs : Nat → Int32} {M : Mw} {cells slots : Nat} {i : Int32} {Inv : Mw → Prop} (hT : gT g = 0) (C : LCw y b L xs g) (hI : Inv M) (hp : PK_jobs Inv) (h1 : vp_in (i + 1) L) (h2 : vp_in (i + 2) L) (h3 : vp_in (i + 3) L) (h4 : vp_in (i + 4) L) (h5 : vp_in (i + 5) L) (hc : cells + 2 ≤ 600000) (hs : slots + 12 ≤ 7302250) (kk : ∀ M : Mw, Inv M → LSx y g b M (cells + 2) (slots + 12) 1834 i []) : LSx y g b M cells slots 983 i [] := by
  obtain ⟨r1, r2, e1, e2, he, hI2⟩ := hp M hI (xs (i + 1).toNatClampNeg) (xs (i + 2).toNatClampNeg)
  refine q_x C dL_law_983 ?_
  refine q_arg (k := 1) C (by decide) dL_law_984 dL_law_985 dL_law_986 dL_law_987 dL_law_988 h1 ?_
  refine q_arg (k := 2) C (by decide) dL_law_989 dL_law_990 dL_law_991 dL_law_992 dL_law_993 h2 ?_
  refine q_call C (rest := []) (As := [.int (xs (i + 1).toNatClampNeg), .int (xs (i + 2).toNatClampNeg)]) (c_X9_jobs (xs (i + 1).toNatClampNeg) (xs (i + 2).toNatClampNeg) M) e1 dL_law_994 u_894 in_41 (contW_41 g _ _ _ _ _) rfl u_895 u_896 mi_X9_jobs (by decide) (by decide) rfl rfl (by decide) (by omega) (by omega) ?_
  refine q_m C dL_law_997 ?_
  refine q_arg (k := 1) C (by decide) dL_law_998 dL_law_999 dL_law_1000 dL_law_1001 dL_law_1002 h1 ?_
  refine q_arg (k := 2) C (by decide) dL_law_1003 dL_law_1004 dL_law_1005 dL_law_1006 dL_law_1007 h2 ?_
  refine q_call C (rest := [.int r1.1]) (As := [.int (xs (i + 1).toNatClampNeg), .int (xs (i + 2).toNatClampNeg)]) (c_X10_jobs (xs (i + 1).toNatClampNeg) (xs (i + 2).toNatClampNeg) r1.2) e2 dL_law_1008 u_1520 in_50 (contW_50 g _ _ _ _ _) rfl u_1521 u_1522 mi_X10_jobs (by decide) (by decide) rfl rfl (Nat.le_of_ble_eq_true rfl) (by omega) (by omega) ?_
  show LSx y g b r2.2 _ _ 1011 i [.int r2.1, .int r1.1]
  exact q_eq (tgt := 1834) C he dL_law_1011 (by decide) (q_widen (by show cells + _ + _ ≤ _; omega) (by show slots + _ + _ ≤ _; omega) (kk _ hI2))
set_option maxHeartbeats 1000000 in
theorem lc_26 {y : Yw} {g : Gw} {b L : Nat} {xs : Nat → Int32} {M : Mw} {cells slots : Nat} {i : Int32} {Inv : Mw → Prop} (hT : gT g = 0) (C : LCw y b L xs g) (hI : Inv M) (hp : PK_at Inv) (h1 : vp_in (i + 1) L) (h2 : vp_in (i + 2) L) (h3 : vp_in (i + 3) L) (h4 : vp_in (i + 4) L) (h5 : vp_in (i + 5) L) (hc : cells + 2 ≤ 600000) (hs : slots + 12 ≤ 7302250) (kk : ∀ M : Mw, Inv M → LSx y g b M (cells + 2) (slots + 12) 1834 i []) : LSx y g b M cells slots 1016 i [] := by
  obtain ⟨r1, r2, e1, e2, he, hI2⟩ := hp M hI (xs (i + 1).toNatClampNeg) (xs (i + 2).toNatClampNeg)
  refine q_x C dL_law_1016 ?_
  refine q_arg (k := 1) C (by decide) dL_law_1017 dL_law_1018 dL_law_1019 dL_law_1020 dL_law_1021 h1 ?_
  refine q_arg (k := 2) C (by decide) dL_law_1022 dL_law_1023 dL_law_1024 dL_law_1025 dL_law_1026 h2 ?_
  refine q_call C (rest := []) (As := [.int (xs (i + 1).toNatClampNeg), .int (xs (i + 2).toNatClampNeg)]) (c_X9_at (xs (i + 1).toNatClampNeg) (xs (i + 2).toNatClampNeg) M) e1 dL_law_1027 u_898 in_41 (contW_41 g _ _ _ _ _) rfl u_899 u_900 mi_X9_at (by decide) (by decide) rfl rfl (by decide) (by omega) (by omega) ?_
  refine q_m C dL_law_1030 ?_
  refine q_arg (k := 1) C (by decide) dL_law_1031 dL_law_1032 dL_law_1033 dL_law_1034 dL_law_1035 h1 ?_
  refine q_arg (k := 2) C (by decide) dL_law_1036 dL_law_1037 dL_law_1038 dL_law_1039 dL_law_1040 h2 ?_
  refine q_call C (rest := [.int r1.1]) (As := [.int (xs (i + 1).toNatClampNeg), .int (xs (i + 2).toNatClampNeg)]) (c_X10_at (xs (i + 1).toNatClampNeg) (xs (i + 2).toNatClampNeg) r1.2) e2 dL_law_1041 u_1524 in_50 (contW_50 g _ _ _ _ _) rfl u_1525 u_1526 mi_X10_at (by decide) (by decide) rfl rfl (Nat.le_of_ble_eq_true rfl) (by omega) (by omega) ?_
  show LSx y g b r2.2 _ _ 1044 i [.int r2.1, .int r1.1]
  exact q_eq (tgt := 1834) C he dL_law_1044 (by decide) (q_widen (by show cells + _ + _ ≤ _; omega) (by show slots + _ + _ ≤ _; omega) (kk _ hI2))
set_option maxHeartbeats 1000000 in
theorem lc_27 {y : Yw} {g : Gw} {b L : Nat} {xs : Nat → Int32} {M : Mw} {cells slots : Nat} {i : Int32} {Inv : Mw → Prop} (hT : gT g = 0) (C : LCw y b L xs g) (hI : Inv M) (hp : PK_question Inv) (h1 : vp_in (i + 1) L) (h2 : vp_in (i + 2) L) (h3 : vp_in (i + 3) L) (h4 : vp_in (i + 4) L) (h5 : vp_in (i + 5) L) (hc : cells + 2 ≤ 600000) (hs : slots + 12 ≤ 7302250) (kk : ∀ M : Mw, Inv M → LSx y g b M (cells + 2) (slots + 12) 1834 i []) : LSx y g b M cells slots 1049 i [] := by
  obtain ⟨r1, r2, e1, e2, he, hI2⟩ := hp M hI (xs (i + 1).toNatClampNeg) (xs (i + 2).toNatClampNeg)
  refine q_x C dL_law_1049 ?_
  refine q_arg (k := 1) C (by decide) dL_law_1050 dL_law_1051 dL_law_1052 dL_law_1053 dL_law_1054 h1 ?_
  refine q_arg (k := 2) C (by decide) dL_law_1055 dL_law_1056 dL_law_1057 dL_law_1058 dL_law_1059 h2 ?_
  refine q_call C (rest := []) (As := [.int (xs (i + 1).toNatClampNeg), .int (xs (i + 2).toNatClampNeg)]) (c_X9_question (xs (i + 1).toNatClampNeg) (xs (i + 2).toNatClampNeg) M) e1 dL_law_1060 u_902 in_41 (contW_41 g _ _ _ _ _) rfl u_903 u_904 mi_X9_question (by decide) (by decide) rfl rfl (by decide) (by omega) (by omega) ?_
  refine q_m C dL_law_1063 ?_
  refine q_arg (k := 1) C (by decide) dL_law_1064 dL_law_1065 dL_law_1066 dL_law_1067 dL_law_1068 h1 ?_
  refine q_arg (k := 2) C (by decide) dL_law_1069 dL_law_1070 dL_law_1071 dL_law_1072 dL_law_1073 h2 ?_
  refine q_call C (rest := [.int r1.1]) (As := [.int (xs (i + 1).toNatClampNeg), .int (xs (i + 2).toNatClampNeg)]) (c_X10_question (xs (i + 1).toNatClampNeg) (xs (i + 2).toNatClampNeg) r1.2) e2 dL_law_1074 u_1528 in_50 (contW_50 g _ _ _ _ _) rfl u_1529 u_1530 mi_X10_question (by decide) (by decide) rfl rfl (Nat.le_of_ble_eq_true rfl) (by omega) (by omega) ?_
  show LSx y g b r2.2 _ _ 1077 i [.int r2.1, .int r1.1]
  exact q_eq (tgt := 1834) C he dL_law_1077 (by decide) (q_widen (by show cells + _ + _ ≤ _; omega) (by show slots + _ + _ ≤ _; omega) (kk _ hI2))
