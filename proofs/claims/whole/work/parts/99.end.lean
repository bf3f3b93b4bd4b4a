/-! ===== the end ===== -/
theorem ok_house : ∀ x0, ME (fun h => f_L_house h 0 x0 76) (fun h => f_X12_house h 57 x0) := by
  sorry
theorem ok_round : ∀ x0 x1, ME (fun h => f_L_round h 0 x0 x1 76) (fun h => f_X12_round h 57 x0 x1) := by
  sorry
theorem i_law : LawOK := lp_law JJ_m (sp_feed ok_feed) (sp_house ok_house) (sp_fault ok_fault) (sp_pane ok_pane) (sp_kind ok_kind) (sp_next ok_next) (sp_hated ok_hated) (sp_never ok_never) (sp_hang ok_hang) (sp_of ok_of) (sp_light ok_light) (sp_by ok_by) (sp_dark ok_dark) (sp_judge ok_judge) (sp_out ok_out) (sp_spare ok_spare) (sp_angry ok_angry) (sp_oil ok_oil) (sp_lights ok_lights) (sp_best ok_best) (sp_gap ok_gap) (sp_bright ok_bright) (sp_always ok_always) (sp_ever ok_ever) (sp_barred ok_barred) (sp_day ok_day) (sp_mixed ok_mixed) (sp_grid ok_grid) (sp_hole ok_hole) (sp_which ok_which) (sp_walk ok_walk) (sp_carry ok_carry) (sp_cost ok_cost) (sp_owed ok_owed) (sp_upper ok_upper) (sp_lower ok_lower) (sp_sooner ok_sooner) (sp_round ok_round) (sp_rule ok_rule) (sp_look ok_look) (sp_night ok_night) (sp_tray ok_tray) (sp_write ok_write) (sp_pour ok_pour) (sp_image ok_image) (sp_restore ok_restore) (sp_count ok_count) h_init JJ_room
theorem i_vc : Claimed_1_1 ∧ Claimed_1_2 := i_vc_open i_law
