/-! the tables of the abstract machine: which entry of a pool is which field, method or number -/
def am_cn : Nat → String := fun k => match k with
  | 0 => RX0
  | 1 => RX1
  | 2 => RX2
  | 3 => RX3
  | 4 => RX4
  | 5 => RX5
  | 6 => RX6
  | 7 => RX7
  | _ => RL
def am_cT : Nat → u_T := fun k => match k with
  | 0 => TX0
  | 1 => TX1
  | 2 => TX2
  | 3 => TX3
  | 4 => TX4
  | 5 => TX5
  | 6 => TX6
  | _ => TX7
def am_ty : Nat → Nat → FieldType := fun k => match k with
  | 0 => tyX0
  | 1 => tyX1
  | 2 => tyX2
  | 3 => tyX3
  | 4 => tyX4
  | 5 => tyX5
  | 6 => tyX6
  | _ => tyX7
def am_nf : Nat → Nat := fun k => match k with
  | 0 => 11
  | 1 => 2
  | 2 => 6
  | 3 => 2
  | 4 => 4
  | 5 => 2
  | 6 => 16
  | _ => 43
/-- name, code, locals, answer, own class, arguments (with this), frames, locals' room, static -/
abbrev am_MD : Type := MethodName × ByteArray × Nat × Option FieldType × Nat × Nat × Nat × Nat × Bool
def am_mds_0 : List (am_MD) := [(yX0_has, cX0_has, 2, (some .boolean), 0, 2, 0, 0, false), (yX0_take, cX0_take, 3, none, 0, 2, 1, 23, false), (yX0_takeTwo, cX0_takeTwo, 4, none, 0, 4, 1, 23, false), (yX0_takeSettings, cX0_takeSettings, 2, none, 0, 2, 0, 0, false), (yX0_takeRunner, cX0_takeRunner, 4, none, 0, 4, 0, 0, false), (yX0_setting, cX0_setting, 2, (some .int), 0, 2, 0, 0, false), (yX0_become, cX0_become, 3, none, 0, 3, 0, 0, false), (yX0_tenths, cX0_tenths, 2, (some .int), 0, 2, 1, 27, false), (yX0_tenthsFrom, cX0_tenthsFrom, 3, (some .int), 0, 3, 1, 27, false), (yX0_tenthsOver, cX0_tenthsOver, 8, (some .int), 0, 4, 0, 0, false), (yX0_more, cX0_more, 4, none, 0, 3, 0, 0, false), (yX0_mend, cX0_mend, 4, none, 0, 3, 1, 23, false), (yX0_startsAs, cX0_startsAs, 3, (some .boolean), 0, 2, 0, 0, false), (yX0_sum, cX0_sum, 4, (some .int), 0, 2, 0, 0, false), (yX0_eachOnce, cX0_eachOnce, 5, (some .boolean), 0, 2, 0, 0, false), (yX1_put, cX1_put, 3, (some .int), 1, 3, 2, 41, false), (yX1_drop, cX1_drop, 1, (some .int), 1, 1, 1, 21, false), (yX1_take, cX1_take, 2, none, 1, 2, 2, 43, false), (yX1_mend, cX1_mend, 5, none, 1, 3, 1, 23, false), (yX1_means, cX1_means, 3, (some .boolean), 1, 3, 0, 0, true), (yX2_draw, cX2_draw, 3, none, 2, 2, 2, 48, false), (yX2_put, cX2_put, 4, none, 2, 4, 1, 21, false), (yX2_allWays, cX2_allWays, 1, (some .int), 2, 1, 0, 0, false), (yX2_ways, cX2_ways, 2, (some .int), 2, 2, 2, 46, false), (yX2_waysAt, cX2_waysAt, 5, (some .int), 2, 3, 1, 22, false), (yX2_quarters, cX2_quarters, 3, (some .int), 2, 3, 0, 0, false), (yX2_uneven, cX2_uneven, 5, (some .int), 2, 1, 3, 67, false), (yX2_outcomes, cX2_outcomes, 3, (some .int), 2, 1, 0, 0, false), (yX2_deal, cX2_deal, 6, (some .int), 2, 2, 1, 23, false), (yX2_waysOf, cX2_waysOf, 6, (some .int), 2, 2, 2, 48, false), (yX2_gapInAllWays, cX2_gapInAllWays, 5, (some .int), 2, 1, 2, 48, false), (yX2_drawn, cX2_drawn, 6, (some .int), 2, 3, 3, 70, false), (yX2_asRule, cX2_asRule, 3, none, 2, 2, 2, 48, false), (yX2_goOn, cX2_goOn, 3, (some .int), 2, 2, 3, 70, false), (yX2_behind, cX2_behind, 2, none, 2, 2, 2, 46, false), (yX2_line, cX2_line, 4, none, 2, 1, 0, 0, false), (yX2_first, cX2_first, 1, (some .int), 2, 1, 0, 0, false), (yX2_last, cX2_last, 1, (some .int), 2, 1, 0, 0, false), (yX2_gap, cX2_gap, 1, (some .int), 2, 1, 0, 0, false), (yX2_digits, cX2_digits, 3, (some .int), 2, 1, 0, 0, false)]
def am_mds_1 : List (am_MD) := [(yX3_full, cX3_full, 1, (some .boolean), 3, 1, 0, 0, false), (yX3_put, cX3_put, 2, (some .int), 3, 2, 1, 20, false), (yX3_at, cX3_at, 2, (some .int), 3, 2, 0, 0, false), (yX3_drop, cX3_drop, 2, (some .int), 3, 1, 0, 0, false), (yX3_take, cX3_take, 3, none, 3, 2, 1, 21, false), (yX4_keep, cX4_keep, 3, none, 4, 2, 1, 22, false), (yX4_loseOldest, cX4_loseOldest, 3, none, 4, 1, 0, 0, false), (yX4_bring, cX4_bring, 3, (some .int), 4, 2, 0, 0, false), (yX4_drop, cX4_drop, 1, none, 4, 1, 0, 0, false), (yX5_tell, cX5_tell, 6, (some .int), 5, 2, 5, 114, false), (yX5_firstFault, cX5_firstFault, 4, (some .int), 5, 1, 3, 68, false), (yX5_behind, cX5_behind, 6, (some .int), 5, 2, 2, 43, false), (yX5_mostDigits, cX5_mostDigits, 1, (some .int), 5, 1, 0, 0, true), (yX5_digit, cX5_digit, 3, (some .int), 5, 2, 1, 21, false), (yX5_two, cX5_two, 2, (some .int), 5, 2, 2, 43, false), (yX5_comes, cX5_comes, 3, (some .boolean), 5, 3, 4, 92, false), (yX5_wayComes, cX5_wayComes, 5, (some .boolean), 5, 3, 2, 43, false), (yX5_runnerComes, cX5_runnerComes, 6, (some .boolean), 5, 3, 3, 64, false), (yX5_ruleComes, cX5_ruleComes, 5, (some .boolean), 5, 3, 2, 43, false), (yX5_startComes, cX5_startComes, 4, (some .boolean), 5, 3, 3, 64, false), (yX6_feed, cX6_feed, 2, (some .int), 6, 2, 2, 41, false), (yX6_lane, cX6_lane, 2, (some .int), 6, 1, 6, 139, false), (yX6_runner, cX6_runner, 3, (some .int), 6, 3, 2, 48, false), (yX6_start, cX6_start, 4, (some .int), 6, 3, 1, 22, false), (yX6_kind, cX6_kind, 5, (some .int), 6, 4, 1, 22, false), (yX6_set, cX6_set, 4, (some .int), 6, 3, 1, 22, false), (yX6_run, cX6_run, 1, (some .int), 6, 1, 4, 92, false), (yX6_order, cX6_order, 1, (some .int), 6, 1, 3, 70, false), (yX6_likely, cX6_likely, 3, (some .long), 6, 3, 3, 70, false), (yX6_ordered, cX6_ordered, 3, (some .long), 6, 3, 3, 73, false), (yX6_close, cX6_close, 4, (some .long), 6, 3, 4, 91, false), (yX6_sure, cX6_sure, 5, (some .int), 6, 2, 3, 70, false), (yX6_even, cX6_even, 8, (some .int), 6, 3, 3, 70, false), (yX6_starts, cX6_starts, 6, (some .int), 6, 3, 5, 118, false), (yX6_load, cX6_load, 6, (some .int), 6, 2, 4, 91, false), (yX6_on, cX6_on, 5, (some .int), 6, 4, 5, 116, false), (yX6_settles, cX6_settles, 3, (some .int), 6, 1, 4, 92, false), (yX6_best, cX6_best, 6, (some .int), 6, 2, 5, 116, false), (yX6_pays, cX6_pays, 3, (some .int), 6, 3, 6, 139, false), (yX6_worth, cX6_worth, 3, (some .int), 6, 3, 3, 71, false)]
def am_mds_2 : List (am_MD) := [(yX6_same, cX6_same, 6, (some .int), 6, 4, 3, 71, false), (yX6_teams, cX6_teams, 7, (some .int), 6, 2, 2, 51, false), (yX6_longer, cX6_longer, 3, (some .int), 6, 2, 3, 70, false), (yX6_fits, cX6_fits, 6, (some .int), 6, 3, 5, 113, false), (yX6_let, cX6_let, 4, (some .int), 6, 1, 3, 70, false), (yX6_row, cX6_row, 2, (some .int), 6, 2, 2, 41, false), (yX6_judge, cX6_judge, 2, (some .int), 6, 1, 5, 113, false), (yX6_clear, cX6_clear, 1, (some .int), 6, 1, 1, 21, false), (yX6_seeds, cX6_seeds, 9, (some .int), 6, 5, 4, 95, false), (yX6_back, cX6_back, 1, (some .int), 6, 1, 1, 22, false), (yX6_bag, cX6_bag, 2, (some .int), 6, 2, 2, 41, false), (yX6_empty, cX6_empty, 1, (some .int), 6, 1, 1, 21, false), (yX6_bags, cX6_bags, 8, (some .int), 6, 4, 4, 97, false), (yX6_ahead, cX6_ahead, 3, (some .int), 6, 3, 4, 93, false), (yX6_cup, cX6_cup, 4, (some .long), 6, 4, 5, 118, false), (yX6_bracket, cX6_bracket, 6, (some .int), 6, 2, 5, 118, false), (yX6_league, cX6_league, 3, (some .long), 6, 3, 5, 116, false), (yX6_ranks, cX6_ranks, 2, (some .int), 6, 1, 5, 116, false), (yX6_hold, cX6_hold, 7, (some .int), 6, 3, 4, 97, false), (yX6_legs, cX6_legs, 7, (some .int), 6, 5, 2, 51, false), (yX6_bet, cX6_bet, 1, (some .int), 6, 1, 5, 110, false), (yX6_bets, cX6_bets, 3, (some .long), 6, 2, 5, 110, false), (yX6_habit, cX6_habit, 3, (some .int), 6, 3, 3, 63, false), (yX6_forget, cX6_forget, 1, (some .int), 6, 1, 2, 41, false), (yX6_tried, cX6_tried, 4, (some .int), 6, 3, 5, 116, false), (yX6_had, cX6_had, 8, (some .int), 6, 5, 5, 116, false), (yX6_time, cX6_time, 2, (some .int), 6, 2, 2, 41, false), (yX6_past, cX6_past, 6, (some .int), 6, 3, 3, 70, false), (yX6_wipe, cX6_wipe, 1, (some .int), 6, 1, 1, 21, false), (yX6_image, cX6_image, 1, (some .int), 6, 1, 3, 64, false), (yX6_restore, cX6_restore, 1, (some .int), 6, 1, 3, 64, false), (yX6_count, cX6_count, 2, (some .int), 6, 2, 1, 23, false), (yX6_refuse, cX6_refuse, 3, (some .int), 6, 2, 0, 0, false), (yX6_refuseHigh, cX6_refuseHigh, 2, (some .int), 6, 2, 1, 22, false), (yX6_refuseLong, cX6_refuseLong, 2, (some .long), 6, 2, 1, 22, false), (yX6_noPart, cX6_noPart, 1, (some .boolean), 6, 1, 0, 0, true), (yX6_notTwo, cX6_notTwo, 3, (some .boolean), 6, 3, 1, 21, false), (yX6_fraction, cX6_fraction, 10, (some .long), 6, 3, 0, 0, true), (yX6_leastOf, cX6_leastOf, 1, (some .int), 6, 1, 0, 0, true), (yX6_mostOf, cX6_mostOf, 1, (some .int), 6, 1, 0, 0, true)]
def am_mds_3 : List (am_MD) := [(yX6_alone, cX6_alone, 3, (some .int), 6, 3, 2, 46, false), (yX6_sixteenths, cX6_sixteenths, 4, (some .int), 6, 3, 3, 70, false), (yX6_evenest, cX6_evenest, 8, (some .int), 6, 3, 4, 91, false), (yX6_putStarts, cX6_putStarts, 6, none, 6, 3, 2, 44, false), (yX6_winsIn, cX6_winsIn, 5, (some .int), 6, 3, 4, 92, false), (yX6_winsAs, cX6_winsAs, 4, (some .int), 6, 4, 5, 116, false), (yX6_gaps, cX6_gaps, 5, (some .int), 6, 3, 4, 92, false), (yX6_gained, cX6_gained, 3, (some .int), 6, 3, 2, 49, false), (yX6_apart, cX6_apart, 5, (some .int), 6, 2, 1, 27, false), (yX6_firstNotSo, cX6_firstNotSo, 2, (some .int), 6, 1, 4, 92, false), (yX6_carrying, cX6_carrying, 8, (some .int), 6, 4, 3, 70, false), (yX6_cupWays, cX6_cupWays, 6, (some .int), 6, 3, 4, 93, false), (yX6_leagueWays, cX6_leagueWays, 4, (some .int), 6, 2, 4, 93, false), (yX6_holdWorth, cX6_holdWorth, 8, (some .int), 6, 4, 3, 70, false), (yX6_relay, cX6_relay, 5, (some .int), 6, 4, 1, 27, false), (yX6_betsTold, cX6_betsTold, 2, (some .boolean), 6, 1, 1, 21, false), (yX6_bestBet, cX6_bestBet, 3, (some .int), 6, 1, 4, 88, false), (yX6_betWays, cX6_betWays, 2, (some .int), 6, 2, 3, 67, false), (yX6_tookThese, cX6_tookThese, 3, (some .boolean), 6, 2, 2, 48, false), (yX7_no, cX7_no, 2, (some .int), 7, 2, 0, 0, false), (yX7_lower, cX7_lower, 2, (some .int), 7, 2, 0, 0, false), (yX7_lowest, cX7_lowest, 2, (some .long), 7, 2, 0, 0, false), (yX7_isIn, cX7_isIn, 3, (some .boolean), 7, 3, 0, 0, true), (yX7_bound, cX7_bound, 3, (some .int), 7, 3, 0, 0, true), (yX7_atLeastOne, cX7_atLeastOne, 1, (some .int), 7, 1, 0, 0, true), (yX7_isRunner, cX7_isRunner, 2, (some .boolean), 7, 2, 0, 0, false), (yX7_areTwo, cX7_areTwo, 3, (some .boolean), 7, 3, 1, 21, false), (yX7_feed, cX7_feed, 3, (some .int), 7, 2, 1, 22, false), (yX7_next, cX7_next, 1, (some .int), 7, 1, 0, 0, false), (yX7_readsNumber, cX7_readsNumber, 6, (some .boolean), 7, 4, 1, 22, false), (yX7_readsRunner, cX7_readsRunner, 2, (some .boolean), 7, 2, 2, 47, false), (yX7_readsAll, cX7_readsAll, 3, (some .boolean), 7, 3, 3, 68, false), (yX7_statement, cX7_statement, 2, (some .boolean), 7, 1, 4, 90, false), (yX7_comesRunner, cX7_comesRunner, 2, (some .boolean), 7, 2, 1, 22, false), (yX7_comes, cX7_comes, 3, (some .boolean), 7, 2, 6, 131, false), (yX7_lane, cX7_lane, 3, (some .int), 7, 1, 7, 153, false), (yX7_passes, cX7_passes, 3, none, 7, 2, 0, 0, false), (yX7_passOne, cX7_passOne, 3, (some .int), 7, 2, 0, 0, false), (yX7_passesAll, cX7_passesAll, 3, none, 7, 3, 1, 22, false), (yX7_image, cX7_image, 1, (some .int), 7, 1, 2, 44, false)]
def am_mds_4 : List (am_MD) := [(yX7_restore, cX7_restore, 1, (some .int), 7, 1, 2, 44, false), (yX7_timeOver, cX7_timeOver, 8, (some .int), 7, 4, 1, 20, false), (yX7_timeBy, cX7_timeBy, 3, (some .int), 7, 3, 2, 47, false), (yX7_timeOf, cX7_timeOf, 2, (some .int), 7, 2, 3, 69, false), (yX7_sorts, cX7_sorts, 3, none, 7, 1, 0, 0, false), (yX7_takesTimes, cX7_takesTimes, 2, none, 7, 1, 4, 90, false), (yX7_partTime, cX7_partTime, 3, (some .int), 7, 3, 4, 90, false), (yX7_takesParts, cX7_takesParts, 3, none, 7, 2, 5, 112, false), (yX7_races, cX7_races, 1, (some .int), 7, 1, 0, 0, false), (yX7_held, cX7_held, 1, (some .int), 7, 1, 0, 0, true), (yX7_mends, cX7_mends, 4, none, 7, 1, 1, 20, false), (yX7_runs, cX7_runs, 1, (some .int), 7, 1, 5, 111, false), (yX7_runner, cX7_runner, 3, (some .int), 7, 3, 4, 90, false), (yX7_start, cX7_start, 5, (some .int), 7, 3, 1, 22, false), (yX7_kind, cX7_kind, 6, (some .int), 7, 4, 1, 22, false), (yX7_set, cX7_set, 5, (some .int), 7, 3, 1, 22, false), (yX7_run, cX7_run, 2, (some .int), 7, 1, 6, 131, false), (yX7_digits, cX7_digits, 3, (some .int), 7, 1, 0, 0, false), (yX7_keepsRun, cX7_keepsRun, 3, none, 7, 1, 0, 0, false), (yX7_back, cX7_back, 3, (some .int), 7, 1, 1, 21, false), (yX7_order, cX7_order, 1, (some .int), 7, 1, 5, 111, false), (yX7_findFirsts, cX7_findFirsts, 2, none, 7, 1, 6, 134, false), (yX7_uneven, cX7_uneven, 4, (some .int), 7, 1, 7, 155, false), (yX7_divisor, cX7_divisor, 10, (some .long), 7, 2, 0, 0, true), (yX7_partOf, cX7_partOf, 5, (some .long), 7, 3, 1, 29, true), (yX7_likely, cX7_likely, 3, (some .long), 7, 3, 7, 155, false), (yX7_isOrder, cX7_isOrder, 6, (some .boolean), 7, 2, 1, 21, false), (yX7_ordered, cX7_ordered, 5, (some .long), 7, 3, 6, 134, false), (yX7_gap, cX7_gap, 1, (some .int), 7, 1, 0, 0, false), (yX7_close, cX7_close, 7, (some .long), 7, 3, 8, 178, false), (yX7_sure, cX7_sure, 4, (some .int), 7, 2, 7, 155, false), (yX7_partBy, cX7_partBy, 3, (some .int), 7, 3, 1, 20, true), (yX7_aheadBy, cX7_aheadBy, 9, (some .int), 7, 5, 2, 42, false), (yX7_aheadOf, cX7_aheadOf, 3, (some .int), 7, 3, 4, 90, false), (yX7_even, cX7_even, 8, (some .int), 7, 3, 5, 112, false), (yX7_findStarts, cX7_findStarts, 7, none, 7, 2, 8, 178, false), (yX7_starts, cX7_starts, 7, (some .int), 7, 3, 9, 204, false), (yX7_load, cX7_load, 6, (some .int), 7, 2, 8, 178, false), (yX7_goesOn, cX7_goesOn, 4, none, 7, 3, 6, 131, false), (yX7_on, cX7_on, 5, (some .int), 7, 4, 7, 154, false)]
def am_mds_5 : List (am_MD) := [(yX7_startsNumber, cX7_startsNumber, 3, (some .int), 7, 1, 0, 0, false), (yX7_settles, cX7_settles, 4, (some .int), 7, 1, 6, 131, false), (yX7_gapsBy, cX7_gapsBy, 5, (some .int), 7, 3, 5, 111, false), (yX7_best, cX7_best, 5, (some .int), 7, 2, 6, 135, false), (yX7_pays, cX7_pays, 6, (some .int), 7, 3, 7, 154, false), (yX7_worthOf, cX7_worthOf, 3, (some .int), 7, 3, 3, 69, false), (yX7_worth, cX7_worth, 4, (some .int), 7, 3, 4, 91, false), (yX7_same, cX7_same, 6, (some .int), 7, 4, 4, 91, false), (yX7_apartBy, cX7_apartBy, 4, (some .int), 7, 2, 2, 47, false), (yX7_teams, cX7_teams, 5, (some .int), 7, 2, 3, 70, false), (yX7_longer, cX7_longer, 4, (some .int), 7, 2, 7, 155, false), (yX7_let, cX7_let, 5, (some .int), 7, 1, 5, 111, false), (yX7_bag, cX7_bag, 3, (some .int), 7, 2, 1, 22, false), (yX7_empty, cX7_empty, 2, (some .int), 7, 1, 0, 0, false), (yX7_bagsFar, cX7_bagsFar, 7, (some .int), 7, 4, 4, 90, false), (yX7_bags, cX7_bags, 7, (some .int), 7, 4, 5, 116, false), (yX7_ahead, cX7_ahead, 3, (some .int), 7, 3, 5, 112, false), (yX7_partner, cX7_partner, 2, (some .int), 7, 2, 0, 0, true), (yX7_cupParts, cX7_cupParts, 7, (some .long), 7, 3, 5, 112, false), (yX7_cup, cX7_cup, 5, (some .long), 7, 4, 6, 138, false), (yX7_bracket, cX7_bracket, 5, (some .int), 7, 2, 6, 138, false), (yX7_leaguePoints, cX7_leaguePoints, 4, (some .int), 7, 2, 5, 112, false), (yX7_league, cX7_league, 4, (some .long), 7, 3, 6, 135, false), (yX7_ranks, cX7_ranks, 2, (some .int), 7, 1, 6, 135, false), (yX7_worthOfPair, cX7_worthOfPair, 12, (some .int), 7, 4, 5, 112, false), (yX7_hold, cX7_hold, 6, (some .int), 7, 3, 6, 143, false), (yX7_legsBy, cX7_legsBy, 4, (some .int), 7, 4, 2, 47, false), (yX7_legs, cX7_legs, 8, (some .int), 7, 5, 3, 70, false), (yX7_areBets, cX7_areBets, 2, (some .boolean), 7, 1, 1, 22, false), (yX7_bestBet, cX7_bestBet, 3, (some .int), 7, 1, 7, 155, false), (yX7_bet, cX7_bet, 1, (some .int), 7, 1, 8, 177, false), (yX7_bets, cX7_bets, 4, (some .long), 7, 2, 8, 177, false), (yX7_habit, cX7_habit, 4, (some .int), 7, 3, 1, 22, false), (yX7_forget, cX7_forget, 2, (some .int), 7, 1, 0, 0, false), (yX7_isWhom, cX7_isWhom, 5, (some .boolean), 7, 3, 0, 0, false), (yX7_mendsByHabit, cX7_mendsByHabit, 3, none, 7, 1, 1, 24, false), (yX7_gapsByHabit, cX7_gapsByHabit, 4, (some .int), 7, 2, 5, 111, false), (yX7_tried, cX7_tried, 5, (some .int), 7, 3, 6, 135, false), (yX7_had, cX7_had, 10, (some .int), 7, 5, 7, 154, false), (yX7_time, cX7_time, 3, (some .int), 7, 2, 1, 22, false)]
def am_mds_6 : List (am_MD) := [(yX7_wipe, cX7_wipe, 2, (some .int), 7, 1, 0, 0, false), (yX7_hasTimes, cX7_hasTimes, 5, (some .boolean), 7, 2, 4, 90, false), (yX7_past, cX7_past, 9, (some .int), 7, 3, 5, 114, false), (yX7_row, cX7_row, 3, (some .int), 7, 2, 1, 22, false), (yX7_wrongAt, cX7_wrongAt, 3, (some .int), 7, 1, 6, 131, false), (yX7_fits, cX7_fits, 7, (some .int), 7, 3, 7, 153, false), (yX7_judge, cX7_judge, 2, (some .int), 7, 1, 7, 153, false), (yX7_clear, cX7_clear, 2, (some .int), 7, 1, 0, 0, false), (yX7_seeds, cX7_seeds, 11, (some .int), 7, 5, 5, 112, false), (yX7_count, cX7_count, 4, (some .int), 7, 2, 1, 22, false)]
def am_mds : List (am_MD) := am_mds_0 ++ am_mds_1 ++ am_mds_2 ++ am_mds_3 ++ am_mds_4 ++ am_mds_5 ++ am_mds_6
def am_ny : Nat := 251
def am_mdl : am_MD := (yL_law, cL_law, 4, (some .boolean), 8, 1, 12, 460, true)
def am_md : Nat → am_MD := fun y => match y with
  | 0 => am_mdl
  | k + 1 => am_mds.getD k am_mdl
theorem am_ny_len : am_mds.length + 1 = am_ny := by decide +kernel
theorem am_md_in {y : Nat} (h0 : 0 < y) (hy : y < am_ny) : am_md y ∈ am_mds := by
  obtain ⟨k, rfl⟩ : ∃ k, y = k + 1 := ⟨y - 1, by omega⟩
  have hk : k < am_mds.length := by have := am_ny_len; omega
  show am_mds.getD k am_mdl ∈ am_mds
  rw [List.getD_eq_getElem _ _ hk]
  exact List.getElem_mem hk
def am_fl_0 : List (Nat × Nat × Nat × Nat) := [(6, 10, 6, 0), (6, 16, 6, 1), (6, 19, 6, 2), (6, 22, 6, 3), (6, 28, 6, 4), (6, 35, 6, 5), (6, 44, 6, 6), (6, 48, 6, 7), (6, 51, 6, 8), (6, 54, 6, 9), (6, 60, 6, 10), (6, 64, 6, 11), (6, 70, 6, 12), (6, 74, 6, 13), (6, 80, 6, 14), (6, 83, 6, 15), (0, 9, 0, 0), (0, 15, 0, 1), (0, 18, 0, 2), (0, 21, 0, 3), (0, 24, 0, 4), (0, 27, 0, 5), (0, 31, 0, 6), (0, 34, 0, 7), (0, 37, 0, 8), (0, 40, 0, 9), (0, 43, 0, 10), (2, 9, 2, 0), (2, 15, 2, 1), (2, 19, 2, 2), (2, 22, 2, 3), (2, 25, 2, 4), (2, 28, 2, 5), (5, 14, 5, 0), (5, 23, 5, 1), (3, 7, 3, 1), (3, 19, 3, 0), (1, 12, 1, 0), (1, 18, 1, 1), (4, 13, 4, 0)]
def am_fl_1 : List (Nat × Nat × Nat × Nat) := [(4, 16, 4, 1), (4, 19, 4, 2), (4, 23, 4, 3), (7, 7, 7, 0), (7, 13, 7, 1), (7, 16, 7, 2), (7, 19, 7, 3), (7, 22, 7, 4), (7, 25, 7, 5), (7, 28, 7, 6), (7, 31, 7, 7), (7, 34, 7, 8), (7, 37, 7, 9), (7, 40, 7, 10), (7, 44, 7, 13), (7, 47, 7, 17), (7, 50, 7, 18), (7, 53, 7, 19), (7, 56, 7, 20), (7, 59, 7, 24), (7, 62, 7, 28), (7, 65, 7, 29), (7, 68, 7, 30), (7, 71, 7, 31), (7, 74, 7, 32), (7, 77, 7, 34), (7, 80, 7, 39), (7, 83, 7, 41), (6, 91, 5, 0), (7, 100, 7, 21), (5, 31, 3, 1), (5, 64, 0, 4), (5, 67, 0, 1), (5, 74, 0, 0), (5, 80, 0, 5), (5, 84, 0, 6), (5, 87, 0, 7), (5, 90, 0, 8), (5, 93, 0, 9), (5, 96, 0, 10)]
def am_fl_2 : List (Nat × Nat × Nat × Nat) := [(5, 99, 0, 2), (5, 102, 0, 3), (2, 98, 0, 10), (2, 31, 0, 4), (2, 111, 0, 1), (7, 107, 7, 22), (7, 124, 7, 23), (7, 154, 7, 33), (7, 161, 7, 27), (7, 157, 7, 26), (7, 168, 7, 15), (7, 174, 7, 16), (7, 137, 7, 11), (7, 134, 7, 12), (7, 89, 7, 14), (6, 119, 0, 5), (6, 122, 0, 6), (6, 125, 0, 7), (6, 128, 0, 8), (6, 131, 0, 9), (6, 137, 0, 10), (6, 153, 0, 4), (6, 157, 0, 1), (4, 30, 0, 9), (4, 35, 0, 10), (4, 37, 0, 1), (2, 37, 0, 8), (6, 289, 2, 0), (7, 258, 7, 35), (7, 261, 7, 36), (7, 270, 7, 38), (7, 267, 7, 37), (6, 227, 0, 2), (1, 33, 3, 1), (1, 37, 0, 4), (6, 247, 0, 0), (6, 270, 3, 1), (7, 315, 7, 42), (6, 266, 4, 3), (6, 287, 2, 4)]
def am_fl_3 : List (Nat × Nat × Nat × Nat) := [(6, 311, 1, 0), (7, 333, 7, 40), (7, 177, 7, 25), (6, 326, 0, 3)]
def am_fl : List (Nat × Nat × Nat × Nat) := am_fl_0 ++ am_fl_1 ++ am_fl_2 ++ am_fl_3
def am_ca_0 : List (Nat × Nat × Nat) := [(8, 13, 61), (6, 87, 113), (6, 94, 41), (6, 98, 42), (3, 23, 41), (8, 17, 148), (7, 96, 144), (7, 103, 140), (8, 18, 62), (6, 101, 2), (0, 46, 4), (0, 50, 5), (6, 105, 50), (5, 27, 51), (5, 39, 52), (5, 43, 43), (5, 46, 53), (5, 49, 54), (5, 35, 56), (5, 52, 57), (5, 55, 58), (5, 77, 55), (5, 58, 59), (5, 61, 60), (5, 105, 1), (5, 70, 34), (2, 88, 33), (2, 34, 8), (0, 54, 10), (2, 66, 36), (2, 91, 37), (2, 94, 1), (2, 101, 35), (2, 104, 38), (2, 107, 12), (0, 58, 11), (6, 109, 44), (6, 113, 49), (8, 22, 156), (7, 143, 153)]
def am_ca_1 : List (Nat × Nat × Nat) := [(7, 110, 149), (7, 127, 152), (7, 118, 150), (7, 114, 143), (7, 121, 151), (7, 147, 159), (7, 164, 157), (7, 171, 158), (7, 151, 155), (7, 131, 154), (7, 92, 146), (7, 140, 172), (7, 202, 166), (7, 190, 164), (7, 186, 163), (7, 183, 162), (7, 180, 145), (7, 193, 165), (7, 205, 171), (7, 199, 170), (8, 23, 63), (6, 115, 1), (6, 134, 8), (8, 27, 173), (8, 28, 64), (8, 31, 174), (8, 32, 65), (8, 36, 175), (8, 37, 66), (6, 140, 119), (6, 143, 120), (6, 146, 6), (6, 149, 7), (8, 40, 176), (8, 41, 67), (6, 160, 46), (4, 27, 47), (6, 163, 34), (8, 44, 177), (7, 208, 179)]
def am_ca_2 : List (Nat × Nat × Nat) := [(8, 45, 68), (6, 166, 33), (6, 169, 40), (8, 48, 181), (7, 211, 178), (8, 49, 69), (6, 172, 115), (6, 176, 116), (6, 179, 21), (2, 40, 22), (6, 182, 24), (2, 50, 25), (2, 53, 26), (6, 185, 23), (6, 188, 118), (8, 53, 186), (7, 228, 142), (7, 221, 182), (7, 214, 169), (7, 217, 168), (7, 196, 167), (7, 232, 185), (7, 224, 184), (8, 54, 70), (6, 192, 15), (6, 195, 30), (2, 69, 28), (2, 72, 29), (2, 75, 40), (8, 57, 188), (7, 236, 187), (8, 58, 71), (6, 198, 31), (2, 78, 39), (6, 201, 27), (2, 56, 23), (2, 60, 24), (8, 61, 190), (7, 239, 183), (7, 242, 189)]
def am_ca_3 : List (Nat × Nat × Nat) := [(8, 62, 72), (8, 65, 191), (8, 66, 73), (6, 204, 117), (6, 208, 121), (6, 341, 3), (8, 69, 195), (7, 252, 147), (7, 255, 194), (7, 248, 193), (7, 245, 192), (8, 70, 74), (6, 217, 123), (6, 345, 9), (6, 348, 124), (6, 351, 22), (8, 73, 197), (7, 264, 196), (8, 74, 75), (8, 77, 198), (8, 78, 76), (6, 220, 125), (8, 81, 200), (7, 273, 199), (8, 82, 77), (6, 223, 13), (8, 85, 202), (7, 277, 201), (8, 86, 78), (6, 230, 127), (6, 260, 39), (6, 354, 19), (1, 40, 43), (1, 43, 37), (1, 48, 38), (1, 51, 20), (1, 55, 11), (8, 89, 204), (7, 280, 203), (8, 90, 79)]
def am_ca_4 : List (Nat × Nat × Nat) := [(6, 234, 114), (6, 237, 126), (8, 93, 205), (7, 283, 141), (8, 94, 80), (6, 241, 128), (8, 97, 207), (7, 286, 206), (8, 98, 81), (8, 101, 208), (8, 102, 82), (6, 244, 129), (6, 358, 10), (8, 105, 210), (7, 289, 209), (8, 106, 83), (8, 109, 211), (8, 110, 84), (6, 250, 130), (6, 361, 43), (8, 113, 246), (7, 339, 245), (8, 114, 85), (6, 253, 37), (8, 117, 212), (8, 118, 86), (8, 121, 244), (8, 122, 87), (8, 125, 247), (8, 126, 88), (8, 129, 248), (8, 130, 89), (6, 256, 32), (2, 81, 21), (6, 263, 35), (8, 134, 249), (8, 135, 90), (6, 267, 48), (8, 138, 180), (8, 139, 91)]
def am_ca_5 : List (Nat × Nat × Nat) := [(8, 142, 213), (8, 143, 92), (8, 146, 214), (8, 147, 93), (6, 271, 131), (8, 150, 216), (7, 292, 215), (8, 151, 94), (6, 274, 122), (8, 154, 217), (8, 155, 95), (6, 277, 132), (8, 159, 220), (7, 298, 219), (7, 295, 218), (8, 160, 96), (8, 163, 221), (8, 164, 97), (6, 282, 133), (8, 167, 223), (7, 304, 222), (8, 168, 98), (6, 290, 36), (8, 171, 224), (8, 172, 99), (6, 293, 134), (8, 175, 226), (7, 309, 225), (8, 176, 100), (6, 296, 135), (8, 179, 228), (7, 312, 227), (8, 180, 101), (6, 302, 136), (6, 305, 137), (6, 308, 138), (8, 183, 231), (7, 318, 229), (7, 321, 230), (8, 184, 102)]
def am_ca_6 : List (Nat × Nat × Nat) := [(8, 188, 232), (8, 189, 103), (6, 314, 16), (1, 21, 42), (8, 192, 233), (8, 193, 104), (6, 316, 17), (1, 25, 44), (8, 196, 234), (8, 197, 105), (8, 200, 238), (7, 330, 237), (7, 327, 236), (7, 324, 235), (8, 201, 106), (8, 204, 239), (8, 205, 107), (8, 208, 240), (8, 209, 108), (6, 317, 139), (8, 212, 243), (7, 336, 242), (8, 213, 109), (8, 216, 241), (8, 217, 110), (6, 320, 45), (3, 30, 43), (6, 323, 18), (1, 29, 45), (8, 220, 160), (8, 221, 111), (8, 224, 161), (8, 225, 112), (6, 329, 14), (8, 228, 250)]
def am_ca : List (Nat × Nat × Nat) := am_ca_0 ++ am_ca_1 ++ am_ca_2 ++ am_ca_3 ++ am_ca_4 ++ am_ca_5 ++ am_ca_6
def am_ma : List (Nat × Nat × Nat) := [(3, 13, 0), (2, 44, 0), (2, 63, 1), (6, 212, 2), (6, 299, 1), (6, 338, 0), (3, 27, 1)]
def am_co : List (Nat × Nat × Int) := [(6, 333, 1000000000), (7, 86, 1000000000), (2, 85, 1103515245), (2, 86, 2147483647), (2, 87, 65536), (7, 342, 1103515245), (7, 343, 2147483647), (7, 344, 65536)]
def am_cl : List (Nat × Nat × Int) := [(6, 334, 4000000000000000000), (6, 336, 2), (7, 87, 4000000000000000000), (6, 280, 4096), (7, 302, 4096), (6, 285, 16), (7, 307, 16)]
def am_chunks : List (List Cond) := [wsL_law_r1, wsL_law_r2, wsL_law_r3, wsL_law_r4, wsL_law_r5, wsL_law_r6, wsL_law_r7, wsL_law_r8, wsL_law_r9, wsL_law_r10, wsL_law_r11, wsL_law_r12, wsL_law_r13, wsL_law_r14, wsL_law_r15, wsL_law_r16, wsL_law_r17, wsL_law_r18, wsL_law_r19, wsL_law_r20, wsL_law_r21, wsL_law_r22, wsL_law_r23, wsL_law_r24, wsL_law_r25, wsL_law_r26, wsL_law_r27, wsL_law_r28, wsL_law_r29, wsL_law_r30, wsL_law_r31, wsL_law_r32, wsL_law_r33, wsL_law_r34, wsL_law_r35, wsL_law_r36, wsL_law_r37, wsL_law_r38, wsL_law_r39, wsL_law_r40, wsL_law_r41, wsL_law_r42, wsL_law_r43, wsL_law_r44, wsL_law_r45, wsL_law_r46, wsL_law_r47, wsL_law_r48, wsL_law_r49, wsL_law_r50, wsL_law_r51, wsL_law_r52]
def am_big : List Cond := am_chunks.flatten ++ (wsX00 ++ (wsX10 ++ (wsX20 ++ (wsX30 ++ (wsX40 ++ (wsX50 ++ (wsX60 ++ wsX70)))))))
def am_flw (f : Nat × Nat × Nat × Nat) : Cond := .fieldLink (am_cn f.1) f.2.1 (am_cT f.2.2.1 f.2.2.2).1 (am_cT f.2.2.1 f.2.2.2).2.1 (am_cT f.2.2.1 f.2.2.2).2.2.1
def am_caw (f : Nat × Nat × Nat) : Cond := .methodLink (am_cn f.1) f.2.1 (am_md f.2.2).1
def am_man (k : Nat) : MethodName := match k with
  | 0 => Lib.Math.max.name
  | 1 => Lib.Math.min.name
  | _ => Lib.Math.abs.name
def am_maw (f : Nat × Nat × Nat) : Cond := .methodLink (am_cn f.1) f.2.1 (am_man f.2.2)
def am_cow (f : Nat × Nat × Int) : Cond := .constant (am_cn f.1) f.2.1 (Int32.ofInt f.2.2)
def am_clw (f : Nat × Nat × Int) : Cond := .constantLong (am_cn f.1) f.2.1 (Int64.ofInt f.2.2)
def am_cdw (q : am_MD) : Cond := .code q.1 q.2.1 q.2.2.1 q.2.2.2.1
def am_inw (q : am_MD) : Cond := if q.2.2.2.2.2.2.2.2 = true then .static q.1 else .instanceMethod q.1
def am_sew (q : am_MD) : Cond := .selects q.1.cls q.1 q.1
theorem am_big_of {ws : List Cond} {ps : List (Nat × Nat)} (h : ws = ps.filterMap (fun p => (am_chunks[p.1]?).bind (fun c => c[p.2]?))) : ∀ w ∈ ws, w ∈ am_big := by
  intro w hw
  rw [h] at hw
  obtain ⟨p, -, hp⟩ := List.mem_filterMap.mp hw
  obtain ⟨c, hc, hcw⟩ := Option.bind_eq_some_iff.mp hp
  exact List.mem_append_left _ (List.mem_flatten.mpr ⟨c, List.mem_of_getElem? hc, List.mem_of_getElem? hcw⟩)
set_option maxRecDepth 20000 in
theorem am_fl_in_0 : ∀ w ∈ am_fl_0.map am_flw, w ∈ am_big := am_big_of (ps := [(0, 15), (0, 16), (0, 17), (0, 18), (0, 22), (1, 2), (1, 6), (1, 7), (1, 8), (1, 9), (1, 13), (1, 14), (1, 18), (1, 20), (1, 22), (1, 23), (2, 4), (2, 5), (2, 6), (2, 7), (2, 8), (2, 9), (2, 10), (2, 11), (2, 12), (2, 13), (2, 14), (2, 19), (2, 20), (2, 21), (2, 22), (2, 23), (3, 0), (3, 6), (3, 8), (3, 13), (3, 18), (4, 2), (4, 3), (4, 10)]) rfl
set_option maxRecDepth 20000 in
theorem am_fl_in_1 : ∀ w ∈ am_fl_1.map am_flw, w ∈ am_big := am_big_of (ps := [(4, 11), (4, 12), (4, 13), (4, 18), (4, 19), (4, 20), (4, 21), (4, 22), (4, 23), (5, 0), (5, 1), (5, 2), (5, 3), (5, 4), (5, 5), (5, 6), (5, 7), (5, 8), (5, 9), (5, 10), (5, 11), (5, 12), (5, 13), (5, 14), (5, 15), (5, 16), (5, 17), (5, 18), (5, 23), (6, 17), (7, 21), (8, 21), (8, 22), (9, 3), (9, 8), (9, 9), (9, 10), (9, 11), (9, 12), (9, 13)]) rfl
set_option maxRecDepth 20000 in
theorem am_fl_in_2 : ∀ w ∈ am_fl_2.map am_flw, w ∈ am_big := am_big_of (ps := [(9, 22), (9, 23), (10, 12), (10, 17), (11, 15), (12, 16), (12, 17), (12, 18), (13, 22), (13, 23), (14, 0), (14, 1), (14, 2), (14, 3), (14, 4), (16, 15), (16, 16), (16, 17), (16, 18), (16, 19), (16, 20), (18, 21), (18, 22), (19, 3), (19, 4), (19, 5), (21, 4), (28, 11), (29, 1), (29, 6), (30, 3), (30, 4), (31, 5), (31, 15), (31, 16), (34, 14), (35, 16), (36, 2), (38, 12), (42, 20)]) rfl
set_option maxRecDepth 20000 in
theorem am_fl_in_3 : ∀ w ∈ am_fl_3.map am_flw, w ∈ am_big := am_big_of (ps := [(46, 2), (48, 13), (50, 9), (50, 22)]) rfl
theorem am_fl_in : ∀ f ∈ am_fl, am_flw f ∈ am_big := by
  intro f hf
  simp only [am_fl, List.mem_append] at hf
  rcases hf with (((hf | hf) | hf) | hf)
  · exact am_fl_in_0 _ (List.mem_map.mpr ⟨f, hf, rfl⟩)
  · exact am_fl_in_1 _ (List.mem_map.mpr ⟨f, hf, rfl⟩)
  · exact am_fl_in_2 _ (List.mem_map.mpr ⟨f, hf, rfl⟩)
  · exact am_fl_in_3 _ (List.mem_map.mpr ⟨f, hf, rfl⟩)
set_option maxRecDepth 20000 in
theorem am_ca_in_0 : ∀ w ∈ am_ca_0.map am_caw, w ∈ am_big := am_big_of (ps := [(5, 19), (6, 0), (6, 4), (6, 8), (6, 12), (6, 13), (6, 18), (6, 21), (7, 1), (7, 5), (7, 9), (7, 13), (7, 17), (7, 22), (8, 2), (8, 6), (8, 10), (8, 13), (8, 17), (8, 23), (9, 4), (9, 14), (9, 18), (10, 0), (10, 4), (10, 8), (10, 13), (10, 18), (10, 22), (11, 2), (11, 6), (11, 10), (11, 11), (11, 16), (11, 20), (12, 0), (12, 4), (12, 8), (12, 12), (12, 19)]) rfl
set_option maxRecDepth 20000 in
theorem am_ca_in_1 : ∀ w ∈ am_ca_1.map am_caw, w ∈ am_big := am_big_of (ps := [(12, 23), (13, 3), (13, 7), (13, 11), (13, 14), (13, 18), (14, 5), (14, 9), (14, 13), (14, 17), (14, 21), (15, 1), (15, 5), (15, 9), (15, 13), (15, 17), (15, 21), (16, 0), (16, 4), (16, 8), (16, 11), (16, 21), (16, 22), (16, 23), (17, 3), (17, 7), (17, 11), (17, 15), (17, 19), (17, 23), (18, 2), (18, 5), (18, 9), (18, 13), (18, 17), (18, 23), (19, 6), (19, 10), (19, 11), (19, 15)]) rfl
set_option maxRecDepth 20000 in
theorem am_ca_in_2 : ∀ w ∈ am_ca_2.map am_caw, w ∈ am_big := am_big_of (ps := [(19, 19), (19, 23), (20, 0), (20, 4), (20, 8), (20, 12), (20, 16), (20, 21), (21, 0), (21, 5), (21, 10), (21, 14), (21, 18), (21, 22), (22, 2), (22, 6), (22, 10), (22, 15), (22, 19), (22, 23), (23, 3), (23, 7), (23, 10), (23, 13), (23, 17), (23, 21), (24, 1), (24, 5), (24, 9), (24, 10), (24, 14), (24, 18), (24, 22), (25, 2), (25, 6), (25, 13), (25, 14), (25, 15), (25, 19), (25, 23)]) rfl
set_option maxRecDepth 20000 in
theorem am_ca_in_3 : ∀ w ∈ am_ca_3.map am_caw, w ∈ am_big := am_big_of (ps := [(26, 3), (26, 7), (26, 11), (26, 18), (26, 22), (27, 4), (27, 8), (27, 12), (27, 16), (27, 20), (28, 0), (28, 3), (28, 7), (28, 12), (28, 16), (28, 20), (28, 21), (29, 2), (29, 7), (29, 11), (29, 15), (29, 19), (29, 23), (30, 5), (30, 9), (30, 13), (30, 17), (30, 21), (31, 1), (31, 6), (31, 10), (31, 11), (31, 17), (31, 18), (31, 19), (31, 20), (31, 23), (32, 0), (32, 4), (32, 8)]) rfl
set_option maxRecDepth 20000 in
theorem am_ca_in_4 : ∀ w ∈ am_ca_4.map am_caw, w ∈ am_big := am_big_of (ps := [(32, 12), (32, 17), (32, 21), (33, 1), (33, 6), (33, 10), (33, 14), (33, 18), (33, 22), (34, 2), (34, 6), (34, 10), (34, 15), (34, 16), (34, 20), (35, 0), (35, 4), (35, 8), (35, 12), (35, 17), (35, 18), (35, 22), (36, 3), (36, 7), (36, 8), (36, 12), (36, 16), (36, 20), (37, 0), (37, 4), (37, 8), (37, 12), (37, 16), (37, 23), (38, 0), (38, 1), (38, 8), (38, 13), (38, 17), (38, 21)]) rfl
set_option maxRecDepth 20000 in
theorem am_ca_in_5 : ∀ w ∈ am_ca_5.map am_caw, w ∈ am_big := am_big_of (ps := [(39, 1), (39, 5), (39, 9), (39, 13), (39, 17), (39, 21), (40, 1), (40, 5), (40, 9), (40, 13), (40, 17), (40, 22), (41, 2), (41, 7), (41, 11), (41, 14), (41, 18), (41, 22), (42, 3), (42, 7), (42, 12), (42, 16), (42, 21), (42, 22), (43, 2), (43, 6), (43, 10), (43, 14), (43, 18), (43, 22), (44, 2), (44, 6), (44, 10), (44, 14), (44, 18), (44, 22), (45, 2), (45, 6), (45, 10), (45, 14)]) rfl
set_option maxRecDepth 20000 in
theorem am_ca_in_6 : ∀ w ∈ am_ca_6.map am_caw, w ∈ am_big := am_big_of (ps := [(45, 18), (45, 22), (46, 3), (46, 7), (46, 8), (46, 12), (46, 16), (46, 20), (46, 21), (47, 1), (47, 5), (47, 9), (47, 13), (47, 17), (47, 21), (48, 1), (48, 5), (48, 9), (48, 14), (48, 18), (48, 22), (49, 2), (49, 6), (49, 10), (49, 14), (49, 18), (49, 23), (50, 0), (50, 4), (50, 5), (50, 10), (50, 14), (50, 18), (50, 23), (51, 3)]) rfl
theorem am_ca_in : ∀ f ∈ am_ca, am_caw f ∈ am_big := by
  intro f hf
  simp only [am_ca, List.mem_append] at hf
  rcases hf with ((((((hf | hf) | hf) | hf) | hf) | hf) | hf)
  · exact am_ca_in_0 _ (List.mem_map.mpr ⟨f, hf, rfl⟩)
  · exact am_ca_in_1 _ (List.mem_map.mpr ⟨f, hf, rfl⟩)
  · exact am_ca_in_2 _ (List.mem_map.mpr ⟨f, hf, rfl⟩)
  · exact am_ca_in_3 _ (List.mem_map.mpr ⟨f, hf, rfl⟩)
  · exact am_ca_in_4 _ (List.mem_map.mpr ⟨f, hf, rfl⟩)
  · exact am_ca_in_5 _ (List.mem_map.mpr ⟨f, hf, rfl⟩)
  · exact am_ca_in_6 _ (List.mem_map.mpr ⟨f, hf, rfl⟩)
set_option maxRecDepth 20000 in
theorem am_ma_in_0 : ∀ w ∈ am_ma.map am_maw, w ∈ am_big := am_big_of (ps := [(3, 14), (21, 9), (25, 10), (26, 15), (27, 2), (27, 3), (49, 22)]) rfl
theorem am_ma_in : ∀ f ∈ am_ma, am_maw f ∈ am_big := fun f hf => am_ma_in_0 _ (List.mem_map.mpr ⟨f, hf, rfl⟩)
set_option maxRecDepth 20000 in
theorem am_co_in_0 : ∀ w ∈ am_co.map am_cow, w ∈ am_big := am_big_of (ps := [(32, 16), (33, 5), (37, 20), (37, 21), (37, 22), (38, 5), (38, 6), (38, 7)]) rfl
theorem am_co_in : ∀ f ∈ am_co, am_cow f ∈ am_big := fun f hf => am_co_in_0 _ (List.mem_map.mpr ⟨f, hf, rfl⟩)
set_option maxRecDepth 20000 in
theorem am_cl_in_0 : ∀ w ∈ am_cl.map am_clw, w ∈ am_big := am_big_of (ps := [(20, 20), (22, 5), (22, 14), (40, 21), (41, 6), (42, 2), (42, 11)]) rfl
theorem am_cl_in : ∀ f ∈ am_cl, am_clw f ∈ am_big := fun f hf => am_cl_in_0 _ (List.mem_map.mpr ⟨f, hf, rfl⟩)
def am_virt (q : am_MD) : Bool := !q.2.2.2.2.2.2.2.2
set_option maxRecDepth 20000 in
theorem am_cd_in_0 : ∀ w ∈ am_mds_0.map am_cdw, w ∈ am_big := am_big_of (ps := [(10, 7), (7, 8), (27, 7), (7, 12), (7, 16), (18, 8), (18, 12), (10, 21), (28, 15), (11, 1), (12, 3), (11, 23), (30, 16), (51, 2), (23, 20), (46, 6), (46, 19), (50, 3), (31, 14), (31, 22), (21, 3), (21, 8), (22, 1), (21, 13), (21, 17), (21, 21), (25, 9), (24, 4), (24, 8), (24, 0), (25, 1), (37, 19), (10, 16), (10, 11), (11, 14), (11, 5), (11, 9), (11, 19), (25, 5), (20, 3)]) rfl
set_option maxRecDepth 20000 in
theorem am_cd_in_1 : ∀ w ∈ am_mds_1.map am_cdw, w ∈ am_big := am_big_of (ps := [(6, 7), (6, 11), (8, 9), (12, 7), (49, 21), (19, 2), (19, 9), (38, 16), (12, 11), (7, 20), (8, 1), (8, 5), (8, 12), (8, 16), (9, 17), (8, 20), (9, 2), (9, 7), (9, 21), (10, 3), (5, 22), (7, 4), (16, 14), (17, 6), (17, 14), (17, 22), (18, 20), (19, 22), (20, 15), (23, 16), (24, 21), (26, 6), (26, 14), (28, 6), (29, 10), (29, 18), (30, 12), (31, 4), (32, 11), (33, 9)]) rfl
set_option maxRecDepth 20000 in
theorem am_cd_in_2 : ∀ w ∈ am_mds_2.map am_cdw, w ∈ am_big := am_big_of (ps := [(34, 1), (34, 9), (35, 3), (35, 11), (36, 6), (36, 15), (36, 23), (37, 7), (37, 15), (38, 11), (39, 0), (39, 8), (39, 16), (40, 8), (40, 20), (41, 17), (42, 1), (42, 19), (43, 5), (43, 21), (44, 13), (45, 17), (46, 1), (46, 15), (47, 4), (48, 0), (48, 8), (48, 17), (49, 9), (49, 17), (50, 13), (50, 21), (6, 3), (32, 15), (20, 19), (20, 23), (26, 21), (22, 4), (18, 1), (18, 4)]) rfl
set_option maxRecDepth 20000 in
theorem am_cd_in_3 : ∀ w ∈ am_mds_3.map am_cdw, w ∈ am_big := am_big_of (ps := [(27, 1), (40, 12), (28, 10), (28, 19), (29, 22), (32, 20), (31, 9), (33, 13), (34, 13), (35, 15), (39, 20), (41, 1), (42, 6), (43, 9), (44, 1), (44, 17), (44, 21), (45, 1), (48, 21), (7, 0), (33, 4), (22, 13), (13, 13), (6, 20), (15, 23), (15, 0), (27, 15), (6, 16), (13, 2), (13, 10), (13, 17), (13, 6), (12, 22), (14, 20), (14, 16), (12, 15), (14, 8), (14, 12), (13, 21), (50, 8)]) rfl
set_option maxRecDepth 20000 in
theorem am_cd_in_4 : ∀ w ∈ am_mds_4.map am_cdw, w ∈ am_big := am_big_of (ps := [(50, 17), (15, 20), (15, 16), (15, 12), (16, 3), (15, 8), (23, 6), (23, 2), (22, 22), (16, 10), (16, 7), (15, 4), (17, 2), (17, 10), (17, 18), (18, 16), (19, 14), (20, 11), (19, 18), (38, 20), (20, 7), (22, 18), (25, 22), (23, 12), (23, 9), (22, 9), (24, 17), (24, 13), (26, 2), (25, 18), (26, 10), (28, 2), (27, 23), (27, 19), (27, 11), (29, 5), (29, 0), (29, 14), (30, 8), (30, 2)]) rfl
set_option maxRecDepth 20000 in
theorem am_cd_in_5 : ∀ w ∈ am_mds_5.map am_cdw, w ∈ am_big := am_big_of (ps := [(31, 0), (30, 20), (32, 7), (32, 3), (33, 0), (33, 21), (33, 17), (34, 5), (34, 23), (34, 19), (35, 7), (36, 11), (39, 4), (39, 12), (40, 4), (40, 0), (40, 16), (41, 13), (41, 10), (41, 5), (41, 21), (42, 15), (42, 10), (43, 1), (43, 17), (43, 13), (44, 9), (44, 5), (45, 9), (45, 13), (45, 5), (45, 21), (46, 11), (47, 0), (47, 20), (47, 16), (47, 12), (47, 8), (48, 4), (48, 12)]) rfl
set_option maxRecDepth 20000 in
theorem am_cd_in_6 : ∀ w ∈ am_mds_6.map am_cdw, w ∈ am_big := am_big_of (ps := [(49, 13), (49, 5), (49, 1), (36, 19), (36, 1), (35, 21), (37, 3), (37, 11), (38, 4), (51, 6)]) rfl
theorem am_cd_in : ∀ f ∈ am_mds, am_cdw f ∈ am_big := by
  intro f hf
  simp only [am_mds, List.mem_append] at hf
  rcases hf with ((((((hf | hf) | hf) | hf) | hf) | hf) | hf)
  · exact am_cd_in_0 _ (List.mem_map.mpr ⟨f, hf, rfl⟩)
  · exact am_cd_in_1 _ (List.mem_map.mpr ⟨f, hf, rfl⟩)
  · exact am_cd_in_2 _ (List.mem_map.mpr ⟨f, hf, rfl⟩)
  · exact am_cd_in_3 _ (List.mem_map.mpr ⟨f, hf, rfl⟩)
  · exact am_cd_in_4 _ (List.mem_map.mpr ⟨f, hf, rfl⟩)
  · exact am_cd_in_5 _ (List.mem_map.mpr ⟨f, hf, rfl⟩)
  · exact am_cd_in_6 _ (List.mem_map.mpr ⟨f, hf, rfl⟩)
set_option maxRecDepth 20000 in
theorem am_inm_in_0 : ∀ w ∈ am_mds_0.map am_inw, w ∈ am_big := am_big_of (ps := [(10, 5), (7, 6), (27, 5), (7, 10), (7, 14), (18, 6), (18, 10), (10, 19), (28, 13), (10, 23), (12, 1), (11, 21), (30, 14), (51, 0), (23, 18), (46, 4), (46, 17), (50, 1), (31, 12), (31, 21), (21, 1), (21, 6), (21, 23), (21, 11), (21, 15), (21, 19), (25, 7), (24, 2), (24, 6), (23, 22), (24, 23), (37, 17), (10, 14), (10, 9), (11, 12), (11, 3), (11, 7), (11, 17), (25, 3), (20, 1)]) rfl
set_option maxRecDepth 20000 in
theorem am_inm_in_1 : ∀ w ∈ am_mds_1.map am_inw, w ∈ am_big := am_big_of (ps := [(6, 5), (6, 9), (8, 7), (12, 5), (49, 19), (19, 0), (19, 7), (38, 14), (12, 9), (7, 18), (7, 23), (8, 3), (8, 11), (8, 14), (9, 15), (8, 18), (9, 0), (9, 5), (9, 19), (10, 1), (5, 20), (7, 2), (16, 12), (17, 4), (17, 12), (17, 20), (18, 18), (19, 20), (20, 13), (23, 14), (24, 19), (26, 4), (26, 12), (28, 4), (29, 8), (29, 16), (30, 10), (31, 2), (32, 9), (33, 7)]) rfl
set_option maxRecDepth 20000 in
theorem am_inm_in_2 : ∀ w ∈ am_mds_2.map am_inw, w ∈ am_big := am_big_of (ps := [(33, 23), (34, 7), (35, 1), (35, 9), (36, 4), (36, 13), (36, 21), (37, 5), (37, 13), (38, 9), (38, 22), (39, 6), (39, 14), (40, 6), (40, 18), (41, 15), (41, 23), (42, 17), (43, 3), (43, 19), (44, 11), (45, 15), (45, 23), (46, 13), (47, 2), (47, 22), (48, 6), (48, 15), (49, 7), (49, 15), (50, 11), (50, 19), (6, 1), (32, 13), (20, 17), (20, 22), (26, 19), (22, 3), (18, 0), (18, 3)]) rfl
set_option maxRecDepth 20000 in
theorem am_inm_in_3 : ∀ w ∈ am_mds_3.map am_inw, w ∈ am_big := am_big_of (ps := [(26, 23), (40, 10), (28, 8), (28, 17), (29, 20), (32, 18), (31, 7), (33, 11), (34, 11), (35, 13), (39, 18), (40, 23), (42, 4), (43, 7), (43, 23), (44, 15), (44, 19), (44, 23), (48, 19), (6, 22), (33, 2), (22, 11), (13, 12), (6, 19), (15, 22), (14, 22), (27, 13), (6, 14), (13, 0), (13, 8), (13, 15), (13, 4), (12, 20), (14, 18), (14, 14), (12, 13), (14, 6), (14, 10), (13, 19), (50, 6)]) rfl
set_option maxRecDepth 20000 in
theorem am_inm_in_4 : ∀ w ∈ am_mds_4.map am_inw, w ∈ am_big := am_big_of (ps := [(50, 15), (15, 18), (15, 14), (15, 10), (16, 1), (15, 6), (23, 4), (23, 0), (22, 20), (16, 9), (16, 5), (15, 2), (17, 0), (17, 8), (17, 16), (18, 14), (19, 12), (20, 9), (19, 16), (38, 18), (20, 5), (22, 16), (25, 20), (23, 11), (23, 8), (22, 7), (24, 15), (24, 11), (26, 0), (25, 16), (26, 8), (28, 1), (27, 21), (27, 17), (27, 9), (29, 3), (28, 22), (29, 12), (30, 6), (30, 0)]) rfl
set_option maxRecDepth 20000 in
theorem am_inm_in_5 : ∀ w ∈ am_mds_5.map am_inw, w ∈ am_big := am_big_of (ps := [(30, 22), (30, 18), (32, 5), (32, 1), (32, 22), (33, 19), (33, 15), (34, 3), (34, 21), (34, 17), (35, 5), (36, 9), (39, 2), (39, 10), (40, 2), (39, 22), (40, 14), (41, 12), (41, 8), (41, 3), (41, 19), (42, 13), (42, 8), (42, 23), (43, 15), (43, 11), (44, 7), (44, 3), (45, 7), (45, 11), (45, 3), (45, 19), (46, 9), (46, 22), (47, 18), (47, 14), (47, 10), (47, 6), (48, 2), (48, 10)]) rfl
set_option maxRecDepth 20000 in
theorem am_inm_in_6 : ∀ w ∈ am_mds_6.map am_inw, w ∈ am_big := am_big_of (ps := [(49, 11), (49, 3), (48, 23), (36, 17), (35, 23), (35, 19), (37, 1), (37, 9), (38, 2), (51, 4)]) rfl
theorem am_inm_in : ∀ f ∈ am_mds, am_inw f ∈ am_big := by
  intro f hf
  simp only [am_mds, List.mem_append] at hf
  rcases hf with ((((((hf | hf) | hf) | hf) | hf) | hf) | hf)
  · exact am_inm_in_0 _ (List.mem_map.mpr ⟨f, hf, rfl⟩)
  · exact am_inm_in_1 _ (List.mem_map.mpr ⟨f, hf, rfl⟩)
  · exact am_inm_in_2 _ (List.mem_map.mpr ⟨f, hf, rfl⟩)
  · exact am_inm_in_3 _ (List.mem_map.mpr ⟨f, hf, rfl⟩)
  · exact am_inm_in_4 _ (List.mem_map.mpr ⟨f, hf, rfl⟩)
  · exact am_inm_in_5 _ (List.mem_map.mpr ⟨f, hf, rfl⟩)
  · exact am_inm_in_6 _ (List.mem_map.mpr ⟨f, hf, rfl⟩)
set_option maxRecDepth 20000 in
theorem am_se_in_0 : ∀ w ∈ (am_mds_0.filter am_virt).map am_sew, w ∈ am_big := am_big_of (ps := [(10, 6), (7, 7), (27, 6), (7, 11), (7, 15), (18, 7), (18, 11), (10, 20), (28, 14), (11, 0), (12, 2), (11, 22), (30, 15), (51, 1), (23, 19), (46, 5), (46, 18), (50, 2), (31, 13), (21, 2), (21, 7), (22, 0), (21, 12), (21, 16), (21, 20), (25, 8), (24, 3), (24, 7), (23, 23), (25, 0), (37, 18), (10, 15), (10, 10), (11, 13), (11, 4), (11, 8), (11, 18), (25, 4), (20, 2)]) rfl
set_option maxRecDepth 20000 in
theorem am_se_in_1 : ∀ w ∈ (am_mds_1.filter am_virt).map am_sew, w ∈ am_big := am_big_of (ps := [(6, 6), (6, 10), (8, 8), (12, 6), (49, 20), (19, 1), (19, 8), (38, 15), (12, 10), (7, 19), (8, 0), (8, 4), (8, 15), (9, 16), (8, 19), (9, 1), (9, 6), (9, 20), (10, 2), (5, 21), (7, 3), (16, 13), (17, 5), (17, 13), (17, 21), (18, 19), (19, 21), (20, 14), (23, 15), (24, 20), (26, 5), (26, 13), (28, 5), (29, 9), (29, 17), (30, 11), (31, 3), (32, 10), (33, 8)]) rfl
set_option maxRecDepth 20000 in
theorem am_se_in_2 : ∀ w ∈ (am_mds_2.filter am_virt).map am_sew, w ∈ am_big := am_big_of (ps := [(34, 0), (34, 8), (35, 2), (35, 10), (36, 5), (36, 14), (36, 22), (37, 6), (37, 14), (38, 10), (38, 23), (39, 7), (39, 15), (40, 7), (40, 19), (41, 16), (42, 0), (42, 18), (43, 4), (43, 20), (44, 12), (45, 16), (46, 0), (46, 14), (47, 3), (47, 23), (48, 7), (48, 16), (49, 8), (49, 16), (50, 12), (50, 20), (6, 2), (32, 14), (20, 18), (26, 20)]) rfl
set_option maxRecDepth 20000 in
theorem am_se_in_3 : ∀ w ∈ (am_mds_3.filter am_virt).map am_sew, w ∈ am_big := am_big_of (ps := [(27, 0), (40, 11), (28, 9), (28, 18), (29, 21), (32, 19), (31, 8), (33, 12), (34, 12), (35, 14), (39, 19), (41, 0), (42, 5), (43, 8), (44, 0), (44, 16), (44, 20), (45, 0), (48, 20), (6, 23), (33, 3), (22, 12), (14, 23), (27, 14), (6, 15), (13, 1), (13, 9), (13, 16), (13, 5), (12, 21), (14, 19), (14, 15), (12, 14), (14, 7), (14, 11), (13, 20), (50, 7)]) rfl
set_option maxRecDepth 20000 in
theorem am_se_in_4 : ∀ w ∈ (am_mds_4.filter am_virt).map am_sew, w ∈ am_big := am_big_of (ps := [(50, 16), (15, 19), (15, 15), (15, 11), (16, 2), (15, 7), (23, 5), (23, 1), (22, 21), (16, 6), (15, 3), (17, 1), (17, 9), (17, 17), (18, 15), (19, 13), (20, 10), (19, 17), (38, 19), (20, 6), (22, 17), (25, 21), (22, 8), (24, 16), (24, 12), (26, 1), (25, 17), (26, 9), (27, 22), (27, 18), (27, 10), (29, 4), (28, 23), (29, 13), (30, 7), (30, 1)]) rfl
set_option maxRecDepth 20000 in
theorem am_se_in_5 : ∀ w ∈ (am_mds_5.filter am_virt).map am_sew, w ∈ am_big := am_big_of (ps := [(30, 23), (30, 19), (32, 6), (32, 2), (32, 23), (33, 20), (33, 16), (34, 4), (34, 22), (34, 18), (35, 6), (36, 10), (39, 3), (39, 11), (40, 3), (39, 23), (40, 15), (41, 9), (41, 4), (41, 20), (42, 14), (42, 9), (43, 0), (43, 16), (43, 12), (44, 8), (44, 4), (45, 8), (45, 12), (45, 4), (45, 20), (46, 10), (46, 23), (47, 19), (47, 15), (47, 11), (47, 7), (48, 3), (48, 11)]) rfl
set_option maxRecDepth 20000 in
theorem am_se_in_6 : ∀ w ∈ (am_mds_6.filter am_virt).map am_sew, w ∈ am_big := am_big_of (ps := [(49, 12), (49, 4), (49, 0), (36, 18), (36, 0), (35, 20), (37, 2), (37, 10), (38, 3), (51, 5)]) rfl
theorem am_se_in : ∀ f ∈ am_mds, am_virt f = true → am_sew f ∈ am_big := by
  intro f hf hv
  simp only [am_mds, List.mem_append] at hf
  rcases hf with ((((((hf | hf) | hf) | hf) | hf) | hf) | hf)
  · exact am_se_in_0 _ (List.mem_map.mpr ⟨f, List.mem_filter.mpr ⟨hf, hv⟩, rfl⟩)
  · exact am_se_in_1 _ (List.mem_map.mpr ⟨f, List.mem_filter.mpr ⟨hf, hv⟩, rfl⟩)
  · exact am_se_in_2 _ (List.mem_map.mpr ⟨f, List.mem_filter.mpr ⟨hf, hv⟩, rfl⟩)
  · exact am_se_in_3 _ (List.mem_map.mpr ⟨f, List.mem_filter.mpr ⟨hf, hv⟩, rfl⟩)
  · exact am_se_in_4 _ (List.mem_map.mpr ⟨f, List.mem_filter.mpr ⟨hf, hv⟩, rfl⟩)
  · exact am_se_in_5 _ (List.mem_map.mpr ⟨f, List.mem_filter.mpr ⟨hf, hv⟩, rfl⟩)
  · exact am_se_in_6 _ (List.mem_map.mpr ⟨f, List.mem_filter.mpr ⟨hf, hv⟩, rfl⟩)
set_option maxRecDepth 20000 in
theorem am_ini_in_0 : ∀ w ∈ (List.range 8).map (fun k => Cond.initialized (am_cn k)), w ∈ am_big := am_big_of (ps := [(0, 14), (1, 12), (0, 21), (1, 5), (1, 17), (1, 1), (0, 2), (0, 5)]) rfl
theorem am_ini_in {k : Nat} (h : k < 8) : Cond.initialized (am_cn k) ∈ am_big := am_ini_in_0 _ (List.mem_map.mpr ⟨k, List.mem_range.mpr h, rfl⟩)
set_option maxRecDepth 20000 in
theorem am_mw_in : ∀ w ∈ [Cond.static Lib.Math.max.name, Cond.code Lib.Math.max.name Lib.Math.max.code 2 (some .int), Cond.static Lib.Math.min.name, Cond.code Lib.Math.min.name Lib.Math.min.code 2 (some .int), Cond.static Lib.Math.abs.name, Cond.code Lib.Math.abs.name Lib.Math.abs.code 1 (some .int), Cond.initialized "java/lang/Math"], w ∈ am_big := am_big_of (ps := [(3, 15), (3, 17), (25, 11), (25, 12), (26, 16), (26, 17), (3, 16)]) rfl
set_option maxRecDepth 20000 in
theorem am_big_good : am_big.all goodWord = true := by decide +kernel
theorem am_big_law : ∀ w ∈ am_big, w ∈ lw_tbl := by
  intro w hw
  refine wsL_law_in w ?_
  simp only [am_big, am_chunks, List.flatten_cons, List.flatten_nil, List.append_nil, List.mem_append] at hw
  simp only [wsL_law, List.mem_append, List.not_mem_nil, or_false]
  simp only [or_assoc] at hw ⊢
  revert hw
  intro hw
  repeat' (rcases hw with hw | hw)
  all_goals simp only [hw, true_or, or_true]
def am_okm (q : am_MD) : Bool := decide (q.1.cls = am_cn q.2.2.2.2.1) && decide (q.1.cls ≠ "java/lang/invoke/MethodHandle") && decide (q.1.cls ≠ "java/lang/invoke/VarHandle") && plainName q.1.cls && decide (q.2.2.2.2.1 < 8) && ((parseMethodDescriptor q.1.desc).map (fun d => d.parameters.length) == some (if q.2.2.2.2.2.2.2.2 = true then q.2.2.2.2.2.1 else q.2.2.2.2.2.1 - 1)) && (q.2.2.2.2.2.2.2.2 || decide (0 < q.2.2.2.2.2.1))
set_option maxRecDepth 20000 in
theorem am_okm_all : am_mds.all am_okm = true := by decide +kernel
/-- the world behind the constructors: an object of kind c (tag c + 2; a field: 0 a number, k + 1 the cell k), a row of numbers (tag 0, its length), a row of cells (tag 1) -/
def am_sh : List (Nat × List Nat) := [(8, [2, 9, 16, 23, 30, 36, 45, 47, 49, 51, 53, 58, 63, 79, 80, 0]), (2, [0, 0, 0, 0, 0, 3, 4, 5, 6, 7, 8]), (0, [4]), (0, [4]), (0, [4]), (0, [4]), (0, [4]), (0, [4]), (2, [0, 0, 0, 0, 0, 10, 11, 12, 13, 14, 15]), (0, [4]), (0, [4]), (0, [4]), (0, [4]), (0, [4]), (0, [4]), (2, [0, 0, 0, 0, 0, 17, 18, 19, 20, 21, 22]), (0, [4]), (0, [4]), (0, [4]), (0, [4]), (0, [4]), (0, [4]), (2, [0, 0, 0, 0, 0, 24, 25, 26, 27, 28, 29]), (0, [4]), (0, [4]), (0, [4]), (0, [4]), (0, [4]), (0, [4]), (4, [0, 31, 32, 33, 34, 35]), (0, [4]), (0, [4]), (0, [4]), (0, [4]), (0, [4]), (7, [37, 39]), (5, [38, 0]), (0, [96]), (4, [0, 40, 41, 42, 43, 44]), (0, [4]), (0, [4]), (0, [4]), (0, [4]), (0, [4]), (5, [46, 0]), (0, [12]), (5, [48, 0]), (0, [6]), (5, [50, 0]), (0, [6]), (5, [52, 0]), (0, [6]), (3, [54, 56]), (5, [55, 0]), (0, [4]), (5, [57, 0]), (0, [4]), (3, [59, 61]), (5, [60, 0]), (0, [4]), (5, [62, 0]), (0, [4]), (6, [64, 71, 78, 0]), (1, [64, 65, 66, 67, 68, 69]), (0, [4]), (0, [4]), (0, [4]), (0, [4]), (0, [4]), (0, [4]), (1, [71, 72, 73, 74, 75, 76]), (0, [4]), (0, [4]), (0, [4]), (0, [4]), (0, [4]), (0, [4]), (0, [6]), (0, [7]), (1, [80, 81, 82]), (0, [20]), (0, [20]), (0, [20]), (9, [85, 86, 87, 88, 89, 90, 91, 92, 93, 94, 0, 0, 0, 0, 0, 0, 0, 95, 96, 97, 98, 0, 0, 0, 99, 0, 0, 0, 100, 101, 102, 103, 104, 0, 105, 0, 0, 0, 0, 106, 0, 107, 0]), (0, [7]), (0, [4]), (0, [4]), (0, [4]), (0, [4]), (0, [4]), (0, [4]), (0, [6]), (0, [4]), (0, [4]), (0, [96]), (0, [48]), (0, [48]), (0, [240]), (0, [120]), (0, [4]), (0, [4]), (0, [24]), (0, [24]), (0, [6]), (0, [4]), (0, [6]), (0, [12])]
