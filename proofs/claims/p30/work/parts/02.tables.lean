/-! the tables of the abstract machine: which entry of a pool is which field, method or number -/
def am_cn : Nat → String := fun k => match k with
  | 0 => RX0
  | 1 => RX1
  | 2 => RX2
  | 3 => RX3
  | 4 => RX4
  | 5 => RX5
  | 6 => RX6
  | 7 => RX7
  | _ => RL
def am_cT : Nat → u_T := fun k => match k with
  | 0 => TX0
  | 1 => TX1
  | 2 => TX2
  | 3 => TX3
  | 4 => TX4
  | 5 => TX5
  | 6 => TX6
  | _ => TX7
def am_ty : Nat → Nat → FieldType := fun k => match k with
  | 0 => tyX0
  | 1 => tyX1
  | 2 => tyX2
  | 3 => tyX3
  | 4 => tyX4
  | 5 => tyX5
  | 6 => tyX6
  | _ => tyX7
def am_nf : Nat → Nat := fun k => match k with
  | 0 => 11
  | 1 => 2
  | 2 => 6
  | 3 => 2
  | 4 => 4
  | 5 => 2
  | 6 => 16
  | _ => 43
/-- name, code, locals, answer, own class, arguments (with this), frames, locals' room, static -/
abbrev am_MD : Type := MethodName × ByteArray × Nat × Option FieldType × Nat × Nat × Nat × Nat × Bool
def am_mds_0 : List (am_MD) := [(yX0_has, cX0_has, 2, (some .boolean), 0, 2, 0, 0, false), (yX0_take, cX0_take, 3, none, 0, 2, 1, 23, false), (yX0_takeTwo, cX0_takeTwo, 4, none, 0, 4, 1, 23, false), (yX0_takeSettings, cX0_takeSettings, 2, none, 0, 2, 0, 0, false), (yX0_takeRunner, cX0_takeRunner, 4, none, 0, 4, 0, 0, false), (yX0_setting, cX0_setting, 2, (some .int), 0, 2, 0, 0, false), (yX0_become, cX0_become, 3, none, 0, 3, 0, 0, false), (yX0_tenths, cX0_tenths, 2, (some .int), 0, 2, 1, 27, false), (yX0_tenthsFrom, cX0_tenthsFrom, 3, (some .int), 0, 3, 1, 27, false), (yX0_tenthsOver, cX0_tenthsOver, 8, (some .int), 0, 4, 0, 0, false), (yX0_more, cX0_more, 4, none, 0, 3, 0, 0, false), (yX0_mend, cX0_mend, 4, none, 0, 3, 1, 23, false), (yX0_startsAs, cX0_startsAs, 3, (some .boolean), 0, 2, 0, 0, false), (yX0_sum, cX0_sum, 4, (some .int), 0, 2, 0, 0, false), (yX0_eachOnce, cX0_eachOnce, 5, (some .boolean), 0, 2, 0, 0, false), (yX1_put, cX1_put, 3, (some .int), 1, 3, 2, 41, false), (yX1_drop, cX1_drop, 1, (some .int), 1, 1, 1, 21, false), (yX1_take, cX1_take, 2, none, 1, 2, 2, 43, false), (yX1_mend, cX1_mend, 5, none, 1, 3, 1, 23, false), (yX1_means, cX1_means, 3, (some .boolean), 1, 3, 0, 0, true), (yX2_draw, cX2_draw, 3, none, 2, 2, 2, 48, false), (yX2_put, cX2_put, 4, none, 2, 4, 1, 21, false), (yX2_allWays, cX2_allWays, 1, (some .int), 2, 1, 0, 0, false), (yX2_ways, cX2_ways, 2, (some .int), 2, 2, 2, 46, false), (yX2_waysAt, cX2_waysAt, 5, (some .int), 2, 3, 1, 22, false), (yX2_quarters, cX2_quarters, 3, (some .int), 2, 3, 0, 0, false), (yX2_uneven, cX2_uneven, 5, (some .int), 2, 1, 3, 67, false), (yX2_outcomes, cX2_outcomes, 3, (some .int), 2, 1, 0, 0, false), (yX2_deal, cX2_deal, 6, (some .int), 2, 2, 1, 23, false), (yX2_waysOf, cX2_waysOf, 6, (some .int), 2, 2, 2, 48, false), (yX2_gapInAllWays, cX2_gapInAllWays, 5, (some .int), 2, 1, 2, 48, false), (yX2_drawn, cX2_drawn, 6, (some .int), 2, 3, 3, 70, false), (yX2_asRule, cX2_asRule, 3, none, 2, 2, 2, 48, false), (yX2_goOn, cX2_goOn, 3, (some .int), 2, 2, 3, 70, false), (yX2_behind, cX2_behind, 2, none, 2, 2, 2, 46, false), (yX2_line, cX2_line, 4, none, 2, 1, 0, 0, false), (yX2_first, cX2_first, 1, (some .int), 2, 1, 0, 0, false), (yX2_last, cX2_last, 1, (some .int), 2, 1, 0, 0, false), (yX2_gap, cX2_gap, 1, (some .int), 2, 1, 0, 0, false), (yX2_digits, cX2_digits, 3, (some .int), 2, 1, 0, 0, false)]
def am_mds_1 : List (am_MD) := [(yX3_full, cX3_full, 1, (some .boolean), 3, 1, 0, 0, false), (yX3_put, cX3_put, 2, (some .int), 3, 2, 1, 20, false), (yX3_at, cX3_at, 2, (some .int), 3, 2, 0, 0, false), (yX3_drop, cX3_drop, 2, (some .int), 3, 1, 0, 0, false), (yX3_take, cX3_take, 3, none, 3, 2, 1, 21, false), (yX4_keep, cX4_keep, 3, none, 4, 2, 1, 22, false), (yX4_loseOldest, cX4_loseOldest, 3, none, 4, 1, 0, 0, false), (yX4_bring, cX4_bring, 3, (some .int), 4, 2, 0, 0, false), (yX4_drop, cX4_drop, 1, none, 4, 1, 0, 0, false), (yX5_tell, cX5_tell, 6, (some .int), 5, 2, 5, 114, false), (yX5_firstFault, cX5_firstFault, 4, (some .int), 5, 1, 3, 68, false), (yX5_behind, cX5_behind, 6, (some .int), 5, 2, 2, 43, false), (yX5_mostDigits, cX5_mostDigits, 1, (some .int), 5, 1, 0, 0, true), (yX5_digit, cX5_digit, 3, (some .int), 5, 2, 1, 21, false), (yX5_two, cX5_two, 2, (some .int), 5, 2, 2, 43, false), (yX5_comes, cX5_comes, 3, (some .boolean), 5, 3, 4, 92, false), (yX5_wayComes, cX5_wayComes, 5, (some .boolean), 5, 3, 2, 43, false), (yX5_runnerComes, cX5_runnerComes, 6, (some .boolean), 5, 3, 3, 64, false), (yX5_ruleComes, cX5_ruleComes, 5, (some .boolean), 5, 3, 2, 43, false), (yX5_startComes, cX5_startComes, 4, (some .boolean), 5, 3, 3, 64, false), (yX6_feed, cX6_feed, 2, (some .int), 6, 2, 2, 41, false), (yX6_lane, cX6_lane, 2, (some .int), 6, 1, 6, 139, false), (yX6_runner, cX6_runner, 3, (some .int), 6, 3, 2, 48, false), (yX6_start, cX6_start, 4, (some .int), 6, 3, 1, 22, false), (yX6_kind, cX6_kind, 5, (some .int), 6, 4, 1, 22, false), (yX6_set, cX6_set, 4, (some .int), 6, 3, 1, 22, false), (yX6_run, cX6_run, 1, (some .int), 6, 1, 4, 92, false), (yX6_order, cX6_order, 1, (some .int), 6, 1, 3, 70, false), (yX6_likely, cX6_likely, 3, (some .long), 6, 3, 3, 70, false), (yX6_ordered, cX6_ordered, 3, (some .long), 6, 3, 3, 73, false), (yX6_close, cX6_close, 4, (some .long), 6, 3, 4, 91, false), (yX6_sure, cX6_sure, 5, (some .int), 6, 2, 3, 70, false), (yX6_even, cX6_even, 8, (some .int), 6, 3, 3, 70, false), (yX6_starts, cX6_starts, 6, (some .int), 6, 3, 5, 118, false), (yX6_load, cX6_load, 6, (some .int), 6, 2, 4, 91, false), (yX6_on, cX6_on, 5, (some .int), 6, 4, 5, 116, false), (yX6_settles, cX6_settles, 3, (some .int), 6, 1, 4, 92, false), (yX6_best, cX6_best, 6, (some .int), 6, 2, 5, 116, false), (yX6_pays, cX6_pays, 3, (some .int), 6, 3, 6, 139, false), (yX6_worth, cX6_worth, 3, (some .int), 6, 3, 3, 71, false)]
def am_mds_2 : List (am_MD) := [(yX6_same, cX6_same, 6, (some .int), 6, 4, 3, 71, false), (yX6_teams, cX6_teams, 7, (some .int), 6, 2, 2, 51, false), (yX6_longer, cX6_longer, 3, (some .int), 6, 2, 3, 70, false), (yX6_fits, cX6_fits, 6, (some .int), 6, 3, 5, 113, false), (yX6_let, cX6_let, 4, (some .int), 6, 1, 3, 70, false), (yX6_row, cX6_row, 2, (some .int), 6, 2, 2, 41, false), (yX6_judge, cX6_judge, 2, (some .int), 6, 1, 5, 113, false), (yX6_clear, cX6_clear, 1, (some .int), 6, 1, 1, 21, false), (yX6_seeds, cX6_seeds, 9, (some .int), 6, 5, 4, 95, false), (yX6_back, cX6_back, 1, (some .int), 6, 1, 1, 22, false), (yX6_bag, cX6_bag, 2, (some .int), 6, 2, 2, 41, false), (yX6_empty, cX6_empty, 1, (some .int), 6, 1, 1, 21, false), (yX6_bags, cX6_bags, 8, (some .int), 6, 4, 4, 97, false), (yX6_ahead, cX6_ahead, 3, (some .int), 6, 3, 4, 93, false), (yX6_cup, cX6_cup, 4, (some .long), 6, 4, 5, 118, false), (yX6_bracket, cX6_bracket, 6, (some .int), 6, 2, 5, 118, false), (yX6_league, cX6_league, 3, (some .long), 6, 3, 5, 116, false), (yX6_ranks, cX6_ranks, 2, (some .int), 6, 1, 5, 116, false), (yX6_hold, cX6_hold, 7, (some .int), 6, 3, 4, 97, false), (yX6_legs, cX6_legs, 7, (some .int), 6, 5, 2, 51, false), (yX6_bet, cX6_bet, 1, (some .int), 6, 1, 5, 110, false), (yX6_bets, cX6_bets, 3, (some .long), 6, 2, 5, 110, false), (yX6_habit, cX6_habit, 3, (some .int), 6, 3, 3, 63, false), (yX6_forget, cX6_forget, 1, (some .int), 6, 1, 2, 41, false), (yX6_tried, cX6_tried, 4, (some .int), 6, 3, 5, 116, false), (yX6_had, cX6_had, 8, (some .int), 6, 5, 5, 116, false), (yX6_time, cX6_time, 2, (some .int), 6, 2, 2, 41, false), (yX6_past, cX6_past, 6, (some .int), 6, 3, 3, 70, false), (yX6_wipe, cX6_wipe, 1, (some .int), 6, 1, 1, 21, false), (yX6_image, cX6_image, 1, (some .int), 6, 1, 3, 64, false), (yX6_restore, cX6_restore, 1, (some .int), 6, 1, 3, 64, false), (yX6_count, cX6_count, 2, (some .int), 6, 2, 1, 23, false), (yX6_refuse, cX6_refuse, 3, (some .int), 6, 2, 0, 0, false), (yX6_refuseHigh, cX6_refuseHigh, 2, (some .int), 6, 2, 1, 22, false), (yX6_refuseLong, cX6_refuseLong, 2, (some .long), 6, 2, 1, 22, false), (yX6_noPart, cX6_noPart, 1, (some .boolean), 6, 1, 0, 0, true), (yX6_notTwo, cX6_notTwo, 3, (some .boolean), 6, 3, 1, 21, false), (yX6_fraction, cX6_fraction, 10, (some .long), 6, 3, 0, 0, true), (yX6_leastOf, cX6_leastOf, 1, (some .int), 6, 1, 0, 0, true), (yX6_mostOf, cX6_mostOf, 1, (some .int), 6, 1, 0, 0, true)]
def am_mds_3 : List (am_MD) := [(yX6_alone, cX6_alone, 3, (some .int), 6, 3, 2, 46, false), (yX6_sixteenths, cX6_sixteenths, 4, (some .int), 6, 3, 3, 70, false), (yX6_evenest, cX6_evenest, 8, (some .int), 6, 3, 4, 91, false), (yX6_putStarts, cX6_putStarts, 6, none, 6, 3, 2, 44, false), (yX6_winsIn, cX6_winsIn, 5, (some .int), 6, 3, 4, 92, false), (yX6_winsAs, cX6_winsAs, 4, (some .int), 6, 4, 5, 116, false), (yX6_gaps, cX6_gaps, 5, (some .int), 6, 3, 4, 92, false), (yX6_gained, cX6_gained, 3, (some .int), 6, 3, 2, 49, false), (yX6_apart, cX6_apart, 5, (some .int), 6, 2, 1, 27, false), (yX6_firstNotSo, cX6_firstNotSo, 2, (some .int), 6, 1, 4, 92, false), (yX6_carrying, cX6_carrying, 8, (some .int), 6, 4, 3, 70, false), (yX6_cupWays, cX6_cupWays, 6, (some .int), 6, 3, 4, 93, false), (yX6_leagueWays, cX6_leagueWays, 4, (some .int), 6, 2, 4, 93, false), (yX6_holdWorth, cX6_holdWorth, 8, (some .int), 6, 4, 3, 70, false), (yX6_relay, cX6_relay, 5, (some .int), 6, 4, 1, 27, false), (yX6_betsTold, cX6_betsTold, 2, (some .boolean), 6, 1, 1, 21, false), (yX6_bestBet, cX6_bestBet, 3, (some .int), 6, 1, 4, 88, false), (yX6_betWays, cX6_betWays, 2, (some .int), 6, 2, 3, 67, false), (yX6_tookThese, cX6_tookThese, 3, (some .boolean), 6, 2, 2, 48, false), (yX7_no, cX7_no, 2, (some .int), 7, 2, 0, 0, false), (yX7_lower, cX7_lower, 2, (some .int), 7, 2, 0, 0, false), (yX7_lowest, cX7_lowest, 2, (some .long), 7, 2, 0, 0, false), (yX7_isIn, cX7_isIn, 3, (some .boolean), 7, 3, 0, 0, true), (yX7_bound, cX7_bound, 3, (some .int), 7, 3, 0, 0, true), (yX7_atLeastOne, cX7_atLeastOne, 1, (some .int), 7, 1, 0, 0, true), (yX7_isRunner, cX7_isRunner, 2, (some .boolean), 7, 2, 0, 0, false), (yX7_areTwo, cX7_areTwo, 3, (some .boolean), 7, 3, 1, 21, false), (yX7_feed, cX7_feed, 3, (some .int), 7, 2, 1, 22, false), (yX7_next, cX7_next, 1, (some .int), 7, 1, 0, 0, false), (yX7_readsNumber, cX7_readsNumber, 6, (some .boolean), 7, 4, 1, 22, false), (yX7_readsRunner, cX7_readsRunner, 2, (some .boolean), 7, 2, 2, 47, false), (yX7_readsAll, cX7_readsAll, 3, (some .boolean), 7, 3, 3, 68, false), (yX7_statement, cX7_statement, 2, (some .boolean), 7, 1, 4, 90, false), (yX7_comesRunner, cX7_comesRunner, 2, (some .boolean), 7, 2, 1, 22, false), (yX7_comes, cX7_comes, 3, (some .boolean), 7, 2, 6, 131, false), (yX7_lane, cX7_lane, 3, (some .int), 7, 1, 7, 153, false), (yX7_passes, cX7_passes, 3, none, 7, 2, 0, 0, false), (yX7_passOne, cX7_passOne, 3, (some .int), 7, 2, 0, 0, false), (yX7_passesAll, cX7_passesAll, 3, none, 7, 3, 1, 22, false), (yX7_image, cX7_image, 1, (some .int), 7, 1, 2, 44, false)]
def am_mds_4 : List (am_MD) := [(yX7_restore, cX7_restore, 1, (some .int), 7, 1, 2, 44, false), (yX7_timeOver, cX7_timeOver, 8, (some .int), 7, 4, 1, 20, false), (yX7_timeBy, cX7_timeBy, 3, (some .int), 7, 3, 2, 47, false), (yX7_timeOf, cX7_timeOf, 2, (some .int), 7, 2, 3, 69, false), (yX7_sorts, cX7_sorts, 3, none, 7, 1, 0, 0, false), (yX7_takesTimes, cX7_takesTimes, 2, none, 7, 1, 4, 90, false), (yX7_partTime, cX7_partTime, 3, (some .int), 7, 3, 4, 90, false), (yX7_takesParts, cX7_takesParts, 3, none, 7, 2, 5, 112, false), (yX7_races, cX7_races, 1, (some .int), 7, 1, 0, 0, false), (yX7_held, cX7_held, 1, (some .int), 7, 1, 0, 0, true), (yX7_mends, cX7_mends, 4, none, 7, 1, 1, 20, false), (yX7_runs, cX7_runs, 1, (some .int), 7, 1, 5, 111, false), (yX7_runner, cX7_runner, 3, (some .int), 7, 3, 4, 90, false), (yX7_start, cX7_start, 5, (some .int), 7, 3, 1, 22, false), (yX7_kind, cX7_kind, 6, (some .int), 7, 4, 1, 22, false), (yX7_set, cX7_set, 5, (some .int), 7, 3, 1, 22, false), (yX7_run, cX7_run, 2, (some .int), 7, 1, 6, 131, false), (yX7_digits, cX7_digits, 3, (some .int), 7, 1, 0, 0, false), (yX7_keepsRun, cX7_keepsRun, 3, none, 7, 1, 0, 0, false), (yX7_back, cX7_back, 3, (some .int), 7, 1, 1, 21, false), (yX7_order, cX7_order, 1, (some .int), 7, 1, 5, 111, false), (yX7_findFirsts, cX7_findFirsts, 2, none, 7, 1, 6, 134, false), (yX7_uneven, cX7_uneven, 4, (some .int), 7, 1, 7, 155, false), (yX7_divisor, cX7_divisor, 10, (some .long), 7, 2, 0, 0, true), (yX7_partOf, cX7_partOf, 5, (some .long), 7, 3, 1, 29, true), (yX7_likely, cX7_likely, 3, (some .long), 7, 3, 7, 155, false), (yX7_isOrder, cX7_isOrder, 6, (some .boolean), 7, 2, 1, 21, false), (yX7_ordered, cX7_ordered, 5, (some .long), 7, 3, 6, 134, false), (yX7_gap, cX7_gap, 1, (some .int), 7, 1, 0, 0, false), (yX7_close, cX7_close, 7, (some .long), 7, 3, 8, 178, false), (yX7_sure, cX7_sure, 4, (some .int), 7, 2, 7, 155, false), (yX7_partBy, cX7_partBy, 3, (some .int), 7, 3, 1, 20, true), (yX7_aheadBy, cX7_aheadBy, 9, (some .int), 7, 5, 2, 42, false), (yX7_aheadOf, cX7_aheadOf, 3, (some .int), 7, 3, 4, 90, false), (yX7_even, cX7_even, 8, (some .int), 7, 3, 5, 112, false), (yX7_findStarts, cX7_findStarts, 7, none, 7, 2, 8, 178, false), (yX7_starts, cX7_starts, 7, (some .int), 7, 3, 9, 204, false), (yX7_load, cX7_load, 6, (some .int), 7, 2, 8, 178, false), (yX7_goesOn, cX7_goesOn, 4, none, 7, 3, 6, 131, false), (yX7_on, cX7_on, 5, (some .int), 7, 4, 7, 154, false)]
def am_mds_5 : List (am_MD) := [(yX7_startsNumber, cX7_startsNumber, 3, (some .int), 7, 1, 0, 0, false), (yX7_settles, cX7_settles, 4, (some .int), 7, 1, 6, 131, false), (yX7_gapsBy, cX7_gapsBy, 5, (some .int), 7, 3, 5, 111, false), (yX7_best, cX7_best, 5, (some .int), 7, 2, 6, 135, false), (yX7_pays, cX7_pays, 6, (some .int), 7, 3, 7, 154, false), (yX7_worthOf, cX7_worthOf, 3, (some .int), 7, 3, 3, 69, false), (yX7_worth, cX7_worth, 4, (some .int), 7, 3, 4, 91, false), (yX7_same, cX7_same, 6, (some .int), 7, 4, 4, 91, false), (yX7_apartBy, cX7_apartBy, 4, (some .int), 7, 2, 2, 47, false), (yX7_teams, cX7_teams, 5, (some .int), 7, 2, 3, 70, false), (yX7_longer, cX7_longer, 4, (some .int), 7, 2, 7, 155, false), (yX7_let, cX7_let, 5, (some .int), 7, 1, 5, 111, false), (yX7_bag, cX7_bag, 3, (some .int), 7, 2, 1, 22, false), (yX7_empty, cX7_empty, 2, (some .int), 7, 1, 0, 0, false), (yX7_bagsFar, cX7_bagsFar, 7, (some .int), 7, 4, 4, 90, false), (yX7_bags, cX7_bags, 7, (some .int), 7, 4, 5, 116, false), (yX7_ahead, cX7_ahead, 3, (some .int), 7, 3, 5, 112, false), (yX7_partner, cX7_partner, 2, (some .int), 7, 2, 0, 0, true), (yX7_cupParts, cX7_cupParts, 7, (some .long), 7, 3, 5, 112, false), (yX7_cup, cX7_cup, 5, (some .long), 7, 4, 6, 138, false), (yX7_bracket, cX7_bracket, 5, (some .int), 7, 2, 6, 138, false), (yX7_leaguePoints, cX7_leaguePoints, 4, (some .int), 7, 2, 5, 112, false), (yX7_league, cX7_league, 4, (some .long), 7, 3, 6, 135, false), (yX7_ranks, cX7_ranks, 2, (some .int), 7, 1, 6, 135, false), (yX7_worthOfPair, cX7_worthOfPair, 12, (some .int), 7, 4, 5, 112, false), (yX7_hold, cX7_hold, 6, (some .int), 7, 3, 6, 143, false), (yX7_legsBy, cX7_legsBy, 4, (some .int), 7, 4, 2, 47, false), (yX7_legs, cX7_legs, 8, (some .int), 7, 5, 3, 70, false), (yX7_areBets, cX7_areBets, 2, (some .boolean), 7, 1, 1, 22, false), (yX7_bestBet, cX7_bestBet, 3, (some .int), 7, 1, 7, 155, false), (yX7_bet, cX7_bet, 1, (some .int), 7, 1, 8, 177, false), (yX7_bets, cX7_bets, 4, (some .long), 7, 2, 8, 177, false), (yX7_habit, cX7_habit, 4, (some .int), 7, 3, 1, 22, false), (yX7_forget, cX7_forget, 2, (some .int), 7, 1, 0, 0, false), (yX7_isWhom, cX7_isWhom, 5, (some .boolean), 7, 3, 0, 0, false), (yX7_mendsByHabit, cX7_mendsByHabit, 3, none, 7, 1, 1, 24, false), (yX7_gapsByHabit, cX7_gapsByHabit, 4, (some .int), 7, 2, 5, 111, false), (yX7_tried, cX7_tried, 5, (some .int), 7, 3, 6, 135, false), (yX7_had, cX7_had, 10, (some .int), 7, 5, 7, 154, false), (yX7_time, cX7_time, 3, (some .int), 7, 2, 1, 22, false)]
def am_mds_6 : List (am_MD) := [(yX7_wipe, cX7_wipe, 2, (some .int), 7, 1, 0, 0, false), (yX7_hasTimes, cX7_hasTimes, 5, (some .boolean), 7, 2, 4, 90, false), (yX7_past, cX7_past, 9, (some .int), 7, 3, 5, 114, false), (yX7_row, cX7_row, 3, (some .int), 7, 2, 1, 22, false), (yX7_wrongAt, cX7_wrongAt, 3, (some .int), 7, 1, 6, 131, false), (yX7_fits, cX7_fits, 7, (some .int), 7, 3, 7, 153, false), (yX7_judge, cX7_judge, 2, (some .int), 7, 1, 7, 153, false), (yX7_clear, cX7_clear, 2, (some .int), 7, 1, 0, 0, false), (yX7_seeds, cX7_seeds, 11, (some .int), 7, 5, 5, 112, false), (yX7_count, cX7_count, 4, (some .int), 7, 2, 1, 22, false)]
def am_mds : List (am_MD) := am_mds_0 ++ am_mds_1 ++ am_mds_2 ++ am_mds_3 ++ am_mds_4 ++ am_mds_5 ++ am_mds_6
def am_ny : Nat := 251
def am_mdl : am_MD := (yL_law, cL_law, 4, (some .boolean), 8, 1, 12, 460, true)
def am_md : Nat → am_MD := fun y => match y with
  | 0 => am_mdl
  | k + 1 => am_mds.getD k am_mdl
theorem am_ny_len : am_mds.length + 1 = am_ny := by decide +kernel
theorem am_md_in {y : Nat} (h0 : 0 < y) (hy : y < am_ny) : am_md y ∈ am_mds := by
  obtain ⟨k, rfl⟩ : ∃ k, y = k + 1 := ⟨y - 1, by omega⟩
  have hk : k < am_mds.length := by have := am_ny_len; omega
  show am_mds.getD k am_mdl ∈ am_mds
  rw [List.getD_eq_getElem?_getD, List.getElem?_eq_getElem hk]
  exact List.getElem_mem hk
def am_fl_0 : List (Nat × Nat × Nat × Nat) := [(6, 10, 6, 0), (6, 16, 6, 1), (6, 19, 6, 2), (6, 22, 6, 3), (6, 28, 6, 4), (6, 35, 6, 5), (6, 44, 6, 6), (6, 48, 6, 7), (6, 51, 6, 8), (6, 54, 6, 9), (6, 60, 6, 10), (6, 64, 6, 11), (6, 70, 6, 12), (6, 74, 6, 13), (6, 80, 6, 14), (6, 83, 6, 15), (0, 9, 0, 0), (0, 15, 0, 1), (0, 18, 0, 2), (0, 21, 0, 3), (0, 24, 0, 4), (0, 27, 0, 5), (0, 31, 0, 6), (0, 34, 0, 7), (0, 37, 0, 8), (0, 40, 0, 9), (0, 43, 0, 10), (2, 9, 2, 0), (2, 15, 2, 1), (2, 19, 2, 2), (2, 22, 2, 3), (2, 25, 2, 4), (2, 28, 2, 5), (5, 14, 5, 0), (5, 23, 5, 1), (3, 7, 3, 1), (3, 19, 3, 0), (1, 12, 1, 0), (1, 18, 1, 1), (4, 13, 4, 0)]
def am_fl_1 : List (Nat × Nat × Nat × Nat) := [(4, 16, 4, 1), (4, 19, 4, 2), (4, 23, 4, 3), (7, 7, 7, 0), (7, 13, 7, 1), (7, 16, 7, 2), (7, 19, 7, 3), (7, 22, 7, 4), (7, 25, 7, 5), (7, 28, 7, 6), (7, 31, 7, 7), (7, 34, 7, 8), (7, 37, 7, 9), (7, 40, 7, 10), (7, 44, 7, 13), (7, 47, 7, 17), (7, 50, 7, 18), (7, 53, 7, 19), (7, 56, 7, 20), (7, 59, 7, 24), (7, 62, 7, 28), (7, 65, 7, 29), (7, 68, 7, 30), (7, 71, 7, 31), (7, 74, 7, 32), (7, 77, 7, 34), (7, 80, 7, 39), (7, 83, 7, 41), (6, 91, 5, 0), (7, 100, 7, 21), (5, 31, 3, 1), (5, 64, 0, 4), (5, 67, 0, 1), (5, 74, 0, 0), (5, 80, 0, 5), (5, 84, 0, 6), (5, 87, 0, 7), (5, 90, 0, 8), (5, 93, 0, 9), (5, 96, 0, 10)]
def am_fl_2 : List (Nat × Nat × Nat × Nat) := [(5, 99, 0, 2), (5, 102, 0, 3), (2, 98, 0, 10), (2, 31, 0, 4), (2, 111, 0, 1), (7, 107, 7, 22), (7, 124, 7, 23), (7, 154, 7, 33), (7, 161, 7, 27), (7, 157, 7, 26), (7, 168, 7, 15), (7, 174, 7, 16), (7, 137, 7, 11), (7, 134, 7, 12), (7, 89, 7, 14), (6, 119, 0, 5), (6, 122, 0, 6), (6, 125, 0, 7), (6, 128, 0, 8), (6, 131, 0, 9), (6, 137, 0, 10), (6, 153, 0, 4), (6, 157, 0, 1), (4, 30, 0, 9), (4, 35, 0, 10), (4, 37, 0, 1), (2, 37, 0, 8), (6, 289, 2, 0), (7, 258, 7, 35), (7, 261, 7, 36), (7, 270, 7, 38), (7, 267, 7, 37), (6, 227, 0, 2), (1, 33, 3, 1), (1, 37, 0, 4), (6, 247, 0, 0), (6, 270, 3, 1), (7, 315, 7, 42), (6, 266, 4, 3), (6, 287, 2, 4)]
def am_fl_3 : List (Nat × Nat × Nat × Nat) := [(6, 311, 1, 0), (7, 333, 7, 40), (7, 177, 7, 25), (6, 326, 0, 3)]
def am_fl : List (Nat × Nat × Nat × Nat) := am_fl_0 ++ am_fl_1 ++ am_fl_2 ++ am_fl_3
def am_ca_0 : List (Nat × Nat × Nat) := [(8, 13, 61), (6, 87, 113), (6, 94, 41), (6, 98, 42), (3, 23, 41), (8, 17, 148), (7, 96, 144), (7, 103, 140), (8, 18, 62), (6, 101, 2), (0, 46, 4), (0, 50, 5), (6, 105, 50), (5, 27, 51), (5, 39, 52), (5, 43, 43), (5, 46, 53), (5, 49, 54), (5, 35, 56), (5, 52, 57), (5, 55, 58), (5, 77, 55), (5, 58, 59), (5, 61, 60), (5, 105, 1), (5, 70, 34), (2, 88, 33), (2, 34, 8), (0, 54, 10), (2, 66, 36), (2, 91, 37), (2, 94, 1), (2, 101, 35), (2, 104, 38), (2, 107, 12), (0, 58, 11), (6, 109, 44), (6, 113, 49), (8, 22, 156), (7, 143, 153)]
def am_ca_1 : List (Nat × Nat × Nat) := [(7, 110, 149), (7, 127, 152), (7, 118, 150), (7, 114, 143), (7, 121, 151), (7, 147, 159), (7, 164, 157), (7, 171, 158), (7, 151, 155), (7, 131, 154), (7, 92, 146), (7, 140, 172), (7, 202, 166), (7, 190, 164), (7, 186, 163), (7, 183, 162), (7, 180, 145), (7, 193, 165), (7, 205, 171), (7, 199, 170), (8, 23, 63), (6, 115, 1), (6, 134, 8), (8, 27, 173), (8, 28, 64), (8, 31, 174), (8, 32, 65), (8, 36, 175), (8, 37, 66), (6, 140, 119), (6, 143, 120), (6, 146, 6), (6, 149, 7), (8, 40, 176), (8, 41, 67), (6, 160, 46), (4, 27, 47), (6, 163, 34), (8, 44, 177), (7, 208, 179)]
def am_ca_2 : List (Nat × Nat × Nat) := [(8, 45, 68), (6, 166, 33), (6, 169, 40), (8, 48, 181), (7, 211, 178), (8, 49, 69), (6, 172, 115), (6, 176, 116), (6, 179, 21), (2, 40, 22), (6, 182, 24), (2, 50, 25), (2, 53, 26), (6, 185, 23), (6, 188, 118), (8, 53, 186), (7, 228, 142), (7, 221, 182), (7, 214, 169), (7, 217, 168), (7, 196, 167), (7, 232, 185), (7, 224, 184), (8, 54, 70), (6, 192, 15), (6, 195, 30), (2, 69, 28), (2, 72, 29), (2, 75, 40), (8, 57, 188), (7, 236, 187), (8, 58, 71), (6, 198, 31), (2, 78, 39), (6, 201, 27), (2, 56, 23), (2, 60, 24), (8, 61, 190), (7, 239, 183), (7, 242, 189)]
def am_ca_3 : List (Nat × Nat × Nat) := [(8, 62, 72), (8, 65, 191), (8, 66, 73), (6, 204, 117), (6, 208, 121), (6, 341, 3), (8, 69, 195), (7, 252, 147), (7, 255, 194), (7, 248, 193), (7, 245, 192), (8, 70, 74), (6, 217, 123), (6, 345, 9), (6, 348, 124), (6, 351, 22), (8, 73, 197), (7, 264, 196), (8, 74, 75), (8, 77, 198), (8, 78, 76), (6, 220, 125), (8, 81, 200), (7, 273, 199), (8, 82, 77), (6, 223, 13), (8, 85, 202), (7, 277, 201), (8, 86, 78), (6, 230, 127), (6, 260, 39), (6, 354, 19), (1, 40, 43), (1, 43, 37), (1, 48, 38), (1, 51, 20), (1, 55, 11), (8, 89, 204), (7, 280, 203), (8, 90, 79)]
def am_ca_4 : List (Nat × Nat × Nat) := [(6, 234, 114), (6, 237, 126), (8, 93, 205), (7, 283, 141), (8, 94, 80), (6, 241, 128), (8, 97, 207), (7, 286, 206), (8, 98, 81), (8, 101, 208), (8, 102, 82), (6, 244, 129), (6, 358, 10), (8, 105, 210), (7, 289, 209), (8, 106, 83), (8, 109, 211), (8, 110, 84), (6, 250, 130), (6, 361, 43), (8, 113, 246), (7, 339, 245), (8, 114, 85), (6, 253, 37), (8, 117, 212), (8, 118, 86), (8, 121, 244), (8, 122, 87), (8, 125, 247), (8, 126, 88), (8, 129, 248), (8, 130, 89), (6, 256, 32), (2, 81, 21), (6, 263, 35), (8, 134, 249), (8, 135, 90), (6, 267, 48), (8, 138, 180), (8, 139, 91)]
def am_ca_5 : List (Nat × Nat × Nat) := [(8, 142, 213), (8, 143, 92), (8, 146, 214), (8, 147, 93), (6, 271, 131), (8, 150, 216), (7, 292, 215), (8, 151, 94), (6, 274, 122), (8, 154, 217), (8, 155, 95), (6, 277, 132), (8, 159, 220), (7, 298, 219), (7, 295, 218), (8, 160, 96), (8, 163, 221), (8, 164, 97), (6, 282, 133), (8, 167, 223), (7, 304, 222), (8, 168, 98), (6, 290, 36), (8, 171, 224), (8, 172, 99), (6, 293, 134), (8, 175, 226), (7, 309, 225), (8, 176, 100), (6, 296, 135), (8, 179, 228), (7, 312, 227), (8, 180, 101), (6, 302, 136), (6, 305, 137), (6, 308, 138), (8, 183, 231), (7, 318, 229), (7, 321, 230), (8, 184, 102)]
def am_ca_6 : List (Nat × Nat × Nat) := [(8, 188, 232), (8, 189, 103), (6, 314, 16), (1, 21, 42), (8, 192, 233), (8, 193, 104), (6, 316, 17), (1, 25, 44), (8, 196, 234), (8, 197, 105), (8, 200, 238), (7, 330, 237), (7, 327, 236), (7, 324, 235), (8, 201, 106), (8, 204, 239), (8, 205, 107), (8, 208, 240), (8, 209, 108), (6, 317, 139), (8, 212, 243), (7, 336, 242), (8, 213, 109), (8, 216, 241), (8, 217, 110), (6, 320, 45), (3, 30, 43), (6, 323, 18), (1, 29, 45), (8, 220, 160), (8, 221, 111), (8, 224, 161), (8, 225, 112), (6, 329, 14), (8, 228, 250)]
def am_ca : List (Nat × Nat × Nat) := am_ca_0 ++ am_ca_1 ++ am_ca_2 ++ am_ca_3 ++ am_ca_4 ++ am_ca_5 ++ am_ca_6
def am_ma : List (Nat × Nat × Nat) := [(3, 13, 0), (2, 44, 0), (2, 63, 1), (6, 212, 2), (6, 299, 1), (6, 338, 0), (3, 27, 1)]
def am_co : List (Nat × Nat × Int) := [(6, 333, 1000000000), (7, 86, 1000000000), (2, 85, 1103515245), (2, 86, 2147483647), (2, 87, 65536), (7, 342, 1103515245), (7, 343, 2147483647), (7, 344, 65536)]
def am_cl : List (Nat × Nat × Int) := [(6, 334, 4000000000000000000), (6, 336, 2), (7, 87, 4000000000000000000), (6, 280, 4096), (7, 302, 4096), (6, 285, 16), (7, 307, 16)]
def am_chunks : List (List Cond) := [tables_1_1, tables_1_2, tables_1_3, tables_1_4, tables_1_5, tables_1_6, k2_sels lw_privs_1, k2_sels lw_privs_2, k2_sels lw_privs_3, k2_sels lw_privs_4, k2_sels lw_privs_5]
def am_all : List Cond := am_chunks.flatten
def am_big : List Cond := am_all.filter goodWord
def am_flw (f : Nat × Nat × Nat × Nat) : Cond := .fieldLink (am_cn f.1) f.2.1 (am_cT f.2.2.1 f.2.2.2).1 (am_cT f.2.2.1 f.2.2.2).2.1 (am_cT f.2.2.1 f.2.2.2).2.2.1
def am_caw (f : Nat × Nat × Nat) : Cond := .methodLink (am_cn f.1) f.2.1 (am_md f.2.2).1
def am_man (k : Nat) : MethodName := match k with
  | 0 => Lib.Math.max.name
  | 1 => Lib.Math.min.name
  | _ => Lib.Math.abs.name
def am_maw (f : Nat × Nat × Nat) : Cond := .methodLink (am_cn f.1) f.2.1 (am_man f.2.2)
def am_cow (f : Nat × Nat × Int) : Cond := .constant (am_cn f.1) f.2.1 (Int32.ofInt f.2.2)
def am_clw (f : Nat × Nat × Int) : Cond := .constantLong (am_cn f.1) f.2.1 (Int64.ofInt f.2.2)
def am_cdw (q : am_MD) : Cond := .code q.1 q.2.1 q.2.2.1 q.2.2.2.1
def am_inw (q : am_MD) : Cond := if q.2.2.2.2.2.2.2.2 = true then .static q.1 else .instanceMethod q.1
def am_sew (q : am_MD) : Cond := .selects q.1.cls q.1 q.1
theorem am_big_of {ws : List Cond} {ps : List (Nat × Nat)} (h : ws = ps.filterMap (fun p => (am_chunks[p.1]?).bind (fun c => c[p.2]?))) (hg : ws.all goodWord = true) : ∀ w ∈ ws, w ∈ am_big := by
  intro w hw
  refine List.mem_filter.mpr ⟨?_, List.all_eq_true.mp hg w hw⟩
  rw [h] at hw
  obtain ⟨p, -, hp⟩ := List.mem_filterMap.mp hw
  obtain ⟨c, hc, hcw⟩ := Option.bind_eq_some_iff.mp hp
  exact List.mem_flatten.mpr ⟨c, List.mem_of_getElem? hc, List.mem_of_getElem? hcw⟩
set_option maxRecDepth 20000 in
theorem am_fl_in_0 : ∀ w ∈ am_fl_0.map am_flw, w ∈ am_big := am_big_of (ps := [(0, 192), (0, 193), (0, 194), (0, 195), (0, 196), (0, 197), (0, 198), (0, 199), (0, 200), (0, 201), (0, 202), (0, 203), (0, 204), (0, 205), (0, 206), (0, 207), (0, 24), (0, 27), (0, 32), (0, 35), (0, 38), (0, 43), (0, 46), (0, 49), (0, 52), (0, 56), (0, 60), (0, 95), (0, 97), (0, 98), (0, 99), (0, 100), (0, 102), (0, 143), (0, 145), (0, 132), (0, 131), (0, 161), (0, 163), (0, 177)]) rfl (by decide +kernel)
set_option maxRecDepth 20000 in
theorem am_fl_in_1 : ∀ w ∈ am_fl_1.map am_flw, w ∈ am_big := am_big_of (ps := [(0, 178), (0, 179), (0, 180), (3, 120), (3, 121), (3, 122), (3, 123), (3, 124), (3, 125), (3, 126), (3, 127), (3, 128), (3, 129), (3, 130), (3, 133), (3, 137), (3, 138), (3, 139), (3, 140), (3, 144), (3, 148), (3, 149), (3, 150), (3, 151), (3, 152), (3, 154), (3, 159), (3, 161), (0, 144), (3, 141), (0, 133), (0, 42), (0, 30), (0, 25), (0, 45), (0, 48), (0, 51), (0, 55), (0, 59), (0, 63)]) rfl (by decide +kernel)
set_option maxRecDepth 20000 in
theorem am_fl_in_2 : ∀ w ∈ am_fl_2.map am_flw, w ∈ am_big := am_big_of (ps := [(0, 33), (0, 36), (0, 64), (0, 39), (0, 31), (3, 142), (3, 143), (3, 153), (3, 147), (3, 146), (3, 135), (3, 136), (3, 131), (3, 132), (3, 134), (0, 44), (0, 47), (0, 50), (0, 54), (0, 58), (0, 62), (0, 41), (0, 29), (0, 57), (0, 61), (0, 28), (0, 53), (0, 96), (3, 155), (3, 156), (3, 158), (3, 157), (0, 34), (0, 134), (0, 40), (0, 26), (0, 135), (3, 162), (0, 181), (0, 101)]) rfl (by decide +kernel)
set_option maxRecDepth 20000 in
theorem am_fl_in_3 : ∀ w ∈ am_fl_3.map am_flw, w ∈ am_big := am_big_of (ps := [(0, 162), (3, 160), (3, 145), (0, 37)]) rfl (by decide +kernel)
theorem am_fl_in : ∀ f ∈ am_fl, am_flw f ∈ am_big := by
  intro f hf
  simp only [am_fl, List.mem_append] at hf
  rcases hf with (((hf | hf) | hf) | hf)
  · exact am_fl_in_0 _ (List.mem_map.mpr ⟨f, hf, rfl⟩)
  · exact am_fl_in_1 _ (List.mem_map.mpr ⟨f, hf, rfl⟩)
  · exact am_fl_in_2 _ (List.mem_map.mpr ⟨f, hf, rfl⟩)
  · exact am_fl_in_3 _ (List.mem_map.mpr ⟨f, hf, rfl⟩)
set_option maxRecDepth 20000 in
theorem am_ca_in_0 : ∀ w ∈ am_ca_0.map am_caw, w ∈ am_big := am_big_of (ps := [(1, 1), (1, 5), (1, 9), (1, 13), (1, 17), (4, 10), (4, 14), (4, 17), (1, 18), (1, 22), (1, 26), (1, 30), (1, 34), (1, 38), (1, 42), (1, 46), (1, 50), (1, 53), (1, 57), (1, 61), (1, 65), (1, 69), (1, 73), (1, 77), (1, 81), (1, 85), (1, 89), (1, 93), (1, 97), (1, 101), (1, 105), (1, 109), (1, 110), (1, 114), (1, 118), (1, 122), (1, 126), (1, 130), (4, 21), (4, 25)]) rfl (by decide +kernel)
set_option maxRecDepth 20000 in
theorem am_ca_in_1 : ∀ w ∈ am_ca_1.map am_caw, w ∈ am_big := am_big_of (ps := [(4, 29), (4, 33), (4, 37), (4, 41), (4, 44), (4, 48), (4, 52), (4, 56), (4, 60), (4, 64), (4, 68), (4, 72), (4, 76), (4, 80), (4, 84), (4, 88), (4, 92), (4, 95), (4, 99), (4, 103), (1, 134), (1, 138), (1, 139), (4, 114), (1, 140), (4, 118), (1, 144), (4, 122), (1, 148), (1, 152), (1, 155), (1, 158), (1, 162), (4, 126), (1, 166), (1, 170), (1, 174), (1, 178), (4, 130), (4, 134)]) rfl (by decide +kernel)
set_option maxRecDepth 20000 in
theorem am_ca_in_2 : ∀ w ∈ am_ca_2.map am_caw, w ∈ am_big := am_big_of (ps := [(1, 179), (1, 183), (1, 184), (4, 142), (4, 146), (1, 188), (1, 192), (1, 197), (1, 200), (1, 204), (1, 209), (1, 213), (1, 217), (1, 221), (1, 225), (4, 150), (4, 154), (4, 159), (4, 163), (4, 167), (4, 171), (4, 175), (4, 178), (1, 229), (1, 233), (1, 237), (2, 1), (2, 5), (2, 9), (4, 181), (4, 185), (2, 10), (2, 14), (2, 18), (2, 22), (2, 26), (2, 27), (4, 189), (4, 193), (4, 197)]) rfl (by decide +kernel)
set_option maxRecDepth 20000 in
theorem am_ca_in_3 : ∀ w ∈ am_ca_3.map am_caw, w ∈ am_big := am_big_of (ps := [(2, 31), (4, 201), (2, 35), (2, 39), (2, 43), (2, 49), (4, 205), (4, 209), (4, 213), (4, 217), (4, 221), (2, 56), (2, 60), (2, 64), (2, 68), (2, 72), (4, 224), (4, 228), (2, 73), (4, 232), (2, 77), (2, 81), (4, 236), (5, 0), (2, 85), (2, 89), (5, 4), (5, 8), (2, 93), (2, 97), (2, 101), (2, 102), (2, 106), (2, 107), (2, 108), (2, 109), (2, 112), (5, 12), (5, 16), (2, 113)]) rfl (by decide +kernel)
set_option maxRecDepth 20000 in
theorem am_ca_in_4 : ∀ w ∈ am_ca_4.map am_caw, w ∈ am_big := am_big_of (ps := [(2, 117), (2, 122), (5, 20), (5, 24), (2, 126), (2, 130), (5, 29), (5, 33), (2, 134), (5, 37), (2, 138), (2, 142), (2, 146), (5, 41), (5, 45), (2, 147), (5, 49), (2, 151), (2, 155), (2, 159), (5, 186), (5, 190), (2, 160), (2, 164), (5, 53), (2, 165), (5, 182), (2, 169), (5, 194), (2, 173), (5, 198), (2, 177), (2, 181), (2, 185), (2, 189), (5, 202), (2, 190), (2, 194), (4, 138), (2, 198)]) rfl (by decide +kernel)
set_option maxRecDepth 20000 in
theorem am_ca_in_5 : ∀ w ∈ am_ca_5.map am_caw, w ∈ am_big := am_big_of (ps := [(5, 57), (2, 202), (5, 61), (2, 206), (2, 210), (5, 65), (5, 69), (2, 214), (2, 218), (5, 73), (2, 222), (2, 226), (5, 77), (5, 81), (5, 85), (2, 231), (5, 89), (2, 235), (2, 239), (5, 93), (5, 97), (3, 4), (3, 8), (5, 102), (3, 9), (3, 13), (5, 106), (5, 110), (3, 17), (3, 21), (5, 114), (5, 118), (3, 25), (3, 29), (3, 33), (3, 37), (5, 122), (5, 126), (5, 130), (3, 41)]) rfl (by decide +kernel)
set_option maxRecDepth 20000 in
theorem am_ca_in_6 : ∀ w ∈ am_ca_6.map am_caw, w ∈ am_big := am_big_of (ps := [(5, 134), (3, 45), (3, 49), (3, 53), (5, 138), (3, 54), (3, 58), (3, 62), (5, 142), (3, 63), (5, 146), (5, 150), (5, 154), (5, 158), (3, 67), (5, 162), (3, 71), (5, 166), (3, 75), (3, 79), (5, 174), (5, 178), (3, 83), (5, 170), (3, 87), (3, 91), (3, 96), (3, 97), (3, 101), (4, 106), (3, 102), (4, 110), (3, 106), (3, 110), (5, 209)]) rfl (by decide +kernel)
theorem am_ca_in : ∀ f ∈ am_ca, am_caw f ∈ am_big := by
  intro f hf
  simp only [am_ca, List.mem_append] at hf
  rcases hf with ((((((hf | hf) | hf) | hf) | hf) | hf) | hf)
  · exact am_ca_in_0 _ (List.mem_map.mpr ⟨f, hf, rfl⟩)
  · exact am_ca_in_1 _ (List.mem_map.mpr ⟨f, hf, rfl⟩)
  · exact am_ca_in_2 _ (List.mem_map.mpr ⟨f, hf, rfl⟩)
  · exact am_ca_in_3 _ (List.mem_map.mpr ⟨f, hf, rfl⟩)
  · exact am_ca_in_4 _ (List.mem_map.mpr ⟨f, hf, rfl⟩)
  · exact am_ca_in_5 _ (List.mem_map.mpr ⟨f, hf, rfl⟩)
  · exact am_ca_in_6 _ (List.mem_map.mpr ⟨f, hf, rfl⟩)
set_option maxRecDepth 20000 in
theorem am_ma_in_0 : ∀ w ∈ am_ma.map am_maw, w ∈ am_big := am_big_of (ps := [(0, 128), (1, 208), (2, 28), (2, 53), (2, 47), (2, 48), (3, 95)]) rfl (by decide +kernel)
theorem am_ma_in : ∀ f ∈ am_ma, am_maw f ∈ am_big := fun f hf => am_ma_in_0 _ (List.mem_map.mpr ⟨f, hf, rfl⟩)
set_option maxRecDepth 20000 in
theorem am_co_in_0 : ∀ w ∈ am_co.map am_cow, w ∈ am_big := am_big_of (ps := [(2, 121), (5, 28), (2, 186), (2, 187), (2, 188), (5, 206), (5, 207), (5, 208)]) rfl (by decide +kernel)
theorem am_co_in : ∀ f ∈ am_co, am_cow f ∈ am_big := fun f hf => am_co_in_0 _ (List.mem_map.mpr ⟨f, hf, rfl⟩)
set_option maxRecDepth 20000 in
theorem am_cl_in_0 : ∀ w ∈ am_cl.map am_clw, w ∈ am_big := am_big_of (ps := [(1, 196), (1, 228), (4, 158), (2, 230), (5, 88), (3, 3), (5, 101)]) rfl (by decide +kernel)
theorem am_cl_in : ∀ f ∈ am_cl, am_clw f ∈ am_big := fun f hf => am_cl_in_0 _ (List.mem_map.mpr ⟨f, hf, rfl⟩)
def am_virt (q : am_MD) : Bool := !q.2.2.2.2.2.2.2.2
set_option maxRecDepth 20000 in
theorem am_cd_in_0 : ∀ w ∈ am_mds_0.map am_cdw, w ∈ am_big := am_big_of (ps := [(1, 84), (1, 25), (2, 52), (1, 29), (1, 33), (1, 161), (1, 165), (1, 96), (2, 67), (1, 100), (1, 125), (1, 121), (2, 92), (3, 113), (1, 236), (3, 52), (3, 61), (3, 100), (2, 105), (2, 111), (1, 203), (1, 207), (1, 224), (1, 212), (1, 216), (1, 220), (2, 25), (2, 4), (2, 8), (2, 0), (2, 17), (2, 184), (1, 92), (1, 88), (1, 113), (1, 104), (1, 108), (1, 117), (2, 21), (1, 187)]) rfl (by decide +kernel)
set_option maxRecDepth 20000 in
theorem am_cd_in_1 : ∀ w ∈ am_mds_1.map am_cdw, w ∈ am_big := am_big_of (ps := [(1, 12), (1, 16), (1, 49), (1, 129), (3, 94), (1, 173), (1, 177), (2, 197), (1, 133), (1, 37), (1, 41), (1, 45), (1, 52), (1, 56), (1, 72), (1, 60), (1, 64), (1, 68), (1, 76), (1, 80), (1, 4), (1, 21), (1, 137), (1, 143), (1, 147), (1, 151), (1, 169), (1, 182), (1, 191), (1, 232), (2, 13), (2, 34), (2, 38), (2, 59), (2, 76), (2, 80), (2, 88), (2, 96), (2, 116), (2, 129)]) rfl (by decide +kernel)
set_option maxRecDepth 20000 in
theorem am_cd_in_2 : ∀ w ∈ am_mds_2.map am_cdw, w ∈ am_big := am_big_of (ps := [(2, 137), (2, 141), (2, 150), (2, 154), (2, 163), (2, 168), (2, 172), (2, 176), (2, 180), (2, 193), (2, 201), (2, 205), (2, 209), (2, 217), (2, 225), (2, 234), (2, 238), (3, 7), (3, 12), (3, 20), (3, 28), (3, 44), (3, 48), (3, 57), (3, 66), (3, 70), (3, 74), (3, 78), (3, 86), (3, 90), (3, 105), (3, 109), (1, 8), (2, 120), (1, 195), (1, 199), (2, 42), (1, 227), (1, 154), (1, 157)]) rfl (by decide +kernel)
set_option maxRecDepth 20000 in
theorem am_cd_in_3 : ∀ w ∈ am_mds_3.map am_cdw, w ∈ am_big := am_big_of (ps := [(2, 46), (2, 221), (2, 63), (2, 71), (2, 84), (2, 125), (2, 100), (2, 133), (2, 145), (2, 158), (2, 213), (2, 229), (3, 2), (3, 16), (3, 24), (3, 32), (3, 36), (3, 40), (3, 82), (4, 20), (5, 27), (4, 157), (4, 43), (4, 16), (4, 94), (4, 71), (4, 212), (4, 13), (4, 32), (4, 40), (4, 47), (4, 36), (4, 28), (4, 67), (4, 63), (4, 24), (4, 55), (4, 59), (4, 51), (4, 109)]) rfl (by decide +kernel)
set_option maxRecDepth 20000 in
theorem am_cd_in_4 : ∀ w ∈ am_mds_4.map am_cdw, w ∈ am_big := am_big_of (ps := [(4, 113), (4, 91), (4, 87), (4, 83), (4, 98), (4, 79), (4, 174), (4, 170), (4, 166), (4, 105), (4, 102), (4, 75), (4, 117), (4, 121), (4, 125), (4, 129), (4, 133), (4, 149), (4, 137), (4, 141), (4, 145), (4, 162), (4, 196), (4, 180), (4, 177), (4, 153), (4, 188), (4, 184), (4, 200), (4, 192), (4, 204), (4, 223), (4, 220), (4, 216), (4, 208), (4, 231), (4, 227), (4, 235), (5, 3), (4, 239)]) rfl (by decide +kernel)
set_option maxRecDepth 20000 in
theorem am_cd_in_5 : ∀ w ∈ am_mds_5.map am_cdw, w ∈ am_big := am_big_of (ps := [(5, 11), (5, 7), (5, 19), (5, 15), (5, 23), (5, 36), (5, 32), (5, 40), (5, 48), (5, 44), (5, 52), (5, 56), (5, 60), (5, 64), (5, 72), (5, 68), (5, 76), (5, 87), (5, 84), (5, 80), (5, 92), (5, 100), (5, 96), (5, 105), (5, 113), (5, 109), (5, 121), (5, 117), (5, 129), (5, 133), (5, 125), (5, 137), (5, 141), (5, 145), (5, 161), (5, 157), (5, 153), (5, 149), (5, 165), (5, 169)]) rfl (by decide +kernel)
set_option maxRecDepth 20000 in
theorem am_cd_in_6 : ∀ w ∈ am_mds_6.map am_cdw, w ∈ am_big := am_big_of (ps := [(5, 173), (5, 181), (5, 177), (5, 185), (5, 193), (5, 189), (5, 197), (5, 201), (5, 205), (5, 212)]) rfl (by decide +kernel)
theorem am_cd_in : ∀ f ∈ am_mds, am_cdw f ∈ am_big := by
  intro f hf
  simp only [am_mds, List.mem_append] at hf
  rcases hf with ((((((hf | hf) | hf) | hf) | hf) | hf) | hf)
  · exact am_cd_in_0 _ (List.mem_map.mpr ⟨f, hf, rfl⟩)
  · exact am_cd_in_1 _ (List.mem_map.mpr ⟨f, hf, rfl⟩)
  · exact am_cd_in_2 _ (List.mem_map.mpr ⟨f, hf, rfl⟩)
  · exact am_cd_in_3 _ (List.mem_map.mpr ⟨f, hf, rfl⟩)
  · exact am_cd_in_4 _ (List.mem_map.mpr ⟨f, hf, rfl⟩)
  · exact am_cd_in_5 _ (List.mem_map.mpr ⟨f, hf, rfl⟩)
  · exact am_cd_in_6 _ (List.mem_map.mpr ⟨f, hf, rfl⟩)
set_option maxRecDepth 20000 in
theorem am_inm_in_0 : ∀ w ∈ am_mds_0.map am_inw, w ∈ am_big := am_big_of (ps := [(1, 82), (1, 23), (2, 50), (1, 27), (1, 31), (1, 159), (1, 163), (1, 94), (2, 65), (1, 98), (1, 123), (1, 119), (2, 90), (3, 111), (1, 234), (3, 50), (3, 59), (3, 98), (2, 103), (2, 110), (1, 201), (1, 205), (1, 222), (1, 210), (1, 214), (1, 218), (2, 23), (2, 2), (2, 6), (1, 238), (2, 15), (2, 182), (1, 90), (1, 86), (1, 111), (1, 102), (1, 106), (1, 115), (2, 19), (1, 185)]) rfl (by decide +kernel)
set_option maxRecDepth 20000 in
theorem am_inm_in_1 : ∀ w ∈ am_mds_1.map am_inw, w ∈ am_big := am_big_of (ps := [(1, 10), (1, 14), (1, 47), (1, 127), (3, 92), (1, 171), (1, 175), (2, 195), (1, 131), (1, 35), (1, 39), (1, 43), (1, 51), (1, 54), (1, 70), (1, 58), (1, 62), (1, 66), (1, 74), (1, 78), (1, 2), (1, 19), (1, 135), (1, 141), (1, 145), (1, 149), (1, 167), (1, 180), (1, 189), (1, 230), (2, 11), (2, 32), (2, 36), (2, 57), (2, 74), (2, 78), (2, 86), (2, 94), (2, 114), (2, 127)]) rfl (by decide +kernel)
set_option maxRecDepth 20000 in
theorem am_inm_in_2 : ∀ w ∈ am_mds_2.map am_inw, w ∈ am_big := am_big_of (ps := [(2, 135), (2, 139), (2, 148), (2, 152), (2, 161), (2, 166), (2, 170), (2, 174), (2, 178), (2, 191), (2, 199), (2, 203), (2, 207), (2, 215), (2, 223), (2, 232), (2, 236), (3, 5), (3, 10), (3, 18), (3, 26), (3, 42), (3, 46), (3, 55), (3, 64), (3, 68), (3, 72), (3, 76), (3, 84), (3, 88), (3, 103), (3, 107), (1, 7), (2, 119), (1, 194), (1, 198), (2, 41), (1, 226), (1, 153), (1, 156)]) rfl (by decide +kernel)
set_option maxRecDepth 20000 in
theorem am_inm_in_3 : ∀ w ∈ am_mds_3.map am_inw, w ∈ am_big := am_big_of (ps := [(2, 45), (2, 220), (2, 62), (2, 70), (2, 83), (2, 124), (2, 99), (2, 132), (2, 144), (2, 157), (2, 212), (2, 228), (3, 1), (3, 15), (3, 23), (3, 31), (3, 35), (3, 39), (3, 81), (4, 19), (5, 26), (4, 156), (4, 42), (4, 15), (4, 93), (4, 70), (4, 211), (4, 11), (4, 31), (4, 39), (4, 46), (4, 35), (4, 27), (4, 66), (4, 62), (4, 22), (4, 54), (4, 58), (4, 50), (4, 107)]) rfl (by decide +kernel)
set_option maxRecDepth 20000 in
theorem am_inm_in_4 : ∀ w ∈ am_mds_4.map am_inw, w ∈ am_big := am_big_of (ps := [(4, 111), (4, 90), (4, 86), (4, 82), (4, 97), (4, 78), (4, 173), (4, 169), (4, 165), (4, 104), (4, 101), (4, 74), (4, 115), (4, 119), (4, 123), (4, 127), (4, 131), (4, 148), (4, 136), (4, 139), (4, 143), (4, 161), (4, 195), (4, 179), (4, 176), (4, 151), (4, 187), (4, 182), (4, 199), (4, 190), (4, 202), (4, 222), (4, 219), (4, 215), (4, 206), (4, 230), (4, 225), (4, 233), (5, 2), (4, 237)]) rfl (by decide +kernel)
set_option maxRecDepth 20000 in
theorem am_inm_in_5 : ∀ w ∈ am_mds_5.map am_inw, w ∈ am_big := am_big_of (ps := [(5, 10), (5, 5), (5, 18), (5, 13), (5, 21), (5, 35), (5, 30), (5, 38), (5, 47), (5, 42), (5, 50), (5, 54), (5, 58), (5, 62), (5, 71), (5, 66), (5, 74), (5, 86), (5, 83), (5, 78), (5, 90), (5, 99), (5, 94), (5, 103), (5, 112), (5, 107), (5, 120), (5, 115), (5, 128), (5, 132), (5, 123), (5, 135), (5, 139), (5, 143), (5, 160), (5, 156), (5, 152), (5, 147), (5, 163), (5, 167)]) rfl (by decide +kernel)
set_option maxRecDepth 20000 in
theorem am_inm_in_6 : ∀ w ∈ am_mds_6.map am_inw, w ∈ am_big := am_big_of (ps := [(5, 171), (5, 180), (5, 175), (5, 183), (5, 192), (5, 187), (5, 195), (5, 199), (5, 203), (5, 210)]) rfl (by decide +kernel)
theorem am_inm_in : ∀ f ∈ am_mds, am_inw f ∈ am_big := by
  intro f hf
  simp only [am_mds, List.mem_append] at hf
  rcases hf with ((((((hf | hf) | hf) | hf) | hf) | hf) | hf)
  · exact am_inm_in_0 _ (List.mem_map.mpr ⟨f, hf, rfl⟩)
  · exact am_inm_in_1 _ (List.mem_map.mpr ⟨f, hf, rfl⟩)
  · exact am_inm_in_2 _ (List.mem_map.mpr ⟨f, hf, rfl⟩)
  · exact am_inm_in_3 _ (List.mem_map.mpr ⟨f, hf, rfl⟩)
  · exact am_inm_in_4 _ (List.mem_map.mpr ⟨f, hf, rfl⟩)
  · exact am_inm_in_5 _ (List.mem_map.mpr ⟨f, hf, rfl⟩)
  · exact am_inm_in_6 _ (List.mem_map.mpr ⟨f, hf, rfl⟩)
set_option maxRecDepth 20000 in
theorem am_se_in_0 : ∀ w ∈ (am_mds_0.filter am_virt).map am_sew, w ∈ am_big := am_big_of (ps := [(1, 83), (1, 24), (2, 51), (1, 28), (1, 32), (1, 160), (1, 164), (1, 95), (2, 66), (1, 99), (1, 124), (1, 120), (2, 91), (3, 112), (1, 235), (3, 51), (3, 60), (3, 99), (2, 104), (1, 202), (1, 206), (1, 223), (1, 211), (1, 215), (1, 219), (2, 24), (2, 3), (2, 7), (1, 239), (2, 16), (2, 183), (1, 91), (1, 87), (1, 112), (1, 103), (1, 107), (1, 116), (2, 20), (1, 186)]) rfl (by decide +kernel)
set_option maxRecDepth 20000 in
theorem am_se_in_1 : ∀ w ∈ (am_mds_1.filter am_virt).map am_sew, w ∈ am_big := am_big_of (ps := [(1, 11), (1, 15), (1, 48), (1, 128), (3, 93), (1, 172), (1, 176), (2, 196), (1, 132), (1, 36), (1, 40), (1, 44), (1, 55), (1, 71), (1, 59), (1, 63), (1, 67), (1, 75), (1, 79), (1, 3), (1, 20), (1, 136), (1, 142), (1, 146), (1, 150), (1, 168), (1, 181), (1, 190), (1, 231), (2, 12), (2, 33), (2, 37), (2, 58), (2, 75), (2, 79), (2, 87), (2, 95), (2, 115), (2, 128)]) rfl (by decide +kernel)
set_option maxRecDepth 20000 in
theorem am_se_in_2 : ∀ w ∈ (am_mds_2.filter am_virt).map am_sew, w ∈ am_big := am_big_of (ps := [(2, 136), (2, 140), (2, 149), (2, 153), (2, 162), (2, 167), (2, 171), (2, 175), (2, 179), (2, 192), (2, 200), (2, 204), (2, 208), (2, 216), (2, 224), (2, 233), (2, 237), (3, 6), (3, 11), (3, 19), (3, 27), (3, 43), (3, 47), (3, 56), (3, 65), (3, 69), (3, 73), (3, 77), (3, 85), (3, 89), (3, 104), (3, 108), (6, 0), (6, 8), (6, 1), (6, 2)]) rfl (by decide +kernel)
set_option maxRecDepth 20000 in
theorem am_se_in_3 : ∀ w ∈ (am_mds_3.filter am_virt).map am_sew, w ∈ am_big := am_big_of (ps := [(6, 3), (6, 14), (6, 4), (6, 5), (6, 6), (6, 9), (6, 7), (6, 10), (6, 11), (6, 12), (6, 13), (6, 15), (7, 0), (7, 1), (7, 2), (7, 3), (7, 4), (7, 5), (7, 6), (7, 7), (9, 11), (8, 12), (8, 2), (9, 4), (4, 12), (7, 9), (7, 11), (7, 12), (7, 10), (7, 8), (8, 1), (8, 0), (4, 23), (7, 14), (7, 15), (7, 13), (4, 108)]) rfl (by decide +kernel)
set_option maxRecDepth 20000 in
theorem am_se_in_4 : ∀ w ∈ (am_mds_4.filter am_virt).map am_sew, w ∈ am_big := am_big_of (ps := [(4, 112), (8, 7), (8, 6), (8, 5), (8, 8), (8, 4), (9, 0), (8, 15), (8, 14), (8, 9), (8, 3), (4, 116), (4, 120), (4, 124), (4, 128), (4, 132), (8, 11), (8, 10), (4, 140), (4, 144), (8, 13), (9, 2), (4, 152), (9, 1), (4, 183), (9, 3), (4, 191), (4, 203), (9, 6), (9, 5), (4, 207), (9, 7), (4, 226), (4, 234), (9, 8), (4, 238)]) rfl (by decide +kernel)
set_option maxRecDepth 20000 in
theorem am_se_in_5 : ∀ w ∈ (am_mds_5.filter am_virt).map am_sew, w ∈ am_big := am_big_of (ps := [(9, 9), (5, 6), (9, 10), (5, 14), (5, 22), (9, 12), (5, 31), (5, 39), (9, 13), (5, 43), (5, 51), (5, 55), (5, 59), (5, 63), (9, 14), (5, 67), (5, 75), (9, 15), (5, 79), (5, 91), (10, 0), (5, 95), (5, 104), (10, 1), (5, 108), (10, 2), (5, 116), (10, 3), (10, 4), (5, 124), (5, 136), (5, 140), (5, 144), (10, 7), (10, 6), (10, 5), (5, 148), (5, 164), (5, 168)]) rfl (by decide +kernel)
set_option maxRecDepth 20000 in
theorem am_se_in_6 : ∀ w ∈ (am_mds_6.filter am_virt).map am_sew, w ∈ am_big := am_big_of (ps := [(5, 172), (10, 8), (5, 176), (5, 184), (10, 9), (5, 188), (5, 196), (5, 200), (5, 204), (5, 211)]) rfl (by decide +kernel)
theorem am_se_in : ∀ f ∈ am_mds, am_virt f = true → am_sew f ∈ am_big := by
  intro f hf hv
  simp only [am_mds, List.mem_append] at hf
  rcases hf with ((((((hf | hf) | hf) | hf) | hf) | hf) | hf)
  · exact am_se_in_0 _ (List.mem_map.mpr ⟨f, List.mem_filter.mpr ⟨hf, hv⟩, rfl⟩)
  · exact am_se_in_1 _ (List.mem_map.mpr ⟨f, List.mem_filter.mpr ⟨hf, hv⟩, rfl⟩)
  · exact am_se_in_2 _ (List.mem_map.mpr ⟨f, List.mem_filter.mpr ⟨hf, hv⟩, rfl⟩)
  · exact am_se_in_3 _ (List.mem_map.mpr ⟨f, List.mem_filter.mpr ⟨hf, hv⟩, rfl⟩)
  · exact am_se_in_4 _ (List.mem_map.mpr ⟨f, List.mem_filter.mpr ⟨hf, hv⟩, rfl⟩)
  · exact am_se_in_5 _ (List.mem_map.mpr ⟨f, List.mem_filter.mpr ⟨hf, hv⟩, rfl⟩)
  · exact am_se_in_6 _ (List.mem_map.mpr ⟨f, List.mem_filter.mpr ⟨hf, hv⟩, rfl⟩)
set_option maxRecDepth 20000 in
theorem am_ini_in_0 : ∀ w ∈ (List.range 8).map (fun k => Cond.initialized (am_cn k)), w ∈ am_big := am_big_of (ps := [(0, 2), (0, 7), (0, 3), (0, 5), (0, 8), (0, 4), (0, 1), (0, 9)]) rfl (by decide +kernel)
theorem am_ini_in {k : Nat} (h : k < 8) : Cond.initialized (am_cn k) ∈ am_big := am_ini_in_0 _ (List.mem_map.mpr ⟨k, List.mem_range.mpr h, rfl⟩)
set_option maxRecDepth 20000 in
theorem am_mw_in : ∀ w ∈ [Cond.static Lib.Math.max.name, Cond.code Lib.Math.max.name Lib.Math.max.code 2 (some .int), Cond.static Lib.Math.min.name, Cond.code Lib.Math.min.name Lib.Math.min.code 2 (some .int), Cond.static Lib.Math.abs.name, Cond.code Lib.Math.abs.name Lib.Math.abs.code 1 (some .int), Cond.initialized "java/lang/Math"], w ∈ am_big := am_big_of (ps := [(0, 129), (0, 130), (2, 29), (2, 30), (2, 54), (2, 55), (0, 6)]) rfl (by decide +kernel)
set_option maxRecDepth 20000 in
theorem am_lay_in_0 : ∀ w ∈ wsX00, w ∈ am_big := am_big_of (ps := [(0, 65), (0, 67), (0, 69), (0, 71), (0, 73), (0, 75), (0, 77), (0, 79), (0, 81), (0, 83), (0, 85)]) rfl (by decide +kernel)
set_option maxRecDepth 20000 in
theorem am_lay_in_1 : ∀ w ∈ wsX10, w ∈ am_big := am_big_of (ps := [(0, 164), (0, 166)]) rfl (by decide +kernel)
set_option maxRecDepth 20000 in
theorem am_lay_in_2 : ∀ w ∈ wsX20, w ∈ am_big := am_big_of (ps := [(0, 103), (0, 105), (0, 107), (0, 109), (0, 111), (0, 113)]) rfl (by decide +kernel)
set_option maxRecDepth 20000 in
theorem am_lay_in_3 : ∀ w ∈ wsX30, w ∈ am_big := am_big_of (ps := [(0, 136), (0, 138)]) rfl (by decide +kernel)
set_option maxRecDepth 20000 in
theorem am_lay_in_4 : ∀ w ∈ wsX40, w ∈ am_big := am_big_of (ps := [(0, 182), (0, 184), (0, 186), (0, 188)]) rfl (by decide +kernel)
set_option maxRecDepth 20000 in
theorem am_lay_in_5 : ∀ w ∈ wsX50, w ∈ am_big := am_big_of (ps := [(0, 146), (0, 148)]) rfl (by decide +kernel)
set_option maxRecDepth 20000 in
theorem am_lay_in_6 : ∀ w ∈ wsX60, w ∈ am_big := am_big_of (ps := [(0, 208), (0, 210), (0, 212), (0, 214), (0, 216), (0, 218), (0, 220), (0, 222), (0, 224), (0, 226), (0, 228), (0, 230), (0, 232), (0, 234), (0, 236), (0, 238)]) rfl (by decide +kernel)
set_option maxRecDepth 20000 in
theorem am_lay_in_7 : ∀ w ∈ wsX70, w ∈ am_big := am_big_of (ps := [(3, 163), (3, 165), (3, 167), (3, 169), (3, 171), (3, 173), (3, 175), (3, 177), (3, 179), (3, 181), (3, 183), (3, 185), (3, 187), (3, 189), (3, 191), (3, 193), (3, 195), (3, 197), (3, 199), (3, 201), (3, 203), (3, 205), (3, 207), (3, 209), (3, 211), (3, 213), (3, 215), (3, 217), (3, 219), (3, 221), (3, 223), (3, 225), (3, 227), (3, 229), (3, 231), (3, 233), (3, 235), (3, 237), (3, 239), (4, 1), (4, 3), (4, 5), (4, 7)]) rfl (by decide +kernel)
theorem am_big_good : am_big.all goodWord = true := List.all_eq_true.mpr (fun _ h => (List.mem_filter.mp h).2)
theorem am_big_law : ∀ w ∈ am_big, w ∈ lw_tbl := by
  intro w hw
  have hw := (List.mem_filter.mp hw).1
  simp only [am_all, am_chunks, List.flatten_cons, List.flatten_nil, List.append_nil, List.mem_append] at hw
  simp only [lw_tbl, tables_1, k2_sels, lw_privs, List.map_append, List.mem_append]
  simp only [k2_sels] at hw
  rcases hw with hw | hw | hw | hw | hw | hw | hw | hw | hw | hw | hw
  all_goals simp only [hw, true_or, or_true]
def am_okm (q : am_MD) : Bool := decide (q.1.cls = am_cn q.2.2.2.2.1) && decide (q.1.cls ≠ "java/lang/invoke/MethodHandle") && decide (q.1.cls ≠ "java/lang/invoke/VarHandle") && plainName q.1.cls && decide (q.2.2.2.2.1 < 8) && ((parseMethodDescriptor q.1.desc).map (fun d => d.parameters.length) == some (if q.2.2.2.2.2.2.2.2 = true then q.2.2.2.2.2.1 else q.2.2.2.2.2.1 - 1)) && (q.2.2.2.2.2.2.2.2 || decide (0 < q.2.2.2.2.2.1))
set_option maxRecDepth 20000 in
theorem am_okm_all : am_mds.all am_okm = true := by decide +kernel
/-- the world behind the constructors: an object of kind c (tag c + 2; a field: 0 a number, k + 1 the cell k), a row of numbers (tag 0, its length), a row of cells (tag 1) -/
def am_sh : List (Nat × List Nat) := [(8, [2, 9, 16, 23, 30, 36, 45, 47, 49, 51, 53, 58, 63, 79, 80, 0]), (2, [0, 0, 0, 0, 0, 3, 4, 5, 6, 7, 8]), (0, [4]), (0, [4]), (0, [4]), (0, [4]), (0, [4]), (0, [4]), (2, [0, 0, 0, 0, 0, 10, 11, 12, 13, 14, 15]), (0, [4]), (0, [4]), (0, [4]), (0, [4]), (0, [4]), (0, [4]), (2, [0, 0, 0, 0, 0, 17, 18, 19, 20, 21, 22]), (0, [4]), (0, [4]), (0, [4]), (0, [4]), (0, [4]), (0, [4]), (2, [0, 0, 0, 0, 0, 24, 25, 26, 27, 28, 29]), (0, [4]), (0, [4]), (0, [4]), (0, [4]), (0, [4]), (0, [4]), (4, [0, 31, 32, 33, 34, 35]), (0, [4]), (0, [4]), (0, [4]), (0, [4]), (0, [4]), (7, [37, 39]), (5, [38, 0]), (0, [96]), (4, [0, 40, 41, 42, 43, 44]), (0, [4]), (0, [4]), (0, [4]), (0, [4]), (0, [4]), (5, [46, 0]), (0, [12]), (5, [48, 0]), (0, [6]), (5, [50, 0]), (0, [6]), (5, [52, 0]), (0, [6]), (3, [54, 56]), (5, [55, 0]), (0, [4]), (5, [57, 0]), (0, [4]), (3, [59, 61]), (5, [60, 0]), (0, [4]), (5, [62, 0]), (0, [4]), (6, [64, 71, 78, 0]), (1, [64, 65, 66, 67, 68, 69]), (0, [4]), (0, [4]), (0, [4]), (0, [4]), (0, [4]), (0, [4]), (1, [71, 72, 73, 74, 75, 76]), (0, [4]), (0, [4]), (0, [4]), (0, [4]), (0, [4]), (0, [4]), (0, [6]), (0, [7]), (1, [80, 81, 82]), (0, [20]), (0, [20]), (0, [20]), (9, [85, 86, 87, 88, 89, 90, 91, 92, 93, 94, 0, 0, 0, 0, 0, 0, 0, 95, 96, 97, 98, 0, 0, 0, 99, 0, 0, 0, 100, 101, 102, 103, 104, 0, 105, 0, 0, 0, 0, 106, 0, 107, 0]), (0, [7]), (0, [4]), (0, [4]), (0, [4]), (0, [4]), (0, [4]), (0, [4]), (0, [6]), (0, [4]), (0, [4]), (0, [96]), (0, [48]), (0, [48]), (0, [240]), (0, [120]), (0, [4]), (0, [4]), (0, [24]), (0, [24]), (0, [6]), (0, [4]), (0, [6]), (0, [12])]
