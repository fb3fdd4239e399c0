theorem upd00 (k : Nat) : upd (fun _ => 0) k 0 = (fun _ => (0 : Int32)) := by
  funext j
  unfold upd
  split <;> rfl
theorem upd_at {f : Nat → Int32} {k : Nat} {x : Int32} (h : f k = x) : upd f k x = f := by
  funext j
  unfold upd
  split
  · rename_i e; rw [e, h]
  · rfl
theorem i64_w (n lo hi : Int32) : (lo.toInt64 ≤ n.toInt64 ∧ n.toInt64 ≤ hi.toInt64) ↔ (lo ≤ n ∧ n ≤ hi) := by
  simp only [Int64.le_iff_toInt_le, Int32.le_iff_toInt_le, Int32.toInt_toInt64]
abbrev rS : Nat → Int32 := upd (upd (upd (upd (fun _ => 0) 0 (-1)) 1 (-1)) 2 (-1)) 3 (-1)
theorem dX12_within_0 : decode cX12_within 0 = .ok (.lload_n 0, 1) := by decide +kernel
theorem dX12_within_1 : decode cX12_within 1 = .ok (.lload_n 2, 1) := by decide +kernel
theorem dX12_within_2 : decode cX12_within 2 = .ok (.lcmp, 1) := by decide +kernel
theorem dX12_within_3 : decode cX12_within 3 = .ok (.ifCond .lt 14, 3) := by decide +kernel
theorem dX12_within_6 : decode cX12_within 6 = .ok (.lload_n 0, 1) := by decide +kernel
theorem dX12_within_7 : decode cX12_within 7 = .ok (.lload 4, 2) := by decide +kernel
theorem dX12_within_9 : decode cX12_within 9 = .ok (.lcmp, 1) := by decide +kernel
theorem dX12_within_10 : decode cX12_within 10 = .ok (.ifCond .gt 7, 3) := by decide +kernel
theorem dX12_within_13 : decode cX12_within 13 = .ok (.iconst 1, 1) := by decide +kernel
theorem dX12_within_14 : decode cX12_within 14 = .ok (.goto 4, 3) := by decide +kernel
theorem dX12_within_17 : decode cX12_within 17 = .ok (.iconst 0, 1) := by decide +kernel
theorem dX12_within_18 : decode cX12_within 18 = .ok (.ireturn, 1) := by decide +kernel
theorem dX12_isPerson_0 : decode cX12_isPerson 0 = .ok (.lload_n 1, 1) := by decide +kernel
theorem dX12_isPerson_1 : decode cX12_isPerson 1 = .ok (.lconst 0, 1) := by decide +kernel
theorem dX12_isPerson_2 : decode cX12_isPerson 2 = .ok (.aload_n 0, 1) := by decide +kernel
theorem dX12_isPerson_3 : decode cX12_isPerson 3 = .ok (.getfield 13, 3) := by decide +kernel
theorem dX12_isPerson_6 : decode cX12_isPerson 6 = .ok (.iconst 3, 1) := by decide +kernel
theorem dX12_isPerson_7 : decode cX12_isPerson 7 = .ok (.iaload, 1) := by decide +kernel
theorem dX12_isPerson_8 : decode cX12_isPerson 8 = .ok (.iconst 1, 1) := by decide +kernel
theorem dX12_isPerson_9 : decode cX12_isPerson 9 = .ok (.isub, 1) := by decide +kernel
theorem dX12_isPerson_10 : decode cX12_isPerson 10 = .ok (.i2l, 1) := by decide +kernel
theorem dX12_isPerson_11 : decode cX12_isPerson 11 = .ok (.invokestatic 161, 3) := by decide +kernel
theorem dX12_isPerson_14 : decode cX12_isPerson 14 = .ok (.ireturn, 1) := by decide +kernel
theorem dX12_crossings_0 : decode cX12_crossings 0 = .ok (.aload_n 0, 1) := by decide +kernel
theorem dX12_crossings_1 : decode cX12_crossings 1 = .ok (.getfield 13, 3) := by decide +kernel
theorem dX12_crossings_4 : decode cX12_crossings 4 = .ok (.iconst 1, 1) := by decide +kernel
theorem dX12_crossings_5 : decode cX12_crossings 5 = .ok (.iaload, 1) := by decide +kernel
theorem dX12_crossings_6 : decode cX12_crossings 6 = .ok (.aload_n 0, 1) := by decide +kernel
theorem dX12_crossings_7 : decode cX12_crossings 7 = .ok (.getfield 13, 3) := by decide +kernel
theorem dX12_crossings_10 : decode cX12_crossings 10 = .ok (.iconst 2, 1) := by decide +kernel
theorem dX12_crossings_11 : decode cX12_crossings 11 = .ok (.iaload, 1) := by decide +kernel
theorem dX12_crossings_12 : decode cX12_crossings 12 = .ok (.imul, 1) := by decide +kernel
theorem dX12_crossings_13 : decode cX12_crossings 13 = .ok (.ireturn, 1) := by decide +kernel
theorem dX12_isCrossing_0 : decode cX12_isCrossing 0 = .ok (.lload_n 1, 1) := by decide +kernel
theorem dX12_isCrossing_1 : decode cX12_isCrossing 1 = .ok (.lconst 0, 1) := by decide +kernel
theorem dX12_isCrossing_2 : decode cX12_isCrossing 2 = .ok (.aload_n 0, 1) := by decide +kernel
theorem dX12_isCrossing_3 : decode cX12_isCrossing 3 = .ok (.invokevirtual 233, 3) := by decide +kernel
theorem dX12_isCrossing_6 : decode cX12_isCrossing 6 = .ok (.iconst 1, 1) := by decide +kernel
theorem dX12_isCrossing_7 : decode cX12_isCrossing 7 = .ok (.isub, 1) := by decide +kernel
theorem dX12_isCrossing_8 : decode cX12_isCrossing 8 = .ok (.i2l, 1) := by decide +kernel
theorem dX12_isCrossing_9 : decode cX12_isCrossing 9 = .ok (.invokestatic 161, 3) := by decide +kernel
theorem dX12_isCrossing_12 : decode cX12_isCrossing 12 = .ok (.ireturn, 1) := by decide +kernel
theorem dX12_areThere_0 : decode cX12_areThere 0 = .ok (.aload_n 0, 1) := by decide +kernel
theorem dX12_areThere_1 : decode cX12_areThere 1 = .ok (.iload_n 1, 1) := by decide +kernel
theorem dX12_areThere_2 : decode cX12_areThere 2 = .ok (.i2l, 1) := by decide +kernel
theorem dX12_areThere_3 : decode cX12_areThere 3 = .ok (.invokevirtual 253, 3) := by decide +kernel
theorem dX12_areThere_6 : decode cX12_areThere 6 = .ok (.ifCond .eq 16, 3) := by decide +kernel
theorem dX12_areThere_22 : decode cX12_areThere 22 = .ok (.iconst 0, 1) := by decide +kernel
theorem dX12_areThere_23 : decode cX12_areThere 23 = .ok (.ireturn, 1) := by decide +kernel
theorem dX12_person_0 : decode cX12_person 0 = .ok (.aload_n 0, 1) := by decide +kernel
theorem dX12_person_1 : decode cX12_person 1 = .ok (.iconst 0, 1) := by decide +kernel
theorem dX12_person_2 : decode cX12_person 2 = .ok (.putfield 1, 3) := by decide +kernel
theorem dX12_person_5 : decode cX12_person 5 = .ok (.aload_n 0, 1) := by decide +kernel
theorem dX12_person_6 : decode cX12_person 6 = .ok (.iload_n 1, 1) := by decide +kernel
theorem dX12_person_7 : decode cX12_person 7 = .ok (.i2l, 1) := by decide +kernel
theorem dX12_person_8 : decode cX12_person 8 = .ok (.invokevirtual 253, 3) := by decide +kernel
theorem dX12_person_11 : decode cX12_person 11 = .ok (.ifCond .ne 6, 3) := by decide +kernel
theorem dX12_person_14 : decode cX12_person 14 = .ok (.bipush (-8), 2) := by decide +kernel
theorem dX12_person_16 : decode cX12_person 16 = .ok (.ireturn, 1) := by decide +kernel
theorem dX12_street_0 : decode cX12_street 0 = .ok (.aload_n 0, 1) := by decide +kernel
theorem dX12_street_1 : decode cX12_street 1 = .ok (.iconst 0, 1) := by decide +kernel
theorem dX12_street_2 : decode cX12_street 2 = .ok (.putfield 1, 3) := by decide +kernel
theorem dX12_street_5 : decode cX12_street 5 = .ok (.aload_n 0, 1) := by decide +kernel
theorem dX12_street_6 : decode cX12_street 6 = .ok (.iload_n 1, 1) := by decide +kernel
theorem dX12_street_7 : decode cX12_street 7 = .ok (.i2l, 1) := by decide +kernel
theorem dX12_street_8 : decode cX12_street 8 = .ok (.invokevirtual 257, 3) := by decide +kernel
theorem dX12_street_11 : decode cX12_street 11 = .ok (.ifCond .eq 19, 3) := by decide +kernel
theorem dX12_street_30 : decode cX12_street 30 = .ok (.bipush (-2), 2) := by decide +kernel
theorem dX12_street_32 : decode cX12_street 32 = .ok (.ireturn, 1) := by decide +kernel
theorem dX12_crossing_0 : decode cX12_crossing 0 = .ok (.aload_n 0, 1) := by decide +kernel
theorem dX12_crossing_1 : decode cX12_crossing 1 = .ok (.iconst 0, 1) := by decide +kernel
theorem dX12_crossing_2 : decode cX12_crossing 2 = .ok (.putfield 1, 3) := by decide +kernel
theorem dX12_crossing_5 : decode cX12_crossing 5 = .ok (.aload_n 0, 1) := by decide +kernel
theorem dX12_crossing_6 : decode cX12_crossing 6 = .ok (.iload_n 1, 1) := by decide +kernel
theorem dX12_crossing_7 : decode cX12_crossing 7 = .ok (.i2l, 1) := by decide +kernel
theorem dX12_crossing_8 : decode cX12_crossing 8 = .ok (.invokevirtual 257, 3) := by decide +kernel
theorem dX12_crossing_11 : decode cX12_crossing 11 = .ok (.ifCond .ne 6, 3) := by decide +kernel
theorem dX12_crossing_14 : decode cX12_crossing 14 = .ok (.bipush (-2), 2) := by decide +kernel
theorem dX12_crossing_16 : decode cX12_crossing 16 = .ok (.ireturn, 1) := by decide +kernel
theorem dX12_price_0 : decode cX12_price 0 = .ok (.aload_n 0, 1) := by decide +kernel
theorem dX12_price_1 : decode cX12_price 1 = .ok (.iconst 0, 1) := by decide +kernel
theorem dX12_price_2 : decode cX12_price 2 = .ok (.putfield 1, 3) := by decide +kernel
theorem dX12_price_5 : decode cX12_price 5 = .ok (.aload_n 0, 1) := by decide +kernel
theorem dX12_price_6 : decode cX12_price 6 = .ok (.iload_n 1, 1) := by decide +kernel
theorem dX12_price_7 : decode cX12_price 7 = .ok (.i2l, 1) := by decide +kernel
theorem dX12_price_8 : decode cX12_price 8 = .ok (.invokevirtual 257, 3) := by decide +kernel
theorem dX12_price_11 : decode cX12_price 11 = .ok (.ifCond .eq 10, 3) := by decide +kernel
theorem dX12_price_21 : decode cX12_price 21 = .ok (.bipush (-2), 2) := by decide +kernel
theorem dX12_price_23 : decode cX12_price 23 = .ok (.ireturn, 1) := by decide +kernel
theorem dX12_buy_0 : decode cX12_buy 0 = .ok (.aload_n 0, 1) := by decide +kernel
theorem dX12_buy_1 : decode cX12_buy 1 = .ok (.iconst 0, 1) := by decide +kernel
theorem dX12_buy_2 : decode cX12_buy 2 = .ok (.putfield 1, 3) := by decide +kernel
theorem dX12_buy_5 : decode cX12_buy 5 = .ok (.aload_n 0, 1) := by decide +kernel
theorem dX12_buy_6 : decode cX12_buy 6 = .ok (.iload_n 1, 1) := by decide +kernel
theorem dX12_buy_7 : decode cX12_buy 7 = .ok (.i2l, 1) := by decide +kernel
theorem dX12_buy_8 : decode cX12_buy 8 = .ok (.invokevirtual 253, 3) := by decide +kernel
theorem dX12_buy_11 : decode cX12_buy 11 = .ok (.ifCond .ne 6, 3) := by decide +kernel
theorem dX12_buy_14 : decode cX12_buy 14 = .ok (.bipush (-2), 2) := by decide +kernel
theorem dX12_buy_16 : decode cX12_buy 16 = .ok (.ireturn, 1) := by decide +kernel
theorem dX12_sell_0 : decode cX12_sell 0 = .ok (.aload_n 0, 1) := by decide +kernel
theorem dX12_sell_1 : decode cX12_sell 1 = .ok (.iconst 0, 1) := by decide +kernel
theorem dX12_sell_2 : decode cX12_sell 2 = .ok (.putfield 1, 3) := by decide +kernel
theorem dX12_sell_5 : decode cX12_sell 5 = .ok (.aload_n 0, 1) := by decide +kernel
theorem dX12_sell_6 : decode cX12_sell 6 = .ok (.iload_n 1, 1) := by decide +kernel
theorem dX12_sell_7 : decode cX12_sell 7 = .ok (.i2l, 1) := by decide +kernel
theorem dX12_sell_8 : decode cX12_sell 8 = .ok (.invokevirtual 253, 3) := by decide +kernel
theorem dX12_sell_11 : decode cX12_sell 11 = .ok (.ifCond .ne 6, 3) := by decide +kernel
theorem dX12_sell_14 : decode cX12_sell 14 = .ok (.bipush (-2), 2) := by decide +kernel
theorem dX12_sell_16 : decode cX12_sell 16 = .ok (.ireturn, 1) := by decide +kernel
theorem dX12_hand_0 : decode cX12_hand 0 = .ok (.aload_n 0, 1) := by decide +kernel
theorem dX12_hand_1 : decode cX12_hand 1 = .ok (.iconst 0, 1) := by decide +kernel
theorem dX12_hand_2 : decode cX12_hand 2 = .ok (.putfield 1, 3) := by decide +kernel
theorem dX12_hand_5 : decode cX12_hand 5 = .ok (.aload_n 0, 1) := by decide +kernel
theorem dX12_hand_6 : decode cX12_hand 6 = .ok (.iload_n 1, 1) := by decide +kernel
theorem dX12_hand_7 : decode cX12_hand 7 = .ok (.i2l, 1) := by decide +kernel
theorem dX12_hand_8 : decode cX12_hand 8 = .ok (.invokevirtual 253, 3) := by decide +kernel
theorem dX12_hand_11 : decode cX12_hand 11 = .ok (.ifCond .eq 17, 3) := by decide +kernel
theorem dX12_hand_28 : decode cX12_hand 28 = .ok (.bipush (-2), 2) := by decide +kernel
theorem dX12_hand_30 : decode cX12_hand 30 = .ok (.ireturn, 1) := by decide +kernel
theorem dX12_fog_0 : decode cX12_fog 0 = .ok (.aload_n 0, 1) := by decide +kernel
theorem dX12_fog_1 : decode cX12_fog 1 = .ok (.iconst 0, 1) := by decide +kernel
theorem dX12_fog_2 : decode cX12_fog 2 = .ok (.putfield 1, 3) := by decide +kernel
theorem dX12_fog_5 : decode cX12_fog 5 = .ok (.aload_n 0, 1) := by decide +kernel
theorem dX12_fog_6 : decode cX12_fog 6 = .ok (.iload_n 1, 1) := by decide +kernel
theorem dX12_fog_7 : decode cX12_fog 7 = .ok (.i2l, 1) := by decide +kernel
theorem dX12_fog_8 : decode cX12_fog 8 = .ok (.invokevirtual 257, 3) := by decide +kernel
theorem dX12_fog_11 : decode cX12_fog 11 = .ok (.ifCond .ne 6, 3) := by decide +kernel
theorem dX12_fog_14 : decode cX12_fog 14 = .ok (.bipush (-2), 2) := by decide +kernel
theorem dX12_fog_16 : decode cX12_fog 16 = .ok (.ireturn, 1) := by decide +kernel
theorem dX12_way_0 : decode cX12_way 0 = .ok (.aload_n 0, 1) := by decide +kernel
theorem dX12_way_1 : decode cX12_way 1 = .ok (.iconst 0, 1) := by decide +kernel
theorem dX12_way_2 : decode cX12_way 2 = .ok (.putfield 1, 3) := by decide +kernel
theorem dX12_way_5 : decode cX12_way 5 = .ok (.aload_n 0, 1) := by decide +kernel
theorem dX12_way_6 : decode cX12_way 6 = .ok (.iload_n 1, 1) := by decide +kernel
theorem dX12_way_7 : decode cX12_way 7 = .ok (.iload_n 2, 1) := by decide +kernel
theorem dX12_way_8 : decode cX12_way 8 = .ok (.invokevirtual 376, 3) := by decide +kernel
theorem dX12_way_11 : decode cX12_way 11 = .ok (.ifCond .ne 6, 3) := by decide +kernel
theorem dX12_way_14 : decode cX12_way 14 = .ok (.bipush (-2), 2) := by decide +kernel
theorem dX12_way_16 : decode cX12_way 16 = .ok (.ireturn, 1) := by decide +kernel
theorem dX12_turn_0 : decode cX12_turn 0 = .ok (.aload_n 0, 1) := by decide +kernel
theorem dX12_turn_1 : decode cX12_turn 1 = .ok (.iconst 0, 1) := by decide +kernel
theorem dX12_turn_2 : decode cX12_turn 2 = .ok (.putfield 1, 3) := by decide +kernel
theorem dX12_turn_5 : decode cX12_turn 5 = .ok (.aload_n 0, 1) := by decide +kernel
theorem dX12_turn_6 : decode cX12_turn 6 = .ok (.iload_n 1, 1) := by decide +kernel
theorem dX12_turn_7 : decode cX12_turn 7 = .ok (.iload_n 2, 1) := by decide +kernel
theorem dX12_turn_8 : decode cX12_turn 8 = .ok (.invokevirtual 376, 3) := by decide +kernel
theorem dX12_turn_11 : decode cX12_turn 11 = .ok (.ifCond .ne 6, 3) := by decide +kernel
theorem dX12_turn_14 : decode cX12_turn 14 = .ok (.bipush (-2), 2) := by decide +kernel
theorem dX12_turn_16 : decode cX12_turn 16 = .ok (.ireturn, 1) := by decide +kernel
theorem dX12_fewest_0 : decode cX12_fewest 0 = .ok (.aload_n 0, 1) := by decide +kernel
theorem dX12_fewest_1 : decode cX12_fewest 1 = .ok (.iconst 0, 1) := by decide +kernel
theorem dX12_fewest_2 : decode cX12_fewest 2 = .ok (.putfield 1, 3) := by decide +kernel
theorem dX12_fewest_5 : decode cX12_fewest 5 = .ok (.aload_n 0, 1) := by decide +kernel
theorem dX12_fewest_6 : decode cX12_fewest 6 = .ok (.iload_n 1, 1) := by decide +kernel
theorem dX12_fewest_7 : decode cX12_fewest 7 = .ok (.iload_n 2, 1) := by decide +kernel
theorem dX12_fewest_8 : decode cX12_fewest 8 = .ok (.invokevirtual 376, 3) := by decide +kernel
theorem dX12_fewest_11 : decode cX12_fewest 11 = .ok (.ifCond .ne 6, 3) := by decide +kernel
theorem dX12_fewest_14 : decode cX12_fewest 14 = .ok (.bipush (-2), 2) := by decide +kernel
theorem dX12_fewest_16 : decode cX12_fewest 16 = .ok (.ireturn, 1) := by decide +kernel
theorem dX12_cheapest_0 : decode cX12_cheapest 0 = .ok (.aload_n 0, 1) := by decide +kernel
theorem dX12_cheapest_1 : decode cX12_cheapest 1 = .ok (.iconst 0, 1) := by decide +kernel
theorem dX12_cheapest_2 : decode cX12_cheapest 2 = .ok (.putfield 1, 3) := by decide +kernel
theorem dX12_cheapest_5 : decode cX12_cheapest 5 = .ok (.aload_n 0, 1) := by decide +kernel
theorem dX12_cheapest_6 : decode cX12_cheapest 6 = .ok (.iload_n 1, 1) := by decide +kernel
theorem dX12_cheapest_7 : decode cX12_cheapest 7 = .ok (.iload_n 2, 1) := by decide +kernel
theorem dX12_cheapest_8 : decode cX12_cheapest 8 = .ok (.invokevirtual 376, 3) := by decide +kernel
theorem dX12_cheapest_11 : decode cX12_cheapest 11 = .ok (.ifCond .ne 6, 3) := by decide +kernel
theorem dX12_cheapest_14 : decode cX12_cheapest 14 = .ok (.bipush (-2), 2) := by decide +kernel
theorem dX12_cheapest_16 : decode cX12_cheapest 16 = .ok (.ireturn, 1) := by decide +kernel
theorem dX12_reach_0 : decode cX12_reach 0 = .ok (.aload_n 0, 1) := by decide +kernel
theorem dX12_reach_1 : decode cX12_reach 1 = .ok (.iconst 0, 1) := by decide +kernel
theorem dX12_reach_2 : decode cX12_reach 2 = .ok (.putfield 1, 3) := by decide +kernel
theorem dX12_reach_5 : decode cX12_reach 5 = .ok (.aload_n 0, 1) := by decide +kernel
theorem dX12_reach_6 : decode cX12_reach 6 = .ok (.iload_n 1, 1) := by decide +kernel
theorem dX12_reach_7 : decode cX12_reach 7 = .ok (.i2l, 1) := by decide +kernel
theorem dX12_reach_8 : decode cX12_reach 8 = .ok (.invokevirtual 253, 3) := by decide +kernel
theorem dX12_reach_11 : decode cX12_reach 11 = .ok (.ifCond .ne 6, 3) := by decide +kernel
theorem dX12_reach_14 : decode cX12_reach 14 = .ok (.bipush (-2), 2) := by decide +kernel
theorem dX12_reach_16 : decode cX12_reach 16 = .ok (.ireturn, 1) := by decide +kernel
theorem dX12_enough_0 : decode cX12_enough 0 = .ok (.aload_n 0, 1) := by decide +kernel
theorem dX12_enough_1 : decode cX12_enough 1 = .ok (.iconst 0, 1) := by decide +kernel
theorem dX12_enough_2 : decode cX12_enough 2 = .ok (.putfield 1, 3) := by decide +kernel
theorem dX12_enough_5 : decode cX12_enough 5 = .ok (.aload_n 0, 1) := by decide +kernel
theorem dX12_enough_6 : decode cX12_enough 6 = .ok (.iload_n 1, 1) := by decide +kernel
theorem dX12_enough_7 : decode cX12_enough 7 = .ok (.i2l, 1) := by decide +kernel
theorem dX12_enough_8 : decode cX12_enough 8 = .ok (.invokevirtual 253, 3) := by decide +kernel
theorem dX12_enough_11 : decode cX12_enough 11 = .ok (.ifCond .ne 6, 3) := by decide +kernel
theorem dX12_enough_14 : decode cX12_enough 14 = .ok (.bipush (-2), 2) := by decide +kernel
theorem dX12_enough_16 : decode cX12_enough 16 = .ok (.ireturn, 1) := by decide +kernel
theorem dX12_byRights_0 : decode cX12_byRights 0 = .ok (.aload_n 0, 1) := by decide +kernel
theorem dX12_byRights_1 : decode cX12_byRights 1 = .ok (.iconst 0, 1) := by decide +kernel
theorem dX12_byRights_2 : decode cX12_byRights 2 = .ok (.putfield 1, 3) := by decide +kernel
theorem dX12_byRights_5 : decode cX12_byRights 5 = .ok (.aload_n 0, 1) := by decide +kernel
theorem dX12_byRights_6 : decode cX12_byRights 6 = .ok (.iload_n 1, 1) := by decide +kernel
theorem dX12_byRights_7 : decode cX12_byRights 7 = .ok (.i2l, 1) := by decide +kernel
theorem dX12_byRights_8 : decode cX12_byRights 8 = .ok (.invokevirtual 257, 3) := by decide +kernel
theorem dX12_byRights_11 : decode cX12_byRights 11 = .ok (.ifCond .eq 10, 3) := by decide +kernel
theorem dX12_byRights_21 : decode cX12_byRights 21 = .ok (.bipush (-2), 2) := by decide +kernel
theorem dX12_byRights_23 : decode cX12_byRights 23 = .ok (.ireturn, 1) := by decide +kernel
theorem dX12_round_0 : decode cX12_round 0 = .ok (.aload_n 0, 1) := by decide +kernel
theorem dX12_round_1 : decode cX12_round 1 = .ok (.iconst 0, 1) := by decide +kernel
theorem dX12_round_2 : decode cX12_round 2 = .ok (.putfield 1, 3) := by decide +kernel
theorem dX12_round_5 : decode cX12_round 5 = .ok (.aload_n 0, 1) := by decide +kernel
theorem dX12_round_6 : decode cX12_round 6 = .ok (.iload_n 1, 1) := by decide +kernel
theorem dX12_round_7 : decode cX12_round 7 = .ok (.i2l, 1) := by decide +kernel
theorem dX12_round_8 : decode cX12_round 8 = .ok (.invokevirtual 253, 3) := by decide +kernel
theorem dX12_round_11 : decode cX12_round 11 = .ok (.ifCond .eq 39, 3) := by decide +kernel
theorem dX12_round_50 : decode cX12_round 50 = .ok (.bipush (-2), 2) := by decide +kernel
theorem dX12_round_52 : decode cX12_round 52 = .ok (.ireturn, 1) := by decide +kernel
theorem dX12_makeFree_0 : decode cX12_makeFree 0 = .ok (.aload_n 0, 1) := by decide +kernel
theorem dX12_makeFree_1 : decode cX12_makeFree 1 = .ok (.iconst 0, 1) := by decide +kernel
theorem dX12_makeFree_2 : decode cX12_makeFree 2 = .ok (.putfield 1, 3) := by decide +kernel
theorem dX12_makeFree_5 : decode cX12_makeFree 5 = .ok (.aload_n 0, 1) := by decide +kernel
theorem dX12_makeFree_6 : decode cX12_makeFree 6 = .ok (.iload_n 1, 1) := by decide +kernel
theorem dX12_makeFree_7 : decode cX12_makeFree 7 = .ok (.iload_n 2, 1) := by decide +kernel
theorem dX12_makeFree_8 : decode cX12_makeFree 8 = .ok (.invokevirtual 376, 3) := by decide +kernel
theorem dX12_makeFree_11 : decode cX12_makeFree 11 = .ok (.ifCond .eq 14, 3) := by decide +kernel
theorem dX12_makeFree_25 : decode cX12_makeFree 25 = .ok (.bipush (-2), 2) := by decide +kernel
theorem dX12_makeFree_27 : decode cX12_makeFree 27 = .ok (.ireturn, 1) := by decide +kernel
theorem dX12_bestCorner_0 : decode cX12_bestCorner 0 = .ok (.aload_n 0, 1) := by decide +kernel
theorem dX12_bestCorner_1 : decode cX12_bestCorner 1 = .ok (.iconst 0, 1) := by decide +kernel
theorem dX12_bestCorner_2 : decode cX12_bestCorner 2 = .ok (.putfield 1, 3) := by decide +kernel
theorem dX12_bestCorner_5 : decode cX12_bestCorner 5 = .ok (.aload_n 0, 1) := by decide +kernel
theorem dX12_bestCorner_6 : decode cX12_bestCorner 6 = .ok (.iload_n 1, 1) := by decide +kernel
theorem dX12_bestCorner_7 : decode cX12_bestCorner 7 = .ok (.iload_n 2, 1) := by decide +kernel
theorem dX12_bestCorner_8 : decode cX12_bestCorner 8 = .ok (.invokevirtual 376, 3) := by decide +kernel
theorem dX12_bestCorner_11 : decode cX12_bestCorner 11 = .ok (.ifCond .ne 6, 3) := by decide +kernel
theorem dX12_bestCorner_14 : decode cX12_bestCorner 14 = .ok (.bipush (-2), 2) := by decide +kernel
theorem dX12_bestCorner_16 : decode cX12_bestCorner 16 = .ok (.ireturn, 1) := by decide +kernel
theorem dX12_dealing_0 : decode cX12_dealing 0 = .ok (.aload_n 0, 1) := by decide +kernel
theorem dX12_dealing_1 : decode cX12_dealing 1 = .ok (.iconst 0, 1) := by decide +kernel
theorem dX12_dealing_2 : decode cX12_dealing 2 = .ok (.putfield 1, 3) := by decide +kernel
theorem dX12_dealing_5 : decode cX12_dealing 5 = .ok (.aload_n 0, 1) := by decide +kernel
theorem dX12_dealing_6 : decode cX12_dealing 6 = .ok (.iload_n 1, 1) := by decide +kernel
theorem dX12_dealing_7 : decode cX12_dealing 7 = .ok (.i2l, 1) := by decide +kernel
theorem dX12_dealing_8 : decode cX12_dealing 8 = .ok (.invokevirtual 257, 3) := by decide +kernel
theorem dX12_dealing_11 : decode cX12_dealing 11 = .ok (.ifCond .eq 22, 3) := by decide +kernel
theorem dX12_dealing_33 : decode cX12_dealing 33 = .ok (.bipush (-2), 2) := by decide +kernel
theorem dX12_dealing_35 : decode cX12_dealing 35 = .ok (.ireturn, 1) := by decide +kernel
theorem dX12_affords_0 : decode cX12_affords 0 = .ok (.aload_n 0, 1) := by decide +kernel
theorem dX12_affords_1 : decode cX12_affords 1 = .ok (.iconst 0, 1) := by decide +kernel
theorem dX12_affords_2 : decode cX12_affords 2 = .ok (.putfield 1, 3) := by decide +kernel
theorem dX12_affords_5 : decode cX12_affords 5 = .ok (.aload_n 0, 1) := by decide +kernel
theorem dX12_affords_6 : decode cX12_affords 6 = .ok (.iload_n 1, 1) := by decide +kernel
theorem dX12_affords_7 : decode cX12_affords 7 = .ok (.i2l, 1) := by decide +kernel
theorem dX12_affords_8 : decode cX12_affords 8 = .ok (.invokevirtual 253, 3) := by decide +kernel
theorem dX12_affords_11 : decode cX12_affords 11 = .ok (.ifCond .ne 6, 3) := by decide +kernel
theorem dX12_affords_14 : decode cX12_affords 14 = .ok (.bipush (-2), 2) := by decide +kernel
theorem dX12_affords_16 : decode cX12_affords 16 = .ok (.ireturn, 1) := by decide +kernel
theorem dX12_found_0 : decode cX12_found 0 = .ok (.aload_n 0, 1) := by decide +kernel
theorem dX12_found_1 : decode cX12_found 1 = .ok (.iconst 0, 1) := by decide +kernel
theorem dX12_found_2 : decode cX12_found 2 = .ok (.putfield 1, 3) := by decide +kernel
theorem dX12_found_5 : decode cX12_found 5 = .ok (.aload_n 0, 1) := by decide +kernel
theorem dX12_found_6 : decode cX12_found 6 = .ok (.iload_n 1, 1) := by decide +kernel
theorem dX12_found_7 : decode cX12_found 7 = .ok (.i2l, 1) := by decide +kernel
theorem dX12_found_8 : decode cX12_found 8 = .ok (.invokevirtual 253, 3) := by decide +kernel
theorem dX12_found_11 : decode cX12_found 11 = .ok (.ifCond .eq 15, 3) := by decide +kernel
theorem dX12_found_26 : decode cX12_found 26 = .ok (.bipush (-2), 2) := by decide +kernel
theorem dX12_found_28 : decode cX12_found 28 = .ok (.ireturn, 1) := by decide +kernel
theorem dX12_chase_0 : decode cX12_chase 0 = .ok (.aload_n 0, 1) := by decide +kernel
theorem dX12_chase_1 : decode cX12_chase 1 = .ok (.iconst 0, 1) := by decide +kernel
theorem dX12_chase_2 : decode cX12_chase 2 = .ok (.putfield 1, 3) := by decide +kernel
theorem dX12_chase_5 : decode cX12_chase 5 = .ok (.aload_n 0, 1) := by decide +kernel
theorem dX12_chase_6 : decode cX12_chase 6 = .ok (.iload_n 1, 1) := by decide +kernel
theorem dX12_chase_7 : decode cX12_chase 7 = .ok (.i2l, 1) := by decide +kernel
theorem dX12_chase_8 : decode cX12_chase 8 = .ok (.invokevirtual 257, 3) := by decide +kernel
theorem dX12_chase_11 : decode cX12_chase 11 = .ok (.ifCond .eq 27, 3) := by decide +kernel
theorem dX12_chase_38 : decode cX12_chase 38 = .ok (.bipush (-2), 2) := by decide +kernel
theorem dX12_chase_40 : decode cX12_chase 40 = .ok (.ireturn, 1) := by decide +kernel
theorem dX12_posts_0 : decode cX12_posts 0 = .ok (.aload_n 0, 1) := by decide +kernel
theorem dX12_posts_1 : decode cX12_posts 1 = .ok (.iconst 0, 1) := by decide +kernel
theorem dX12_posts_2 : decode cX12_posts 2 = .ok (.putfield 1, 3) := by decide +kernel
theorem dX12_posts_5 : decode cX12_posts 5 = .ok (.aload_n 0, 1) := by decide +kernel
theorem dX12_posts_6 : decode cX12_posts 6 = .ok (.iload_n 1, 1) := by decide +kernel
theorem dX12_posts_7 : decode cX12_posts 7 = .ok (.i2l, 1) := by decide +kernel
theorem dX12_posts_8 : decode cX12_posts 8 = .ok (.invokevirtual 257, 3) := by decide +kernel
theorem dX12_posts_11 : decode cX12_posts 11 = .ok (.ifCond .eq 17, 3) := by decide +kernel
theorem dX12_posts_28 : decode cX12_posts 28 = .ok (.bipush (-2), 2) := by decide +kernel
theorem dX12_posts_30 : decode cX12_posts 30 = .ok (.ireturn, 1) := by decide +kernel
theorem dX12_ways_0 : decode cX12_ways 0 = .ok (.aload_n 0, 1) := by decide +kernel
theorem dX12_ways_1 : decode cX12_ways 1 = .ok (.iconst 0, 1) := by decide +kernel
theorem dX12_ways_2 : decode cX12_ways 2 = .ok (.putfield 1, 3) := by decide +kernel
theorem dX12_ways_5 : decode cX12_ways 5 = .ok (.aload_n 0, 1) := by decide +kernel
theorem dX12_ways_6 : decode cX12_ways 6 = .ok (.iload_n 1, 1) := by decide +kernel
theorem dX12_ways_7 : decode cX12_ways 7 = .ok (.iload_n 2, 1) := by decide +kernel
theorem dX12_ways_8 : decode cX12_ways 8 = .ok (.invokevirtual 376, 3) := by decide +kernel
theorem dX12_ways_11 : decode cX12_ways 11 = .ok (.ifCond .ne 7, 3) := by decide +kernel
theorem dX12_ways_14 : decode cX12_ways 14 = .ok (.ldc2_w 404, 3) := by decide +kernel
theorem dX12_ways_17 : decode cX12_ways 17 = .ok (.lreturn, 1) := by decide +kernel
theorem dX12_lists_0 : decode cX12_lists 0 = .ok (.aload_n 0, 1) := by decide +kernel
theorem dX12_lists_1 : decode cX12_lists 1 = .ok (.iconst 0, 1) := by decide +kernel
theorem dX12_lists_2 : decode cX12_lists 2 = .ok (.putfield 1, 3) := by decide +kernel
theorem dX12_lists_5 : decode cX12_lists 5 = .ok (.iload_n 1, 1) := by decide +kernel
theorem dX12_lists_6 : decode cX12_lists 6 = .ok (.i2l, 1) := by decide +kernel
theorem dX12_lists_7 : decode cX12_lists 7 = .ok (.lconst 0, 1) := by decide +kernel
theorem dX12_lists_8 : decode cX12_lists 8 = .ok (.ldc2_w 236, 3) := by decide +kernel
theorem dX12_lists_11 : decode cX12_lists 11 = .ok (.invokestatic 161, 3) := by decide +kernel
theorem dX12_lists_14 : decode cX12_lists 14 = .ok (.ifCond .eq 12, 3) := by decide +kernel
theorem dX12_lists_17 : decode cX12_lists 17 = .ok (.aload_n 0, 1) := by decide +kernel
theorem dX12_lists_18 : decode cX12_lists 18 = .ok (.iload_n 2, 1) := by decide +kernel
theorem dX12_lists_19 : decode cX12_lists 19 = .ok (.iload_n 3, 1) := by decide +kernel
theorem dX12_lists_20 : decode cX12_lists 20 = .ok (.invokevirtual 376, 3) := by decide +kernel
theorem dX12_lists_23 : decode cX12_lists 23 = .ok (.ifCond .ne 6, 3) := by decide +kernel
theorem dX12_lists_26 : decode cX12_lists 26 = .ok (.bipush (-2), 2) := by decide +kernel
theorem dX12_lists_28 : decode cX12_lists 28 = .ok (.ireturn, 1) := by decide +kernel
theorem dX12_cheap_0 : decode cX12_cheap 0 = .ok (.aload_n 0, 1) := by decide +kernel
theorem dX12_cheap_1 : decode cX12_cheap 1 = .ok (.iconst 0, 1) := by decide +kernel
theorem dX12_cheap_2 : decode cX12_cheap 2 = .ok (.putfield 1, 3) := by decide +kernel
theorem dX12_cheap_5 : decode cX12_cheap 5 = .ok (.iconst (-1), 1) := by decide +kernel
theorem dX12_cheap_6 : decode cX12_cheap 6 = .ok (.istore_n 1, 1) := by decide +kernel
theorem dX12_cheap_7 : decode cX12_cheap 7 = .ok (.iconst 0, 1) := by decide +kernel
theorem dX12_cheap_8 : decode cX12_cheap 8 = .ok (.istore_n 2, 1) := by decide +kernel
theorem dX12_cheap_9 : decode cX12_cheap 9 = .ok (.iload_n 2, 1) := by decide +kernel
theorem dX12_cheap_10 : decode cX12_cheap 10 = .ok (.aload_n 0, 1) := by decide +kernel
theorem dX12_cheap_11 : decode cX12_cheap 11 = .ok (.invokevirtual 233, 3) := by decide +kernel
theorem dX12_cheap_14 : decode cX12_cheap 14 = .ok (.if_icmp .ge 33, 3) := by decide +kernel
theorem dX12_cheap_47 : decode cX12_cheap 47 = .ok (.iload_n 1, 1) := by decide +kernel
theorem dX12_cheap_48 : decode cX12_cheap 48 = .ok (.ireturn, 1) := by decide +kernel
theorem dX12_whyNot_0 : decode cX12_whyNot 0 = .ok (.aload_n 0, 1) := by decide +kernel
theorem dX12_whyNot_1 : decode cX12_whyNot 1 = .ok (.lload_n 1, 1) := by decide +kernel
theorem dX12_whyNot_2 : decode cX12_whyNot 2 = .ok (.invokevirtual 253, 3) := by decide +kernel
theorem dX12_whyNot_5 : decode cX12_whyNot 5 = .ok (.ifCond .eq 14, 3) := by decide +kernel
theorem dX12_whyNot_19 : decode cX12_whyNot 19 = .ok (.iconst 1, 1) := by decide +kernel
theorem dX12_whyNot_20 : decode cX12_whyNot 20 = .ok (.ireturn, 1) := by decide +kernel
theorem dX12_why_0 : decode cX12_why 0 = .ok (.aload_n 0, 1) := by decide +kernel
theorem dX12_why_1 : decode cX12_why 1 = .ok (.iconst 0, 1) := by decide +kernel
theorem dX12_why_2 : decode cX12_why 2 = .ok (.putfield 1, 3) := by decide +kernel
theorem dX12_why_5 : decode cX12_why 5 = .ok (.aload_n 0, 1) := by decide +kernel
theorem dX12_why_6 : decode cX12_why 6 = .ok (.iload_n 1, 1) := by decide +kernel
theorem dX12_why_7 : decode cX12_why 7 = .ok (.i2l, 1) := by decide +kernel
theorem dX12_why_8 : decode cX12_why 8 = .ok (.iload_n 2, 1) := by decide +kernel
theorem dX12_why_9 : decode cX12_why 9 = .ok (.i2l, 1) := by decide +kernel
theorem dX12_why_10 : decode cX12_why 10 = .ok (.invokevirtual 290, 3) := by decide +kernel
theorem dX12_why_13 : decode cX12_why 13 = .ok (.ireturn, 1) := by decide +kernel
theorem dX12_go_0 : decode cX12_go 0 = .ok (.aload_n 0, 1) := by decide +kernel
theorem dX12_go_1 : decode cX12_go 1 = .ok (.iconst 0, 1) := by decide +kernel
theorem dX12_go_2 : decode cX12_go 2 = .ok (.putfield 1, 3) := by decide +kernel
theorem dX12_go_5 : decode cX12_go 5 = .ok (.aload_n 0, 1) := by decide +kernel
theorem dX12_go_6 : decode cX12_go 6 = .ok (.iload_n 1, 1) := by decide +kernel
theorem dX12_go_7 : decode cX12_go 7 = .ok (.i2l, 1) := by decide +kernel
theorem dX12_go_8 : decode cX12_go 8 = .ok (.iload_n 2, 1) := by decide +kernel
theorem dX12_go_9 : decode cX12_go 9 = .ok (.i2l, 1) := by decide +kernel
theorem dX12_go_10 : decode cX12_go 10 = .ok (.invokevirtual 290, 3) := by decide +kernel
theorem dX12_go_13 : decode cX12_go 13 = .ok (.istore_n 3, 1) := by decide +kernel
theorem dX12_go_14 : decode cX12_go 14 = .ok (.iload_n 3, 1) := by decide +kernel
theorem dX12_go_15 : decode cX12_go 15 = .ok (.ifCond .eq 8, 3) := by decide +kernel
theorem dX12_go_18 : decode cX12_go 18 = .ok (.bipush (-10), 2) := by decide +kernel
theorem dX12_go_20 : decode cX12_go 20 = .ok (.iload_n 3, 1) := by decide +kernel
theorem dX12_go_21 : decode cX12_go 21 = .ok (.isub, 1) := by decide +kernel
theorem dX12_go_22 : decode cX12_go 22 = .ok (.ireturn, 1) := by decide +kernel
theorem dX12_undo_0 : decode cX12_undo 0 = .ok (.aload_n 0, 1) := by decide +kernel
theorem dX12_undo_1 : decode cX12_undo 1 = .ok (.iconst 0, 1) := by decide +kernel
theorem dX12_undo_2 : decode cX12_undo 2 = .ok (.putfield 1, 3) := by decide +kernel
theorem dX12_undo_5 : decode cX12_undo 5 = .ok (.iload_n 1, 1) := by decide +kernel
theorem dX12_undo_6 : decode cX12_undo 6 = .ok (.i2l, 1) := by decide +kernel
theorem dX12_undo_7 : decode cX12_undo 7 = .ok (.lconst 1, 1) := by decide +kernel
theorem dX12_undo_8 : decode cX12_undo 8 = .ok (.ldc2_w 333, 3) := by decide +kernel
theorem dX12_undo_11 : decode cX12_undo 11 = .ok (.invokestatic 161, 3) := by decide +kernel
theorem dX12_undo_14 : decode cX12_undo 14 = .ok (.ifCond .eq 14, 3) := by decide +kernel
theorem dX12_undo_17 : decode cX12_undo 17 = .ok (.iload_n 1, 1) := by decide +kernel
theorem dX12_undo_18 : decode cX12_undo 18 = .ok (.aload_n 0, 1) := by decide +kernel
theorem dX12_undo_19 : decode cX12_undo 19 = .ok (.getfield 13, 3) := by decide +kernel
theorem dX12_undo_22 : decode cX12_undo 22 = .ok (.bipush 112, 2) := by decide +kernel
theorem dX12_undo_24 : decode cX12_undo 24 = .ok (.iaload, 1) := by decide +kernel
theorem dX12_undo_25 : decode cX12_undo 25 = .ok (.if_icmp .le 6, 3) := by decide +kernel
theorem dX12_undo_28 : decode cX12_undo 28 = .ok (.bipush (-3), 2) := by decide +kernel
theorem dX12_undo_30 : decode cX12_undo 30 = .ok (.ireturn, 1) := by decide +kernel
theorem dX12_week_0 : decode cX12_week 0 = .ok (.aload_n 0, 1) := by decide +kernel
theorem dX12_week_1 : decode cX12_week 1 = .ok (.iconst 0, 1) := by decide +kernel
theorem dX12_week_2 : decode cX12_week 2 = .ok (.putfield 1, 3) := by decide +kernel
theorem dX12_week_5 : decode cX12_week 5 = .ok (.iload_n 2, 1) := by decide +kernel
theorem dX12_week_6 : decode cX12_week 6 = .ok (.i2l, 1) := by decide +kernel
theorem dX12_week_7 : decode cX12_week 7 = .ok (.lconst 1, 1) := by decide +kernel
theorem dX12_week_8 : decode cX12_week 8 = .ok (.ldc2_w 342, 3) := by decide +kernel
theorem dX12_week_11 : decode cX12_week 11 = .ok (.invokestatic 161, 3) := by decide +kernel
theorem dX12_week_14 : decode cX12_week 14 = .ok (.ifCond .ne 6, 3) := by decide +kernel
theorem dX12_week_17 : decode cX12_week 17 = .ok (.bipush (-3), 2) := by decide +kernel
theorem dX12_week_19 : decode cX12_week 19 = .ok (.ireturn, 1) := by decide +kernel
theorem dX12_week_20 : decode cX12_week 20 = .ok (.aload_n 0, 1) := by decide +kernel
theorem dX12_week_21 : decode cX12_week 21 = .ok (.getfield 13, 3) := by decide +kernel
theorem dX12_week_24 : decode cX12_week 24 = .ok (.iconst 3, 1) := by decide +kernel
theorem dX12_week_25 : decode cX12_week 25 = .ok (.iaload, 1) := by decide +kernel
theorem dX12_week_26 : decode cX12_week 26 = .ok (.ifCond .ne 6, 3) := by decide +kernel
theorem dX12_week_29 : decode cX12_week 29 = .ok (.bipush (-5), 2) := by decide +kernel
theorem dX12_week_31 : decode cX12_week 31 = .ok (.ireturn, 1) := by decide +kernel
theorem dX12_fault_0 : decode cX12_fault 0 = .ok (.aload_n 0, 1) := by decide +kernel
theorem dX12_fault_1 : decode cX12_fault 1 = .ok (.iconst 0, 1) := by decide +kernel
theorem dX12_fault_2 : decode cX12_fault 2 = .ok (.putfield 1, 3) := by decide +kernel
theorem dX12_fault_5 : decode cX12_fault 5 = .ok (.iload_n 1, 1) := by decide +kernel
theorem dX12_fault_6 : decode cX12_fault 6 = .ok (.ifCond .ne 10, 3) := by decide +kernel
theorem dX12_fault_9 : decode cX12_fault 9 = .ok (.aload_n 0, 1) := by decide +kernel
theorem dX12_fault_10 : decode cX12_fault 10 = .ok (.getfield 226, 3) := by decide +kernel
theorem dX12_fault_13 : decode cX12_fault 13 = .ok (.goto 16, 3) := by decide +kernel
theorem dX12_fault_16 : decode cX12_fault 16 = .ok (.iload_n 1, 1) := by decide +kernel
theorem dX12_fault_17 : decode cX12_fault 17 = .ok (.iconst 1, 1) := by decide +kernel
theorem dX12_fault_18 : decode cX12_fault 18 = .ok (.if_icmp .ne 10, 3) := by decide +kernel
theorem dX12_fault_21 : decode cX12_fault 21 = .ok (.aload_n 0, 1) := by decide +kernel
theorem dX12_fault_22 : decode cX12_fault 22 = .ok (.getfield 27, 3) := by decide +kernel
theorem dX12_fault_25 : decode cX12_fault 25 = .ok (.goto 4, 3) := by decide +kernel
theorem dX12_fault_28 : decode cX12_fault 28 = .ok (.iconst (-1), 1) := by decide +kernel
theorem dX12_fault_29 : decode cX12_fault 29 = .ok (.ireturn, 1) := by decide +kernel
theorem dX12_noTray_0 : decode cX12_noTray 0 = .ok (.iload_n 1, 1) := by decide +kernel
theorem dX12_noTray_1 : decode cX12_noTray 1 = .ok (.i2l, 1) := by decide +kernel
theorem dX12_noTray_2 : decode cX12_noTray 2 = .ok (.lconst 0, 1) := by decide +kernel
theorem dX12_noTray_3 : decode cX12_noTray 3 = .ok (.ldc2_w 236, 3) := by decide +kernel
theorem dX12_noTray_6 : decode cX12_noTray 6 = .ok (.invokestatic 161, 3) := by decide +kernel
theorem dX12_noTray_9 : decode cX12_noTray 9 = .ok (.ifCond .ne 8, 3) := by decide +kernel
theorem dX12_noTray_12 : decode cX12_noTray 12 = .ok (.bipush (-2), 2) := by decide +kernel
theorem dX12_noTray_14 : decode cX12_noTray 14 = .ok (.goto 19, 3) := by decide +kernel
theorem dX12_noTray_17 : decode cX12_noTray 17 = .ok (.aload_n 0, 1) := by decide +kernel
theorem dX12_noTray_18 : decode cX12_noTray 18 = .ok (.getfield 86, 3) := by decide +kernel
theorem dX12_noTray_21 : decode cX12_noTray 21 = .ok (.iload_n 1, 1) := by decide +kernel
theorem dX12_noTray_22 : decode cX12_noTray 22 = .ok (.iaload, 1) := by decide +kernel
theorem dX12_noTray_23 : decode cX12_noTray 23 = .ok (.iconst (-1), 1) := by decide +kernel
theorem dX12_noTray_24 : decode cX12_noTray 24 = .ok (.if_icmp .ne 8, 3) := by decide +kernel
theorem dX12_noTray_27 : decode cX12_noTray 27 = .ok (.bipush (-6), 2) := by decide +kernel
theorem dX12_noTray_29 : decode cX12_noTray 29 = .ok (.goto 4, 3) := by decide +kernel
theorem dX12_noTray_33 : decode cX12_noTray 33 = .ok (.ireturn, 1) := by decide +kernel
theorem dX12_judge_0 : decode cX12_judge 0 = .ok (.aload_n 0, 1) := by decide +kernel
theorem dX12_judge_1 : decode cX12_judge 1 = .ok (.iconst 0, 1) := by decide +kernel
theorem dX12_judge_2 : decode cX12_judge 2 = .ok (.putfield 1, 3) := by decide +kernel
theorem dX12_judge_5 : decode cX12_judge 5 = .ok (.iload_n 2, 1) := by decide +kernel
theorem dX12_judge_6 : decode cX12_judge 6 = .ok (.i2l, 1) := by decide +kernel
theorem dX12_judge_7 : decode cX12_judge 7 = .ok (.lconst 0, 1) := by decide +kernel
theorem dX12_judge_8 : decode cX12_judge 8 = .ok (.ldc2_w 236, 3) := by decide +kernel
theorem dX12_judge_11 : decode cX12_judge 11 = .ok (.invokestatic 161, 3) := by decide +kernel
theorem dX12_judge_14 : decode cX12_judge 14 = .ok (.ifCond .ne 6, 3) := by decide +kernel
theorem dX12_judge_17 : decode cX12_judge 17 = .ok (.bipush (-2), 2) := by decide +kernel
theorem dX12_judge_19 : decode cX12_judge 19 = .ok (.ireturn, 1) := by decide +kernel
theorem dX12_judge_20 : decode cX12_judge 20 = .ok (.aload_n 0, 1) := by decide +kernel
theorem dX12_judge_21 : decode cX12_judge 21 = .ok (.iload_n 1, 1) := by decide +kernel
theorem dX12_judge_22 : decode cX12_judge 22 = .ok (.invokevirtual 312, 3) := by decide +kernel
theorem dX12_judge_25 : decode cX12_judge 25 = .ok (.istore_n 3, 1) := by decide +kernel
theorem dX12_judge_26 : decode cX12_judge 26 = .ok (.iload_n 3, 1) := by decide +kernel
theorem dX12_judge_27 : decode cX12_judge 27 = .ok (.ifCond .eq 5, 3) := by decide +kernel
theorem dX12_judge_30 : decode cX12_judge 30 = .ok (.iload_n 3, 1) := by decide +kernel
theorem dX12_judge_31 : decode cX12_judge 31 = .ok (.ireturn, 1) := by decide +kernel
theorem dX12_walk_0 : decode cX12_walk 0 = .ok (.aload_n 0, 1) := by decide +kernel
theorem dX12_walk_1 : decode cX12_walk 1 = .ok (.iconst 0, 1) := by decide +kernel
theorem dX12_walk_2 : decode cX12_walk 2 = .ok (.putfield 1, 3) := by decide +kernel
theorem dX12_walk_5 : decode cX12_walk 5 = .ok (.aload_n 0, 1) := by decide +kernel
theorem dX12_walk_6 : decode cX12_walk 6 = .ok (.iload_n 1, 1) := by decide +kernel
theorem dX12_walk_7 : decode cX12_walk 7 = .ok (.invokevirtual 312, 3) := by decide +kernel
theorem dX12_walk_10 : decode cX12_walk 10 = .ok (.istore_n 2, 1) := by decide +kernel
theorem dX12_walk_11 : decode cX12_walk 11 = .ok (.iload_n 2, 1) := by decide +kernel
theorem dX12_walk_12 : decode cX12_walk 12 = .ok (.ifCond .eq 5, 3) := by decide +kernel
theorem dX12_walk_15 : decode cX12_walk 15 = .ok (.iload_n 2, 1) := by decide +kernel
theorem dX12_walk_16 : decode cX12_walk 16 = .ok (.ireturn, 1) := by decide +kernel
theorem dX12_write_0 : decode cX12_write 0 = .ok (.aload_n 0, 1) := by decide +kernel
theorem dX12_write_1 : decode cX12_write 1 = .ok (.iconst 0, 1) := by decide +kernel
theorem dX12_write_2 : decode cX12_write 2 = .ok (.putfield 1, 3) := by decide +kernel
theorem dX12_write_5 : decode cX12_write 5 = .ok (.aload_n 0, 1) := by decide +kernel
theorem dX12_write_6 : decode cX12_write 6 = .ok (.iload_n 1, 1) := by decide +kernel
theorem dX12_write_7 : decode cX12_write 7 = .ok (.invokevirtual 312, 3) := by decide +kernel
theorem dX12_write_10 : decode cX12_write 10 = .ok (.istore 5, 2) := by decide +kernel
theorem dX12_write_12 : decode cX12_write 12 = .ok (.iload 5, 2) := by decide +kernel
theorem dX12_write_14 : decode cX12_write 14 = .ok (.ifCond .eq 7, 3) := by decide +kernel
theorem dX12_write_17 : decode cX12_write 17 = .ok (.iload 5, 2) := by decide +kernel
theorem dX12_write_19 : decode cX12_write 19 = .ok (.i2l, 1) := by decide +kernel
theorem dX12_write_20 : decode cX12_write 20 = .ok (.lreturn, 1) := by decide +kernel
theorem dX12_restore_0 : decode cX12_restore 0 = .ok (.aload_n 0, 1) := by decide +kernel
theorem dX12_restore_1 : decode cX12_restore 1 = .ok (.iconst 0, 1) := by decide +kernel
theorem dX12_restore_2 : decode cX12_restore 2 = .ok (.putfield 1, 3) := by decide +kernel
theorem dX12_restore_5 : decode cX12_restore 5 = .ok (.iload_n 1, 1) := by decide +kernel
theorem dX12_restore_6 : decode cX12_restore 6 = .ok (.i2l, 1) := by decide +kernel
theorem dX12_restore_7 : decode cX12_restore 7 = .ok (.lconst 0, 1) := by decide +kernel
theorem dX12_restore_8 : decode cX12_restore 8 = .ok (.lconst 1, 1) := by decide +kernel
theorem dX12_restore_9 : decode cX12_restore 9 = .ok (.invokestatic 161, 3) := by decide +kernel
theorem dX12_restore_12 : decode cX12_restore 12 = .ok (.ifCond .ne 6, 3) := by decide +kernel
theorem dX12_restore_15 : decode cX12_restore 15 = .ok (.bipush (-2), 2) := by decide +kernel
theorem dX12_restore_17 : decode cX12_restore 17 = .ok (.ireturn, 1) := by decide +kernel
theorem dX12_restore_18 : decode cX12_restore 18 = .ok (.aload_n 0, 1) := by decide +kernel
theorem dX12_restore_19 : decode cX12_restore 19 = .ok (.getfield 17, 3) := by decide +kernel
theorem dX12_restore_22 : decode cX12_restore 22 = .ok (.iload_n 1, 1) := by decide +kernel
theorem dX12_restore_23 : decode cX12_restore 23 = .ok (.baload, 1) := by decide +kernel
theorem dX12_restore_24 : decode cX12_restore 24 = .ok (.ifCond .ne 6, 3) := by decide +kernel
theorem dX12_restore_27 : decode cX12_restore 27 = .ok (.bipush (-5), 2) := by decide +kernel
theorem dX12_restore_29 : decode cX12_restore 29 = .ok (.ireturn, 1) := by decide +kernel
set_option maxHeartbeats 4000000 in
set_option maxRecDepth 100000 in
theorem c_X12_within (l : Launch) (G : GG) (v : Int64) (lo : Int64) (hi : Int64) : Mt l yX12_within cX12_within 6 (some .boolean) 0 0 0 G [.long v, .long lo, .long hi] [] (Ri (S := Unit) G (fun r _ => (r = 1 ∧ (lo ≤ v ∧ v ≤ hi)) ∨ (r = 0 ∧ ¬ (lo ≤ v ∧ v ≤ hi))) (fun _ => [])) := by
  refine Mt.start (by decide) (Nat.le_of_ble_eq_true rfl) ?_
  intro p e s m below meth c A ls C0 hini h hl
  have C0 : Cx p s m _ meth c RX12 cX12_within 6 (some .boolean) := C0
  obtain ⟨hx, hb, hml, hown, hts, -⟩ := id C0
  have hl : lv_has ls 6 [(0, .long v), (2, .long lo), (4, .long hi)] := hl
  refine lv_lload_n hx hb dX12_within_0 rfl (lv_at hl 0 rfl) ?_
  refine lv_lload_n hx hb dX12_within_1 rfl (lv_at hl 1 rfl) ?_
  refine W.lcmp hx hb dX12_within_2 ?_
  refine lv_if_lt (tgt := 17) hx hb dX12_within_3 (by decide) (fun c_1 => ?_) (fun c_1 => ?_)
  · -- 3 lg_cmp v lo < 0
    refine lv_iconst (v := 0) hx hb dX12_within_17 (by decide) ?_
    exact m_zret () C0 h (by decide) [] (by decide) rfl (by simp only [lg_cmp_lt, lg_cmp_gt] at *; grind) (Nat.le_of_ble_eq_true rfl) (Nat.le_of_ble_eq_true rfl) dX12_within_18
  · -- 3 ¬ lg_cmp v lo < 0
    refine lv_lload_n hx hb dX12_within_6 rfl (lv_at hl 0 rfl) ?_
    refine lv_lload hx hb dX12_within_7 (lv_at hl 2 rfl) ?_
    refine W.lcmp hx hb dX12_within_9 ?_
    refine lv_if_gt (tgt := 17) hx hb dX12_within_10 (by decide) (fun c_2 => ?_) (fun c_2 => ?_)
    · -- 10 0 < lg_cmp v hi
      refine lv_iconst (v := 0) hx hb dX12_within_17 (by decide) ?_
      exact m_zret () C0 h (by decide) [] (by decide) rfl (by simp only [lg_cmp_lt, lg_cmp_gt] at *; grind) (Nat.le_of_ble_eq_true rfl) (Nat.le_of_ble_eq_true rfl) dX12_within_18
    · -- 10 ¬ 0 < lg_cmp v hi
      refine lv_iconst (v := 1) hx hb dX12_within_13 (by decide) ?_
      refine lv_goto (tgt := 18) hx hb dX12_within_14 (by decide) ?_
      exact m_zret () C0 h (by decide) [] (by decide) rfl (by simp only [lg_cmp_lt, lg_cmp_gt] at *; grind) (Nat.le_of_ble_eq_true rfl) (Nat.le_of_ble_eq_true rfl) dX12_within_18
set_option maxHeartbeats 4000000 in
set_option maxRecDepth 100000 in
theorem c_X12_isPerson (l : Launch) (G : GG) (o : Nat) (r : Nat → Nat) (p0 : Int64) : Mt l yX12_isPerson cX12_isPerson 3 (some .boolean) 1 0 0 G [.ref o, .long p0] [(o, mO r), (r 1, .inl (G.2 1, 5322, .inl (fun _ => 0)))] (Ri (S := Unit) G (fun r _ => r = 0) (fun _ => [(o, mO r), (r 1, .inl (G.2 1, 5322, .inl (fun _ => 0)))])) := by
  refine Mt.start (by decide) (Nat.le_of_ble_eq_true rfl) ?_
  intro p e s m below meth c A ls C0 hini h hl
  have C0 : Cx p s m _ meth c RX12 cX12_isPerson 3 (some .boolean) := C0
  obtain ⟨hx, hb, hml, hown, hts, -⟩ := id C0
  have hl : lv_has ls 3 [(0, .ref o), (1, .long p0)] := hl
  refine lv_lload_n hx hb dX12_isPerson_0 rfl (lv_at hl 1 rfl) ?_
  refine lv_lconst (v := 0) hx hb dX12_isPerson_1 (by decide) ?_
  refine lv_aload_n hx hb dX12_isPerson_2 rfl (lv_at hl 0 rfl) ?_
  refine g_X12_all C0 h 0 q_1439 rfl rfl dX12_isPerson_3 ?_
  refine lv_iconst (v := 3) hx hb dX12_isPerson_6 (by decide) ?_
  refine m_iald C0 h 1 3 rfl (by decide) (by decide) (by decide) dX12_isPerson_7 ?_
  refine W.eq (g2 := F0 m 8 ls [.int 0, .long 0, .long p0]) rfl ?_
  refine lv_iconst (v := 1) hx hb dX12_isPerson_8 (by decide) ?_
  refine lv_isub hx hb dX12_isPerson_9 ?_
  refine lv_topi (fun k_1 ek_1 => ?_)
  obtain rfl : k_1 = (-1) := ek_1.trans (by decide)
  refine lv_i2l (v := (-1)) hx hb dX12_isPerson_10 (by decide) ?_
  refine m_cli (wr := [(o, mO r), (r 1, .inl (G.2 1, 5322, .inl (fun _ => 0)))]) h (m_rS (As := [.long p0, .long 0, .long (-1)]) (rest := []) C0 h (c_X12_within l G p0 0 (-1)) k_X12_within q_1580 q_1579 [] (by decide) rfl hl.1 rfl rfl (Nat.le_of_ble_eq_true rfl) dX12_isPerson_11 ⟨Nat.le_of_ble_eq_true rfl, Nat.le_of_ble_eq_true rfl⟩ ⟨Nat.le_of_ble_eq_true rfl, Nat.le_of_ble_eq_true rfl⟩) [] [0, 1] rfl rfl (by decide) (by decide) (fun r_4 u_2 H locs hp_3 h => ?_)
  have h : Wd G A s _ _ [(o, mO r), (r 1, .inl (G.2 1, 5322, .inl (fun _ => 0)))] := h
  rcases hp_3 with ⟨_, hp_3w⟩ | ⟨rfl, hp_3w⟩
  · exact absurd (Int64.le_trans hp_3w.1 hp_3w.2) (by decide)
  exact m_zret () C0 h (by decide) [0, 1] (by decide) rfl rfl (Nat.le_of_ble_eq_true rfl) (Nat.le_of_ble_eq_true rfl) dX12_isPerson_14
set_option maxHeartbeats 4000000 in
set_option maxRecDepth 100000 in
theorem c_X12_crossings (l : Launch) (G : GG) (o : Nat) (r : Nat → Nat) : Mt l yX12_crossings cX12_crossings 1 (some .int) 0 0 0 G [.ref o] [(o, mO r), (r 1, .inl (G.2 1, 5322, .inl (fun _ => 0)))] (Ri (S := Unit) G (fun r _ => r = 0) (fun _ => [(o, mO r), (r 1, .inl (G.2 1, 5322, .inl (fun _ => 0)))])) := by
  refine Mt.start (by decide) (Nat.le_of_ble_eq_true rfl) ?_
  intro p e s m below meth c A ls C0 hini h hl
  have C0 : Cx p s m _ meth c RX12 cX12_crossings 1 (some .int) := C0
  obtain ⟨hx, hb, hml, hown, hts, -⟩ := id C0
  have hl : lv_has ls 1 [(0, .ref o)] := hl
  refine lv_aload_n hx hb dX12_crossings_0 rfl (lv_at hl 0 rfl) ?_
  refine g_X12_all C0 h 0 q_1439 rfl rfl dX12_crossings_1 ?_
  refine lv_iconst (v := 1) hx hb dX12_crossings_4 (by decide) ?_
  refine m_iald C0 h 1 1 rfl (by decide) (by decide) (by decide) dX12_crossings_5 ?_
  refine W.eq (g2 := F0 m 6 ls [.int 0]) rfl ?_
  refine lv_aload_n hx hb dX12_crossings_6 rfl (lv_at hl 0 rfl) ?_
  refine g_X12_all C0 h 0 q_1439 rfl rfl dX12_crossings_7 ?_
  refine lv_iconst (v := 2) hx hb dX12_crossings_10 (by decide) ?_
  refine m_iald C0 h 1 2 rfl (by decide) (by decide) (by decide) dX12_crossings_11 ?_
  refine W.eq (g2 := F0 m 12 ls [.int 0, .int 0]) rfl ?_
  refine lv_imul hx hb dX12_crossings_12 ?_
  refine lv_topi (fun k_1 ek_1 => ?_)
  obtain rfl : k_1 = 0 := ek_1.trans (by decide)
  exact m_iret () C0 h [0, 1] (by decide) rfl rfl (Nat.le_of_ble_eq_true rfl) (Nat.le_of_ble_eq_true rfl) dX12_crossings_13
set_option maxHeartbeats 4000000 in
set_option maxRecDepth 100000 in
theorem c_X12_isCrossing (l : Launch) (G : GG) (o : Nat) (r : Nat → Nat) (p0 : Int64) : Mt l yX12_isCrossing cX12_isCrossing 3 (some .boolean) 1 0 0 G [.ref o, .long p0] [(o, mO r), (r 1, .inl (G.2 1, 5322, .inl (fun _ => 0)))] (Ri (S := Unit) G (fun r _ => r = 0) (fun _ => [(o, mO r), (r 1, .inl (G.2 1, 5322, .inl (fun _ => 0)))])) := by
  refine Mt.start (by decide) (Nat.le_of_ble_eq_true rfl) ?_
  intro p e s m below meth c A ls C0 hini h hl
  have C0 : Cx p s m _ meth c RX12 cX12_isCrossing 3 (some .boolean) := C0
  obtain ⟨hx, hb, hml, hown, hts, -⟩ := id C0
  have hl : lv_has ls 3 [(0, .ref o), (1, .long p0)] := hl
  refine lv_lload_n hx hb dX12_isCrossing_0 rfl (lv_at hl 1 rfl) ?_
  refine lv_lconst (v := 0) hx hb dX12_isCrossing_1 (by decide) ?_
  refine lv_aload_n hx hb dX12_isCrossing_2 rfl (lv_at hl 0 rfl) ?_
  refine m_cli (wr := []) h (m_rV (ci := 12) (q0 := 0) (As := []) (rest := [.long 0, .long p0]) C0 h (c_X12_crossings l G o r) k_X12_crossings q_1705 q_79 q_1703 rfl rfl rfl [0, 1] (by decide) rfl hl.1 rfl rfl (Nat.le_of_ble_eq_true rfl) dX12_isCrossing_3 ⟨Nat.le_of_ble_eq_true rfl, Nat.le_of_ble_eq_true rfl⟩ ⟨Nat.le_of_ble_eq_true rfl, Nat.le_of_ble_eq_true rfl⟩) [0, 1] [] rfl rfl (by decide) (by decide) (fun r_3 u_1 H locs hp_2 h => ?_)
  have h : Wd G A s _ _ [(o, mO r), (r 1, .inl (G.2 1, 5322, .inl (fun _ => 0)))] := h
  obtain rfl : r_3 = 0 := hp_2
  refine lv_iconst (v := 1) hx hb dX12_isCrossing_6 (by decide) ?_
  refine lv_isub hx hb dX12_isCrossing_7 ?_
  refine lv_topi (fun k_4 ek_4 => ?_)
  obtain rfl : k_4 = (-1) := ek_4.trans (by decide)
  refine lv_i2l (v := (-1)) hx hb dX12_isCrossing_8 (by decide) ?_
  refine m_cli (wr := [(o, mO r), (r 1, .inl (G.2 1, 5322, .inl (fun _ => 0)))]) h (m_rS (As := [.long p0, .long 0, .long (-1)]) (rest := []) C0 h (c_X12_within l G p0 0 (-1)) k_X12_within q_1580 q_1579 [] (by decide) rfl hl.1 rfl rfl (Nat.le_of_ble_eq_true rfl) dX12_isCrossing_9 ⟨Nat.le_of_ble_eq_true rfl, Nat.le_of_ble_eq_true rfl⟩ ⟨Nat.le_of_ble_eq_true rfl, Nat.le_of_ble_eq_true rfl⟩) [] [0, 1] rfl rfl (by decide) (by decide) (fun r_7 u_5 H locs hp_6 h => ?_)
  have h : Wd G A s _ _ [(o, mO r), (r 1, .inl (G.2 1, 5322, .inl (fun _ => 0)))] := h
  rcases hp_6 with ⟨_, hp_6w⟩ | ⟨rfl, hp_6w⟩
  · exact absurd (Int64.le_trans hp_6w.1 hp_6w.2) (by decide)
  exact m_zret () C0 h (by decide) [0, 1] (by decide) rfl rfl (Nat.le_of_ble_eq_true rfl) (Nat.le_of_ble_eq_true rfl) dX12_isCrossing_12
set_option maxHeartbeats 4000000 in
set_option maxRecDepth 100000 in
theorem c_X12_areThere (l : Launch) (G : GG) (o : Nat) (r : Nat → Nat) (p0 : Int32) (p1 : Int32) : Mt l yX12_areThere cX12_areThere 3 (some .boolean) 2 0 0 G [.ref o, .int p0, .int p1] [(o, mO r), (r 1, .inl (G.2 1, 5322, .inl (fun _ => 0)))] (Ri (S := Unit) G (fun r _ => r = 0) (fun _ => [(o, mO r), (r 1, .inl (G.2 1, 5322, .inl (fun _ => 0)))])) := by
  refine Mt.start (by decide) (Nat.le_of_ble_eq_true rfl) ?_
  intro p e s m below meth c A ls C0 hini h hl
  have C0 : Cx p s m _ meth c RX12 cX12_areThere 3 (some .boolean) := C0
  obtain ⟨hx, hb, hml, hown, hts, -⟩ := id C0
  have hl : lv_has ls 3 [(0, .ref o), (1, .int p0), (2, .int p1)] := hl
  refine lv_aload_n hx hb dX12_areThere_0 rfl (lv_at hl 0 rfl) ?_
  refine lv_iload_n hx hb dX12_areThere_1 rfl (lv_at hl 1 rfl) ?_
  refine lv_i2l (v := p0.toInt64) hx hb dX12_areThere_2 rfl ?_
  refine m_cli (wr := []) h (m_rV (ci := 12) (q0 := 0) (As := [.long p0.toInt64]) (rest := []) C0 h (c_X12_isPerson l G o r p0.toInt64) k_X12_isPerson q_1693 q_77 q_1691 rfl rfl rfl [0, 1] (by decide) rfl hl.1 rfl rfl (Nat.le_of_ble_eq_true rfl) dX12_areThere_3 ⟨Nat.le_of_ble_eq_true rfl, Nat.le_of_ble_eq_true rfl⟩ ⟨Nat.le_of_ble_eq_true rfl, Nat.le_of_ble_eq_true rfl⟩) [0, 1] [] rfl rfl (by decide) (by decide) (fun r_3 u_1 H locs hp_2 h => ?_)
  have h : Wd G A s _ _ [(o, mO r), (r 1, .inl (G.2 1, 5322, .inl (fun _ => 0)))] := h
  obtain rfl : r_3 = 0 := hp_2
  refine lv_if_eq (tgt := 22) hx hb dX12_areThere_6 (by decide) (fun c_4 => ?_) (fun c_4 => absurd c_4 (by decide))
  refine lv_iconst (v := 0) hx hb dX12_areThere_22 (by decide) ?_
  exact m_zret () C0 h (by decide) [0, 1] (by decide) rfl rfl (Nat.le_of_ble_eq_true rfl) (Nat.le_of_ble_eq_true rfl) dX12_areThere_23
set_option maxHeartbeats 4000000 in
set_option maxRecDepth 100000 in
theorem c_X12_person (l : Launch) (G : GG) (o : Nat) (r : Nat → Nat) (p0 : Int32) (p1 : Int32) : Mt l yX12_person cX12_person 3 (some .int) 3 0 0 G [.ref o, .int p0, .int p1] [(o, mO r), (r 1, .inl (G.2 1, 5322, .inl (fun _ => 0)))] (Ri (S := Unit) G (fun r _ => r = (-8)) (fun _ => [])) := by
  refine Mt.start (by decide) (Nat.le_of_ble_eq_true rfl) ?_
  intro p e s m below meth c A ls C0 hini h hl
  have C0 : Cx p s m _ meth c RX12 cX12_person 3 (some .int) := C0
  obtain ⟨hx, hb, hml, hown, hts, -⟩ := id C0
  have hl : lv_has ls 3 [(0, .ref o), (1, .int p0), (2, .int p1)] := hl
  refine lv_aload_n hx hb dX12_person_0 rfl (lv_at hl 0 rfl) ?_
  refine lv_iconst (v := 0) hx hb dX12_person_1 (by decide) ?_
  refine p_X12_thrown (ws' := [(o, mO r), (r 1, .inl (G.2 1, 5322, .inl (fun _ => 0)))]) C0 h 0 q_1438 rfl (Nat.le_of_ble_eq_true rfl) rfl rfl rfl dX12_person_2 (fun H locs h => ?_)
  refine lv_aload_n hx hb dX12_person_5 rfl (lv_at hl 0 rfl) ?_
  refine lv_iload_n hx hb dX12_person_6 rfl (lv_at hl 1 rfl) ?_
  refine lv_i2l (v := p0.toInt64) hx hb dX12_person_7 rfl ?_
  refine m_cli (wr := []) h (m_rV (ci := 12) (q0 := 0) (As := [.long p0.toInt64]) (rest := []) C0 h (c_X12_isPerson l G o r p0.toInt64) k_X12_isPerson q_1693 q_77 q_1691 rfl rfl rfl [0, 1] (by decide) rfl hl.1 rfl rfl (Nat.le_of_ble_eq_true rfl) dX12_person_8 ⟨Nat.le_of_ble_eq_true rfl, Nat.le_of_ble_eq_true rfl⟩ ⟨Nat.le_of_ble_eq_true rfl, Nat.le_of_ble_eq_true rfl⟩) [0, 1] [] rfl rfl (by decide) (by decide) (fun r_3 u_1 H locs hp_2 h => ?_)
  have h : Wd G A s _ _ [(o, mO r), (r 1, .inl (G.2 1, 5322, .inl (fun _ => 0)))] := h
  obtain rfl : r_3 = 0 := hp_2
  refine lv_if_ne (tgt := 17) hx hb dX12_person_11 (by decide) (fun c_4 => absurd c_4 (by decide)) (fun c_4 => ?_)
  refine lv_bipush (v := (-8)) hx hb dX12_person_14 (by decide) ?_
  exact m_iret () C0 h [] (by decide) rfl rfl (Nat.le_of_ble_eq_true rfl) (Nat.le_of_ble_eq_true rfl) dX12_person_16
set_option maxHeartbeats 4000000 in
set_option maxRecDepth 100000 in
theorem c_X12_street (l : Launch) (G : GG) (o : Nat) (r : Nat → Nat) (p0 : Int32) (p1 : Int32) : Mt l yX12_street cX12_street 3 (some .int) 3 0 0 G [.ref o, .int p0, .int p1] [(o, mO r), (r 1, .inl (G.2 1, 5322, .inl (fun _ => 0)))] (Ri (S := Unit) G (fun r _ => r = (-2)) (fun _ => [])) := by
  refine Mt.start (by decide) (Nat.le_of_ble_eq_true rfl) ?_
  intro p e s m below meth c A ls C0 hini h hl
  have C0 : Cx p s m _ meth c RX12 cX12_street 3 (some .int) := C0
  obtain ⟨hx, hb, hml, hown, hts, -⟩ := id C0
  have hl : lv_has ls 3 [(0, .ref o), (1, .int p0), (2, .int p1)] := hl
  refine lv_aload_n hx hb dX12_street_0 rfl (lv_at hl 0 rfl) ?_
  refine lv_iconst (v := 0) hx hb dX12_street_1 (by decide) ?_
  refine p_X12_thrown (ws' := [(o, mO r), (r 1, .inl (G.2 1, 5322, .inl (fun _ => 0)))]) C0 h 0 q_1438 rfl (Nat.le_of_ble_eq_true rfl) rfl rfl rfl dX12_street_2 (fun H locs h => ?_)
  refine lv_aload_n hx hb dX12_street_5 rfl (lv_at hl 0 rfl) ?_
  refine lv_iload_n hx hb dX12_street_6 rfl (lv_at hl 1 rfl) ?_
  refine lv_i2l (v := p0.toInt64) hx hb dX12_street_7 rfl ?_
  refine m_cli (wr := []) h (m_rV (ci := 12) (q0 := 0) (As := [.long p0.toInt64]) (rest := []) C0 h (c_X12_isCrossing l G o r p0.toInt64) k_X12_isCrossing q_1701 q_78 q_1699 rfl rfl rfl [0, 1] (by decide) rfl hl.1 rfl rfl (Nat.le_of_ble_eq_true rfl) dX12_street_8 ⟨Nat.le_of_ble_eq_true rfl, Nat.le_of_ble_eq_true rfl⟩ ⟨Nat.le_of_ble_eq_true rfl, Nat.le_of_ble_eq_true rfl⟩) [0, 1] [] rfl rfl (by decide) (by decide) (fun r_3 u_1 H locs hp_2 h => ?_)
  have h : Wd G A s _ _ [(o, mO r), (r 1, .inl (G.2 1, 5322, .inl (fun _ => 0)))] := h
  obtain rfl : r_3 = 0 := hp_2
  refine lv_if_eq (tgt := 30) hx hb dX12_street_11 (by decide) (fun c_4 => ?_) (fun c_4 => absurd c_4 (by decide))
  refine lv_bipush (v := (-2)) hx hb dX12_street_30 (by decide) ?_
  exact m_iret () C0 h [] (by decide) rfl rfl (Nat.le_of_ble_eq_true rfl) (Nat.le_of_ble_eq_true rfl) dX12_street_32
set_option maxHeartbeats 4000000 in
set_option maxRecDepth 100000 in
theorem c_X12_crossing (l : Launch) (G : GG) (o : Nat) (r : Nat → Nat) (p0 : Int32) (p1 : Int32) : Mt l yX12_crossing cX12_crossing 3 (some .int) 3 0 0 G [.ref o, .int p0, .int p1] [(o, mO r), (r 1, .inl (G.2 1, 5322, .inl (fun _ => 0)))] (Ri (S := Unit) G (fun r _ => r = (-2)) (fun _ => [])) := by
  refine Mt.start (by decide) (Nat.le_of_ble_eq_true rfl) ?_
  intro p e s m below meth c A ls C0 hini h hl
  have C0 : Cx p s m _ meth c RX12 cX12_crossing 3 (some .int) := C0
  obtain ⟨hx, hb, hml, hown, hts, -⟩ := id C0
  have hl : lv_has ls 3 [(0, .ref o), (1, .int p0), (2, .int p1)] := hl
  refine lv_aload_n hx hb dX12_crossing_0 rfl (lv_at hl 0 rfl) ?_
  refine lv_iconst (v := 0) hx hb dX12_crossing_1 (by decide) ?_
  refine p_X12_thrown (ws' := [(o, mO r), (r 1, .inl (G.2 1, 5322, .inl (fun _ => 0)))]) C0 h 0 q_1438 rfl (Nat.le_of_ble_eq_true rfl) rfl rfl rfl dX12_crossing_2 (fun H locs h => ?_)
  refine lv_aload_n hx hb dX12_crossing_5 rfl (lv_at hl 0 rfl) ?_
  refine lv_iload_n hx hb dX12_crossing_6 rfl (lv_at hl 1 rfl) ?_
  refine lv_i2l (v := p0.toInt64) hx hb dX12_crossing_7 rfl ?_
  refine m_cli (wr := []) h (m_rV (ci := 12) (q0 := 0) (As := [.long p0.toInt64]) (rest := []) C0 h (c_X12_isCrossing l G o r p0.toInt64) k_X12_isCrossing q_1701 q_78 q_1699 rfl rfl rfl [0, 1] (by decide) rfl hl.1 rfl rfl (Nat.le_of_ble_eq_true rfl) dX12_crossing_8 ⟨Nat.le_of_ble_eq_true rfl, Nat.le_of_ble_eq_true rfl⟩ ⟨Nat.le_of_ble_eq_true rfl, Nat.le_of_ble_eq_true rfl⟩) [0, 1] [] rfl rfl (by decide) (by decide) (fun r_3 u_1 H locs hp_2 h => ?_)
  have h : Wd G A s _ _ [(o, mO r), (r 1, .inl (G.2 1, 5322, .inl (fun _ => 0)))] := h
  obtain rfl : r_3 = 0 := hp_2
  refine lv_if_ne (tgt := 17) hx hb dX12_crossing_11 (by decide) (fun c_4 => absurd c_4 (by decide)) (fun c_4 => ?_)
  refine lv_bipush (v := (-2)) hx hb dX12_crossing_14 (by decide) ?_
  exact m_iret () C0 h [] (by decide) rfl rfl (Nat.le_of_ble_eq_true rfl) (Nat.le_of_ble_eq_true rfl) dX12_crossing_16
set_option maxHeartbeats 4000000 in
set_option maxRecDepth 100000 in
theorem c_X12_price (l : Launch) (G : GG) (o : Nat) (r : Nat → Nat) (p0 : Int32) (p1 : Int32) (p2 : Int32) : Mt l yX12_price cX12_price 4 (some .int) 3 0 0 G [.ref o, .int p0, .int p1, .int p2] [(o, mO r), (r 1, .inl (G.2 1, 5322, .inl (fun _ => 0)))] (Ri (S := Unit) G (fun r _ => r = (-2)) (fun _ => [])) := by
  refine Mt.start (by decide) (Nat.le_of_ble_eq_true rfl) ?_
  intro p e s m below meth c A ls C0 hini h hl
  have C0 : Cx p s m _ meth c RX12 cX12_price 4 (some .int) := C0
  obtain ⟨hx, hb, hml, hown, hts, -⟩ := id C0
  have hl : lv_has ls 4 [(0, .ref o), (1, .int p0), (2, .int p1), (3, .int p2)] := hl
  refine lv_aload_n hx hb dX12_price_0 rfl (lv_at hl 0 rfl) ?_
  refine lv_iconst (v := 0) hx hb dX12_price_1 (by decide) ?_
  refine p_X12_thrown (ws' := [(o, mO r), (r 1, .inl (G.2 1, 5322, .inl (fun _ => 0)))]) C0 h 0 q_1438 rfl (Nat.le_of_ble_eq_true rfl) rfl rfl rfl dX12_price_2 (fun H locs h => ?_)
  refine lv_aload_n hx hb dX12_price_5 rfl (lv_at hl 0 rfl) ?_
  refine lv_iload_n hx hb dX12_price_6 rfl (lv_at hl 1 rfl) ?_
  refine lv_i2l (v := p0.toInt64) hx hb dX12_price_7 rfl ?_
  refine m_cli (wr := []) h (m_rV (ci := 12) (q0 := 0) (As := [.long p0.toInt64]) (rest := []) C0 h (c_X12_isCrossing l G o r p0.toInt64) k_X12_isCrossing q_1701 q_78 q_1699 rfl rfl rfl [0, 1] (by decide) rfl hl.1 rfl rfl (Nat.le_of_ble_eq_true rfl) dX12_price_8 ⟨Nat.le_of_ble_eq_true rfl, Nat.le_of_ble_eq_true rfl⟩ ⟨Nat.le_of_ble_eq_true rfl, Nat.le_of_ble_eq_true rfl⟩) [0, 1] [] rfl rfl (by decide) (by decide) (fun r_3 u_1 H locs hp_2 h => ?_)
  have h : Wd G A s _ _ [(o, mO r), (r 1, .inl (G.2 1, 5322, .inl (fun _ => 0)))] := h
  obtain rfl : r_3 = 0 := hp_2
  refine lv_if_eq (tgt := 21) hx hb dX12_price_11 (by decide) (fun c_4 => ?_) (fun c_4 => absurd c_4 (by decide))
  refine lv_bipush (v := (-2)) hx hb dX12_price_21 (by decide) ?_
  exact m_iret () C0 h [] (by decide) rfl rfl (Nat.le_of_ble_eq_true rfl) (Nat.le_of_ble_eq_true rfl) dX12_price_23
set_option maxHeartbeats 4000000 in
set_option maxRecDepth 100000 in
theorem c_X12_buy (l : Launch) (G : GG) (o : Nat) (r : Nat → Nat) (p0 : Int32) (p1 : Int32) : Mt l yX12_buy cX12_buy 4 (some .int) 3 0 0 G [.ref o, .int p0, .int p1] [(o, mO r), (r 1, .inl (G.2 1, 5322, .inl (fun _ => 0)))] (Ri (S := Unit) G (fun r _ => r = (-2)) (fun _ => [])) := by
  refine Mt.start (by decide) (Nat.le_of_ble_eq_true rfl) ?_
  intro p e s m below meth c A ls C0 hini h hl
  have C0 : Cx p s m _ meth c RX12 cX12_buy 4 (some .int) := C0
  obtain ⟨hx, hb, hml, hown, hts, -⟩ := id C0
  have hl : lv_has ls 4 [(0, .ref o), (1, .int p0), (2, .int p1)] := hl
  refine lv_aload_n hx hb dX12_buy_0 rfl (lv_at hl 0 rfl) ?_
  refine lv_iconst (v := 0) hx hb dX12_buy_1 (by decide) ?_
  refine p_X12_thrown (ws' := [(o, mO r), (r 1, .inl (G.2 1, 5322, .inl (fun _ => 0)))]) C0 h 0 q_1438 rfl (Nat.le_of_ble_eq_true rfl) rfl rfl rfl dX12_buy_2 (fun H locs h => ?_)
  refine lv_aload_n hx hb dX12_buy_5 rfl (lv_at hl 0 rfl) ?_
  refine lv_iload_n hx hb dX12_buy_6 rfl (lv_at hl 1 rfl) ?_
  refine lv_i2l (v := p0.toInt64) hx hb dX12_buy_7 rfl ?_
  refine m_cli (wr := []) h (m_rV (ci := 12) (q0 := 0) (As := [.long p0.toInt64]) (rest := []) C0 h (c_X12_isPerson l G o r p0.toInt64) k_X12_isPerson q_1693 q_77 q_1691 rfl rfl rfl [0, 1] (by decide) rfl hl.1 rfl rfl (Nat.le_of_ble_eq_true rfl) dX12_buy_8 ⟨Nat.le_of_ble_eq_true rfl, Nat.le_of_ble_eq_true rfl⟩ ⟨Nat.le_of_ble_eq_true rfl, Nat.le_of_ble_eq_true rfl⟩) [0, 1] [] rfl rfl (by decide) (by decide) (fun r_3 u_1 H locs hp_2 h => ?_)
  have h : Wd G A s _ _ [(o, mO r), (r 1, .inl (G.2 1, 5322, .inl (fun _ => 0)))] := h
  obtain rfl : r_3 = 0 := hp_2
  refine lv_if_ne (tgt := 17) hx hb dX12_buy_11 (by decide) (fun c_4 => absurd c_4 (by decide)) (fun c_4 => ?_)
  refine lv_bipush (v := (-2)) hx hb dX12_buy_14 (by decide) ?_
  exact m_iret () C0 h [] (by decide) rfl rfl (Nat.le_of_ble_eq_true rfl) (Nat.le_of_ble_eq_true rfl) dX12_buy_16
set_option maxHeartbeats 4000000 in
set_option maxRecDepth 100000 in
theorem c_X12_sell (l : Launch) (G : GG) (o : Nat) (r : Nat → Nat) (p0 : Int32) : Mt l yX12_sell cX12_sell 3 (some .int) 3 0 0 G [.ref o, .int p0] [(o, mO r), (r 1, .inl (G.2 1, 5322, .inl (fun _ => 0)))] (Ri (S := Unit) G (fun r _ => r = (-2)) (fun _ => [])) := by
  refine Mt.start (by decide) (Nat.le_of_ble_eq_true rfl) ?_
  intro p e s m below meth c A ls C0 hini h hl
  have C0 : Cx p s m _ meth c RX12 cX12_sell 3 (some .int) := C0
  obtain ⟨hx, hb, hml, hown, hts, -⟩ := id C0
  have hl : lv_has ls 3 [(0, .ref o), (1, .int p0)] := hl
  refine lv_aload_n hx hb dX12_sell_0 rfl (lv_at hl 0 rfl) ?_
  refine lv_iconst (v := 0) hx hb dX12_sell_1 (by decide) ?_
  refine p_X12_thrown (ws' := [(o, mO r), (r 1, .inl (G.2 1, 5322, .inl (fun _ => 0)))]) C0 h 0 q_1438 rfl (Nat.le_of_ble_eq_true rfl) rfl rfl rfl dX12_sell_2 (fun H locs h => ?_)
  refine lv_aload_n hx hb dX12_sell_5 rfl (lv_at hl 0 rfl) ?_
  refine lv_iload_n hx hb dX12_sell_6 rfl (lv_at hl 1 rfl) ?_
  refine lv_i2l (v := p0.toInt64) hx hb dX12_sell_7 rfl ?_
  refine m_cli (wr := []) h (m_rV (ci := 12) (q0 := 0) (As := [.long p0.toInt64]) (rest := []) C0 h (c_X12_isPerson l G o r p0.toInt64) k_X12_isPerson q_1693 q_77 q_1691 rfl rfl rfl [0, 1] (by decide) rfl hl.1 rfl rfl (Nat.le_of_ble_eq_true rfl) dX12_sell_8 ⟨Nat.le_of_ble_eq_true rfl, Nat.le_of_ble_eq_true rfl⟩ ⟨Nat.le_of_ble_eq_true rfl, Nat.le_of_ble_eq_true rfl⟩) [0, 1] [] rfl rfl (by decide) (by decide) (fun r_3 u_1 H locs hp_2 h => ?_)
  have h : Wd G A s _ _ [(o, mO r), (r 1, .inl (G.2 1, 5322, .inl (fun _ => 0)))] := h
  obtain rfl : r_3 = 0 := hp_2
  refine lv_if_ne (tgt := 17) hx hb dX12_sell_11 (by decide) (fun c_4 => absurd c_4 (by decide)) (fun c_4 => ?_)
  refine lv_bipush (v := (-2)) hx hb dX12_sell_14 (by decide) ?_
  exact m_iret () C0 h [] (by decide) rfl rfl (Nat.le_of_ble_eq_true rfl) (Nat.le_of_ble_eq_true rfl) dX12_sell_16
set_option maxHeartbeats 4000000 in
set_option maxRecDepth 100000 in
theorem c_X12_hand (l : Launch) (G : GG) (o : Nat) (r : Nat → Nat) (p0 : Int32) (p1 : Int32) (p2 : Int32) : Mt l yX12_hand cX12_hand 4 (some .int) 3 0 0 G [.ref o, .int p0, .int p1, .int p2] [(o, mO r), (r 1, .inl (G.2 1, 5322, .inl (fun _ => 0)))] (Ri (S := Unit) G (fun r _ => r = (-2)) (fun _ => [])) := by
  refine Mt.start (by decide) (Nat.le_of_ble_eq_true rfl) ?_
  intro p e s m below meth c A ls C0 hini h hl
  have C0 : Cx p s m _ meth c RX12 cX12_hand 4 (some .int) := C0
  obtain ⟨hx, hb, hml, hown, hts, -⟩ := id C0
  have hl : lv_has ls 4 [(0, .ref o), (1, .int p0), (2, .int p1), (3, .int p2)] := hl
  refine lv_aload_n hx hb dX12_hand_0 rfl (lv_at hl 0 rfl) ?_
  refine lv_iconst (v := 0) hx hb dX12_hand_1 (by decide) ?_
  refine p_X12_thrown (ws' := [(o, mO r), (r 1, .inl (G.2 1, 5322, .inl (fun _ => 0)))]) C0 h 0 q_1438 rfl (Nat.le_of_ble_eq_true rfl) rfl rfl rfl dX12_hand_2 (fun H locs h => ?_)
  refine lv_aload_n hx hb dX12_hand_5 rfl (lv_at hl 0 rfl) ?_
  refine lv_iload_n hx hb dX12_hand_6 rfl (lv_at hl 1 rfl) ?_
  refine lv_i2l (v := p0.toInt64) hx hb dX12_hand_7 rfl ?_
  refine m_cli (wr := []) h (m_rV (ci := 12) (q0 := 0) (As := [.long p0.toInt64]) (rest := []) C0 h (c_X12_isPerson l G o r p0.toInt64) k_X12_isPerson q_1693 q_77 q_1691 rfl rfl rfl [0, 1] (by decide) rfl hl.1 rfl rfl (Nat.le_of_ble_eq_true rfl) dX12_hand_8 ⟨Nat.le_of_ble_eq_true rfl, Nat.le_of_ble_eq_true rfl⟩ ⟨Nat.le_of_ble_eq_true rfl, Nat.le_of_ble_eq_true rfl⟩) [0, 1] [] rfl rfl (by decide) (by decide) (fun r_3 u_1 H locs hp_2 h => ?_)
  have h : Wd G A s _ _ [(o, mO r), (r 1, .inl (G.2 1, 5322, .inl (fun _ => 0)))] := h
  obtain rfl : r_3 = 0 := hp_2
  refine lv_if_eq (tgt := 28) hx hb dX12_hand_11 (by decide) (fun c_4 => ?_) (fun c_4 => absurd c_4 (by decide))
  refine lv_bipush (v := (-2)) hx hb dX12_hand_28 (by decide) ?_
  exact m_iret () C0 h [] (by decide) rfl rfl (Nat.le_of_ble_eq_true rfl) (Nat.le_of_ble_eq_true rfl) dX12_hand_30
set_option maxHeartbeats 4000000 in
set_option maxRecDepth 100000 in
theorem c_X12_fog (l : Launch) (G : GG) (o : Nat) (r : Nat → Nat) (p0 : Int32) (p1 : Int32) : Mt l yX12_fog cX12_fog 3 (some .int) 3 0 0 G [.ref o, .int p0, .int p1] [(o, mO r), (r 1, .inl (G.2 1, 5322, .inl (fun _ => 0)))] (Ri (S := Unit) G (fun r _ => r = (-2)) (fun _ => [])) := by
  refine Mt.start (by decide) (Nat.le_of_ble_eq_true rfl) ?_
  intro p e s m below meth c A ls C0 hini h hl
  have C0 : Cx p s m _ meth c RX12 cX12_fog 3 (some .int) := C0
  obtain ⟨hx, hb, hml, hown, hts, -⟩ := id C0
  have hl : lv_has ls 3 [(0, .ref o), (1, .int p0), (2, .int p1)] := hl
  refine lv_aload_n hx hb dX12_fog_0 rfl (lv_at hl 0 rfl) ?_
  refine lv_iconst (v := 0) hx hb dX12_fog_1 (by decide) ?_
  refine p_X12_thrown (ws' := [(o, mO r), (r 1, .inl (G.2 1, 5322, .inl (fun _ => 0)))]) C0 h 0 q_1438 rfl (Nat.le_of_ble_eq_true rfl) rfl rfl rfl dX12_fog_2 (fun H locs h => ?_)
  refine lv_aload_n hx hb dX12_fog_5 rfl (lv_at hl 0 rfl) ?_
  refine lv_iload_n hx hb dX12_fog_6 rfl (lv_at hl 1 rfl) ?_
  refine lv_i2l (v := p0.toInt64) hx hb dX12_fog_7 rfl ?_
  refine m_cli (wr := []) h (m_rV (ci := 12) (q0 := 0) (As := [.long p0.toInt64]) (rest := []) C0 h (c_X12_isCrossing l G o r p0.toInt64) k_X12_isCrossing q_1701 q_78 q_1699 rfl rfl rfl [0, 1] (by decide) rfl hl.1 rfl rfl (Nat.le_of_ble_eq_true rfl) dX12_fog_8 ⟨Nat.le_of_ble_eq_true rfl, Nat.le_of_ble_eq_true rfl⟩ ⟨Nat.le_of_ble_eq_true rfl, Nat.le_of_ble_eq_true rfl⟩) [0, 1] [] rfl rfl (by decide) (by decide) (fun r_3 u_1 H locs hp_2 h => ?_)
  have h : Wd G A s _ _ [(o, mO r), (r 1, .inl (G.2 1, 5322, .inl (fun _ => 0)))] := h
  obtain rfl : r_3 = 0 := hp_2
  refine lv_if_ne (tgt := 17) hx hb dX12_fog_11 (by decide) (fun c_4 => absurd c_4 (by decide)) (fun c_4 => ?_)
  refine lv_bipush (v := (-2)) hx hb dX12_fog_14 (by decide) ?_
  exact m_iret () C0 h [] (by decide) rfl rfl (Nat.le_of_ble_eq_true rfl) (Nat.le_of_ble_eq_true rfl) dX12_fog_16
set_option maxHeartbeats 4000000 in
set_option maxRecDepth 100000 in
theorem c_X12_way (l : Launch) (G : GG) (o : Nat) (r : Nat → Nat) (p0 : Int32) (p1 : Int32) (p2 : Int32) : Mt l yX12_way cX12_way 4 (some .int) 3 0 0 G [.ref o, .int p0, .int p1, .int p2] [(o, mO r), (r 1, .inl (G.2 1, 5322, .inl (fun _ => 0)))] (Ri (S := Unit) G (fun r _ => r = (-2)) (fun _ => [])) := by
  refine Mt.start (by decide) (Nat.le_of_ble_eq_true rfl) ?_
  intro p e s m below meth c A ls C0 hini h hl
  have C0 : Cx p s m _ meth c RX12 cX12_way 4 (some .int) := C0
  obtain ⟨hx, hb, hml, hown, hts, -⟩ := id C0
  have hl : lv_has ls 4 [(0, .ref o), (1, .int p0), (2, .int p1), (3, .int p2)] := hl
  refine lv_aload_n hx hb dX12_way_0 rfl (lv_at hl 0 rfl) ?_
  refine lv_iconst (v := 0) hx hb dX12_way_1 (by decide) ?_
  refine p_X12_thrown (ws' := [(o, mO r), (r 1, .inl (G.2 1, 5322, .inl (fun _ => 0)))]) C0 h 0 q_1438 rfl (Nat.le_of_ble_eq_true rfl) rfl rfl rfl dX12_way_2 (fun H locs h => ?_)
  refine lv_aload_n hx hb dX12_way_5 rfl (lv_at hl 0 rfl) ?_
  refine lv_iload_n hx hb dX12_way_6 rfl (lv_at hl 1 rfl) ?_
  refine lv_iload_n hx hb dX12_way_7 rfl (lv_at hl 2 rfl) ?_
  refine m_cli (wr := []) h (m_rV (ci := 12) (q0 := 0) (As := [.int p0, .int p1]) (rest := []) C0 h (c_X12_areThere l G o r p0 p1) k_X12_areThere q_1868 q_99 q_1866 rfl rfl rfl [0, 1] (by decide) rfl hl.1 rfl rfl (Nat.le_of_ble_eq_true rfl) dX12_way_8 ⟨Nat.le_of_ble_eq_true rfl, Nat.le_of_ble_eq_true rfl⟩ ⟨Nat.le_of_ble_eq_true rfl, Nat.le_of_ble_eq_true rfl⟩) [0, 1] [] rfl rfl (by decide) (by decide) (fun r_3 u_1 H locs hp_2 h => ?_)
  have h : Wd G A s _ _ [(o, mO r), (r 1, .inl (G.2 1, 5322, .inl (fun _ => 0)))] := h
  obtain rfl : r_3 = 0 := hp_2
  refine lv_if_ne (tgt := 17) hx hb dX12_way_11 (by decide) (fun c_4 => absurd c_4 (by decide)) (fun c_4 => ?_)
  refine lv_bipush (v := (-2)) hx hb dX12_way_14 (by decide) ?_
  exact m_iret () C0 h [] (by decide) rfl rfl (Nat.le_of_ble_eq_true rfl) (Nat.le_of_ble_eq_true rfl) dX12_way_16
set_option maxHeartbeats 4000000 in
set_option maxRecDepth 100000 in
theorem c_X12_turn (l : Launch) (G : GG) (o : Nat) (r : Nat → Nat) (p0 : Int32) (p1 : Int32) (p2 : Int32) (p3 : Int32) : Mt l yX12_turn cX12_turn 6 (some .int) 3 0 0 G [.ref o, .int p0, .int p1, .int p2, .int p3] [(o, mO r), (r 1, .inl (G.2 1, 5322, .inl (fun _ => 0)))] (Ri (S := Unit) G (fun r _ => r = (-2)) (fun _ => [])) := by
  refine Mt.start (by decide) (Nat.le_of_ble_eq_true rfl) ?_
  intro p e s m below meth c A ls C0 hini h hl
  have C0 : Cx p s m _ meth c RX12 cX12_turn 6 (some .int) := C0
  obtain ⟨hx, hb, hml, hown, hts, -⟩ := id C0
  have hl : lv_has ls 6 [(0, .ref o), (1, .int p0), (2, .int p1), (3, .int p2), (4, .int p3)] := hl
  refine lv_aload_n hx hb dX12_turn_0 rfl (lv_at hl 0 rfl) ?_
  refine lv_iconst (v := 0) hx hb dX12_turn_1 (by decide) ?_
  refine p_X12_thrown (ws' := [(o, mO r), (r 1, .inl (G.2 1, 5322, .inl (fun _ => 0)))]) C0 h 0 q_1438 rfl (Nat.le_of_ble_eq_true rfl) rfl rfl rfl dX12_turn_2 (fun H locs h => ?_)
  refine lv_aload_n hx hb dX12_turn_5 rfl (lv_at hl 0 rfl) ?_
  refine lv_iload_n hx hb dX12_turn_6 rfl (lv_at hl 1 rfl) ?_
  refine lv_iload_n hx hb dX12_turn_7 rfl (lv_at hl 2 rfl) ?_
  refine m_cli (wr := []) h (m_rV (ci := 12) (q0 := 0) (As := [.int p0, .int p1]) (rest := []) C0 h (c_X12_areThere l G o r p0 p1) k_X12_areThere q_1868 q_99 q_1866 rfl rfl rfl [0, 1] (by decide) rfl hl.1 rfl rfl (Nat.le_of_ble_eq_true rfl) dX12_turn_8 ⟨Nat.le_of_ble_eq_true rfl, Nat.le_of_ble_eq_true rfl⟩ ⟨Nat.le_of_ble_eq_true rfl, Nat.le_of_ble_eq_true rfl⟩) [0, 1] [] rfl rfl (by decide) (by decide) (fun r_3 u_1 H locs hp_2 h => ?_)
  have h : Wd G A s _ _ [(o, mO r), (r 1, .inl (G.2 1, 5322, .inl (fun _ => 0)))] := h
  obtain rfl : r_3 = 0 := hp_2
  refine lv_if_ne (tgt := 17) hx hb dX12_turn_11 (by decide) (fun c_4 => absurd c_4 (by decide)) (fun c_4 => ?_)
  refine lv_bipush (v := (-2)) hx hb dX12_turn_14 (by decide) ?_
  exact m_iret () C0 h [] (by decide) rfl rfl (Nat.le_of_ble_eq_true rfl) (Nat.le_of_ble_eq_true rfl) dX12_turn_16
set_option maxHeartbeats 4000000 in
set_option maxRecDepth 100000 in
theorem c_X12_fewest (l : Launch) (G : GG) (o : Nat) (r : Nat → Nat) (p0 : Int32) (p1 : Int32) (p2 : Int32) : Mt l yX12_fewest cX12_fewest 4 (some .int) 3 0 0 G [.ref o, .int p0, .int p1, .int p2] [(o, mO r), (r 1, .inl (G.2 1, 5322, .inl (fun _ => 0)))] (Ri (S := Unit) G (fun r _ => r = (-2)) (fun _ => [])) := by
  refine Mt.start (by decide) (Nat.le_of_ble_eq_true rfl) ?_
  intro p e s m below meth c A ls C0 hini h hl
  have C0 : Cx p s m _ meth c RX12 cX12_fewest 4 (some .int) := C0
  obtain ⟨hx, hb, hml, hown, hts, -⟩ := id C0
  have hl : lv_has ls 4 [(0, .ref o), (1, .int p0), (2, .int p1), (3, .int p2)] := hl
  refine lv_aload_n hx hb dX12_fewest_0 rfl (lv_at hl 0 rfl) ?_
  refine lv_iconst (v := 0) hx hb dX12_fewest_1 (by decide) ?_
  refine p_X12_thrown (ws' := [(o, mO r), (r 1, .inl (G.2 1, 5322, .inl (fun _ => 0)))]) C0 h 0 q_1438 rfl (Nat.le_of_ble_eq_true rfl) rfl rfl rfl dX12_fewest_2 (fun H locs h => ?_)
  refine lv_aload_n hx hb dX12_fewest_5 rfl (lv_at hl 0 rfl) ?_
  refine lv_iload_n hx hb dX12_fewest_6 rfl (lv_at hl 1 rfl) ?_
  refine lv_iload_n hx hb dX12_fewest_7 rfl (lv_at hl 2 rfl) ?_
  refine m_cli (wr := []) h (m_rV (ci := 12) (q0 := 0) (As := [.int p0, .int p1]) (rest := []) C0 h (c_X12_areThere l G o r p0 p1) k_X12_areThere q_1868 q_99 q_1866 rfl rfl rfl [0, 1] (by decide) rfl hl.1 rfl rfl (Nat.le_of_ble_eq_true rfl) dX12_fewest_8 ⟨Nat.le_of_ble_eq_true rfl, Nat.le_of_ble_eq_true rfl⟩ ⟨Nat.le_of_ble_eq_true rfl, Nat.le_of_ble_eq_true rfl⟩) [0, 1] [] rfl rfl (by decide) (by decide) (fun r_3 u_1 H locs hp_2 h => ?_)
  have h : Wd G A s _ _ [(o, mO r), (r 1, .inl (G.2 1, 5322, .inl (fun _ => 0)))] := h
  obtain rfl : r_3 = 0 := hp_2
  refine lv_if_ne (tgt := 17) hx hb dX12_fewest_11 (by decide) (fun c_4 => absurd c_4 (by decide)) (fun c_4 => ?_)
  refine lv_bipush (v := (-2)) hx hb dX12_fewest_14 (by decide) ?_
  exact m_iret () C0 h [] (by decide) rfl rfl (Nat.le_of_ble_eq_true rfl) (Nat.le_of_ble_eq_true rfl) dX12_fewest_16
set_option maxHeartbeats 4000000 in
set_option maxRecDepth 100000 in
theorem c_X12_cheapest (l : Launch) (G : GG) (o : Nat) (r : Nat → Nat) (p0 : Int32) (p1 : Int32) (p2 : Int32) : Mt l yX12_cheapest cX12_cheapest 4 (some .int) 3 0 0 G [.ref o, .int p0, .int p1, .int p2] [(o, mO r), (r 1, .inl (G.2 1, 5322, .inl (fun _ => 0)))] (Ri (S := Unit) G (fun r _ => r = (-2)) (fun _ => [])) := by
  refine Mt.start (by decide) (Nat.le_of_ble_eq_true rfl) ?_
  intro p e s m below meth c A ls C0 hini h hl
  have C0 : Cx p s m _ meth c RX12 cX12_cheapest 4 (some .int) := C0
  obtain ⟨hx, hb, hml, hown, hts, -⟩ := id C0
  have hl : lv_has ls 4 [(0, .ref o), (1, .int p0), (2, .int p1), (3, .int p2)] := hl
  refine lv_aload_n hx hb dX12_cheapest_0 rfl (lv_at hl 0 rfl) ?_
  refine lv_iconst (v := 0) hx hb dX12_cheapest_1 (by decide) ?_
  refine p_X12_thrown (ws' := [(o, mO r), (r 1, .inl (G.2 1, 5322, .inl (fun _ => 0)))]) C0 h 0 q_1438 rfl (Nat.le_of_ble_eq_true rfl) rfl rfl rfl dX12_cheapest_2 (fun H locs h => ?_)
  refine lv_aload_n hx hb dX12_cheapest_5 rfl (lv_at hl 0 rfl) ?_
  refine lv_iload_n hx hb dX12_cheapest_6 rfl (lv_at hl 1 rfl) ?_
  refine lv_iload_n hx hb dX12_cheapest_7 rfl (lv_at hl 2 rfl) ?_
  refine m_cli (wr := []) h (m_rV (ci := 12) (q0 := 0) (As := [.int p0, .int p1]) (rest := []) C0 h (c_X12_areThere l G o r p0 p1) k_X12_areThere q_1868 q_99 q_1866 rfl rfl rfl [0, 1] (by decide) rfl hl.1 rfl rfl (Nat.le_of_ble_eq_true rfl) dX12_cheapest_8 ⟨Nat.le_of_ble_eq_true rfl, Nat.le_of_ble_eq_true rfl⟩ ⟨Nat.le_of_ble_eq_true rfl, Nat.le_of_ble_eq_true rfl⟩) [0, 1] [] rfl rfl (by decide) (by decide) (fun r_3 u_1 H locs hp_2 h => ?_)
  have h : Wd G A s _ _ [(o, mO r), (r 1, .inl (G.2 1, 5322, .inl (fun _ => 0)))] := h
  obtain rfl : r_3 = 0 := hp_2
  refine lv_if_ne (tgt := 17) hx hb dX12_cheapest_11 (by decide) (fun c_4 => absurd c_4 (by decide)) (fun c_4 => ?_)
  refine lv_bipush (v := (-2)) hx hb dX12_cheapest_14 (by decide) ?_
  exact m_iret () C0 h [] (by decide) rfl rfl (Nat.le_of_ble_eq_true rfl) (Nat.le_of_ble_eq_true rfl) dX12_cheapest_16
set_option maxHeartbeats 4000000 in
set_option maxRecDepth 100000 in
theorem c_X12_reach (l : Launch) (G : GG) (o : Nat) (r : Nat → Nat) (p0 : Int32) (p1 : Int32) : Mt l yX12_reach cX12_reach 5 (some .int) 3 0 0 G [.ref o, .int p0, .int p1] [(o, mO r), (r 1, .inl (G.2 1, 5322, .inl (fun _ => 0)))] (Ri (S := Unit) G (fun r _ => r = (-2)) (fun _ => [])) := by
  refine Mt.start (by decide) (Nat.le_of_ble_eq_true rfl) ?_
  intro p e s m below meth c A ls C0 hini h hl
  have C0 : Cx p s m _ meth c RX12 cX12_reach 5 (some .int) := C0
  obtain ⟨hx, hb, hml, hown, hts, -⟩ := id C0
  have hl : lv_has ls 5 [(0, .ref o), (1, .int p0), (2, .int p1)] := hl
  refine lv_aload_n hx hb dX12_reach_0 rfl (lv_at hl 0 rfl) ?_
  refine lv_iconst (v := 0) hx hb dX12_reach_1 (by decide) ?_
  refine p_X12_thrown (ws' := [(o, mO r), (r 1, .inl (G.2 1, 5322, .inl (fun _ => 0)))]) C0 h 0 q_1438 rfl (Nat.le_of_ble_eq_true rfl) rfl rfl rfl dX12_reach_2 (fun H locs h => ?_)
  refine lv_aload_n hx hb dX12_reach_5 rfl (lv_at hl 0 rfl) ?_
  refine lv_iload_n hx hb dX12_reach_6 rfl (lv_at hl 1 rfl) ?_
  refine lv_i2l (v := p0.toInt64) hx hb dX12_reach_7 rfl ?_
  refine m_cli (wr := []) h (m_rV (ci := 12) (q0 := 0) (As := [.long p0.toInt64]) (rest := []) C0 h (c_X12_isPerson l G o r p0.toInt64) k_X12_isPerson q_1693 q_77 q_1691 rfl rfl rfl [0, 1] (by decide) rfl hl.1 rfl rfl (Nat.le_of_ble_eq_true rfl) dX12_reach_8 ⟨Nat.le_of_ble_eq_true rfl, Nat.le_of_ble_eq_true rfl⟩ ⟨Nat.le_of_ble_eq_true rfl, Nat.le_of_ble_eq_true rfl⟩) [0, 1] [] rfl rfl (by decide) (by decide) (fun r_3 u_1 H locs hp_2 h => ?_)
  have h : Wd G A s _ _ [(o, mO r), (r 1, .inl (G.2 1, 5322, .inl (fun _ => 0)))] := h
  obtain rfl : r_3 = 0 := hp_2
  refine lv_if_ne (tgt := 17) hx hb dX12_reach_11 (by decide) (fun c_4 => absurd c_4 (by decide)) (fun c_4 => ?_)
  refine lv_bipush (v := (-2)) hx hb dX12_reach_14 (by decide) ?_
  exact m_iret () C0 h [] (by decide) rfl rfl (Nat.le_of_ble_eq_true rfl) (Nat.le_of_ble_eq_true rfl) dX12_reach_16
set_option maxHeartbeats 4000000 in
set_option maxRecDepth 100000 in
theorem c_X12_enough (l : Launch) (G : GG) (o : Nat) (r : Nat → Nat) (p0 : Int32) : Mt l yX12_enough cX12_enough 5 (some .int) 3 0 0 G [.ref o, .int p0] [(o, mO r), (r 1, .inl (G.2 1, 5322, .inl (fun _ => 0)))] (Ri (S := Unit) G (fun r _ => r = (-2)) (fun _ => [])) := by
  refine Mt.start (by decide) (Nat.le_of_ble_eq_true rfl) ?_
  intro p e s m below meth c A ls C0 hini h hl
  have C0 : Cx p s m _ meth c RX12 cX12_enough 5 (some .int) := C0
  obtain ⟨hx, hb, hml, hown, hts, -⟩ := id C0
  have hl : lv_has ls 5 [(0, .ref o), (1, .int p0)] := hl
  refine lv_aload_n hx hb dX12_enough_0 rfl (lv_at hl 0 rfl) ?_
  refine lv_iconst (v := 0) hx hb dX12_enough_1 (by decide) ?_
  refine p_X12_thrown (ws' := [(o, mO r), (r 1, .inl (G.2 1, 5322, .inl (fun _ => 0)))]) C0 h 0 q_1438 rfl (Nat.le_of_ble_eq_true rfl) rfl rfl rfl dX12_enough_2 (fun H locs h => ?_)
  refine lv_aload_n hx hb dX12_enough_5 rfl (lv_at hl 0 rfl) ?_
  refine lv_iload_n hx hb dX12_enough_6 rfl (lv_at hl 1 rfl) ?_
  refine lv_i2l (v := p0.toInt64) hx hb dX12_enough_7 rfl ?_
  refine m_cli (wr := []) h (m_rV (ci := 12) (q0 := 0) (As := [.long p0.toInt64]) (rest := []) C0 h (c_X12_isPerson l G o r p0.toInt64) k_X12_isPerson q_1693 q_77 q_1691 rfl rfl rfl [0, 1] (by decide) rfl hl.1 rfl rfl (Nat.le_of_ble_eq_true rfl) dX12_enough_8 ⟨Nat.le_of_ble_eq_true rfl, Nat.le_of_ble_eq_true rfl⟩ ⟨Nat.le_of_ble_eq_true rfl, Nat.le_of_ble_eq_true rfl⟩) [0, 1] [] rfl rfl (by decide) (by decide) (fun r_3 u_1 H locs hp_2 h => ?_)
  have h : Wd G A s _ _ [(o, mO r), (r 1, .inl (G.2 1, 5322, .inl (fun _ => 0)))] := h
  obtain rfl : r_3 = 0 := hp_2
  refine lv_if_ne (tgt := 17) hx hb dX12_enough_11 (by decide) (fun c_4 => absurd c_4 (by decide)) (fun c_4 => ?_)
  refine lv_bipush (v := (-2)) hx hb dX12_enough_14 (by decide) ?_
  exact m_iret () C0 h [] (by decide) rfl rfl (Nat.le_of_ble_eq_true rfl) (Nat.le_of_ble_eq_true rfl) dX12_enough_16
set_option maxHeartbeats 4000000 in
set_option maxRecDepth 100000 in
theorem c_X12_byRights (l : Launch) (G : GG) (o : Nat) (r : Nat → Nat) (p0 : Int32) (p1 : Int32) : Mt l yX12_byRights cX12_byRights 9 (some .int) 3 0 0 G [.ref o, .int p0, .int p1] [(o, mO r), (r 1, .inl (G.2 1, 5322, .inl (fun _ => 0)))] (Ri (S := Unit) G (fun r _ => r = (-2)) (fun _ => [])) := by
  refine Mt.start (by decide) (Nat.le_of_ble_eq_true rfl) ?_
  intro p e s m below meth c A ls C0 hini h hl
  have C0 : Cx p s m _ meth c RX12 cX12_byRights 9 (some .int) := C0
  obtain ⟨hx, hb, hml, hown, hts, -⟩ := id C0
  have hl : lv_has ls 9 [(0, .ref o), (1, .int p0), (2, .int p1)] := hl
  refine lv_aload_n hx hb dX12_byRights_0 rfl (lv_at hl 0 rfl) ?_
  refine lv_iconst (v := 0) hx hb dX12_byRights_1 (by decide) ?_
  refine p_X12_thrown (ws' := [(o, mO r), (r 1, .inl (G.2 1, 5322, .inl (fun _ => 0)))]) C0 h 0 q_1438 rfl (Nat.le_of_ble_eq_true rfl) rfl rfl rfl dX12_byRights_2 (fun H locs h => ?_)
  refine lv_aload_n hx hb dX12_byRights_5 rfl (lv_at hl 0 rfl) ?_
  refine lv_iload_n hx hb dX12_byRights_6 rfl (lv_at hl 1 rfl) ?_
  refine lv_i2l (v := p0.toInt64) hx hb dX12_byRights_7 rfl ?_
  refine m_cli (wr := []) h (m_rV (ci := 12) (q0 := 0) (As := [.long p0.toInt64]) (rest := []) C0 h (c_X12_isCrossing l G o r p0.toInt64) k_X12_isCrossing q_1701 q_78 q_1699 rfl rfl rfl [0, 1] (by decide) rfl hl.1 rfl rfl (Nat.le_of_ble_eq_true rfl) dX12_byRights_8 ⟨Nat.le_of_ble_eq_true rfl, Nat.le_of_ble_eq_true rfl⟩ ⟨Nat.le_of_ble_eq_true rfl, Nat.le_of_ble_eq_true rfl⟩) [0, 1] [] rfl rfl (by decide) (by decide) (fun r_3 u_1 H locs hp_2 h => ?_)
  have h : Wd G A s _ _ [(o, mO r), (r 1, .inl (G.2 1, 5322, .inl (fun _ => 0)))] := h
  obtain rfl : r_3 = 0 := hp_2
  refine lv_if_eq (tgt := 21) hx hb dX12_byRights_11 (by decide) (fun c_4 => ?_) (fun c_4 => absurd c_4 (by decide))
  refine lv_bipush (v := (-2)) hx hb dX12_byRights_21 (by decide) ?_
  exact m_iret () C0 h [] (by decide) rfl rfl (Nat.le_of_ble_eq_true rfl) (Nat.le_of_ble_eq_true rfl) dX12_byRights_23
set_option maxHeartbeats 4000000 in
set_option maxRecDepth 100000 in
theorem c_X12_round (l : Launch) (G : GG) (o : Nat) (r : Nat → Nat) (p0 : Int32) (p1 : Int32) (p2 : Int32) : Mt l yX12_round cX12_round 6 (some .int) 3 0 0 G [.ref o, .int p0, .int p1, .int p2] [(o, mO r), (r 1, .inl (G.2 1, 5322, .inl (fun _ => 0)))] (Ri (S := Unit) G (fun r _ => r = (-2)) (fun _ => [])) := by
  refine Mt.start (by decide) (Nat.le_of_ble_eq_true rfl) ?_
  intro p e s m below meth c A ls C0 hini h hl
  have C0 : Cx p s m _ meth c RX12 cX12_round 6 (some .int) := C0
  obtain ⟨hx, hb, hml, hown, hts, -⟩ := id C0
  have hl : lv_has ls 6 [(0, .ref o), (1, .int p0), (2, .int p1), (3, .int p2)] := hl
  refine lv_aload_n hx hb dX12_round_0 rfl (lv_at hl 0 rfl) ?_
  refine lv_iconst (v := 0) hx hb dX12_round_1 (by decide) ?_
  refine p_X12_thrown (ws' := [(o, mO r), (r 1, .inl (G.2 1, 5322, .inl (fun _ => 0)))]) C0 h 0 q_1438 rfl (Nat.le_of_ble_eq_true rfl) rfl rfl rfl dX12_round_2 (fun H locs h => ?_)
  refine lv_aload_n hx hb dX12_round_5 rfl (lv_at hl 0 rfl) ?_
  refine lv_iload_n hx hb dX12_round_6 rfl (lv_at hl 1 rfl) ?_
  refine lv_i2l (v := p0.toInt64) hx hb dX12_round_7 rfl ?_
  refine m_cli (wr := []) h (m_rV (ci := 12) (q0 := 0) (As := [.long p0.toInt64]) (rest := []) C0 h (c_X12_isPerson l G o r p0.toInt64) k_X12_isPerson q_1693 q_77 q_1691 rfl rfl rfl [0, 1] (by decide) rfl hl.1 rfl rfl (Nat.le_of_ble_eq_true rfl) dX12_round_8 ⟨Nat.le_of_ble_eq_true rfl, Nat.le_of_ble_eq_true rfl⟩ ⟨Nat.le_of_ble_eq_true rfl, Nat.le_of_ble_eq_true rfl⟩) [0, 1] [] rfl rfl (by decide) (by decide) (fun r_3 u_1 H locs hp_2 h => ?_)
  have h : Wd G A s _ _ [(o, mO r), (r 1, .inl (G.2 1, 5322, .inl (fun _ => 0)))] := h
  obtain rfl : r_3 = 0 := hp_2
  refine lv_if_eq (tgt := 50) hx hb dX12_round_11 (by decide) (fun c_4 => ?_) (fun c_4 => absurd c_4 (by decide))
  refine lv_bipush (v := (-2)) hx hb dX12_round_50 (by decide) ?_
  exact m_iret () C0 h [] (by decide) rfl rfl (Nat.le_of_ble_eq_true rfl) (Nat.le_of_ble_eq_true rfl) dX12_round_52
set_option maxHeartbeats 4000000 in
set_option maxRecDepth 100000 in
theorem c_X12_makeFree (l : Launch) (G : GG) (o : Nat) (r : Nat → Nat) (p0 : Int32) (p1 : Int32) (p2 : Int32) (p3 : Int32) : Mt l yX12_makeFree cX12_makeFree 7 (some .int) 3 0 0 G [.ref o, .int p0, .int p1, .int p2, .int p3] [(o, mO r), (r 1, .inl (G.2 1, 5322, .inl (fun _ => 0)))] (Ri (S := Unit) G (fun r _ => r = (-2)) (fun _ => [])) := by
  refine Mt.start (by decide) (Nat.le_of_ble_eq_true rfl) ?_
  intro p e s m below meth c A ls C0 hini h hl
  have C0 : Cx p s m _ meth c RX12 cX12_makeFree 7 (some .int) := C0
  obtain ⟨hx, hb, hml, hown, hts, -⟩ := id C0
  have hl : lv_has ls 7 [(0, .ref o), (1, .int p0), (2, .int p1), (3, .int p2), (4, .int p3)] := hl
  refine lv_aload_n hx hb dX12_makeFree_0 rfl (lv_at hl 0 rfl) ?_
  refine lv_iconst (v := 0) hx hb dX12_makeFree_1 (by decide) ?_
  refine p_X12_thrown (ws' := [(o, mO r), (r 1, .inl (G.2 1, 5322, .inl (fun _ => 0)))]) C0 h 0 q_1438 rfl (Nat.le_of_ble_eq_true rfl) rfl rfl rfl dX12_makeFree_2 (fun H locs h => ?_)
  refine lv_aload_n hx hb dX12_makeFree_5 rfl (lv_at hl 0 rfl) ?_
  refine lv_iload_n hx hb dX12_makeFree_6 rfl (lv_at hl 1 rfl) ?_
  refine lv_iload_n hx hb dX12_makeFree_7 rfl (lv_at hl 2 rfl) ?_
  refine m_cli (wr := []) h (m_rV (ci := 12) (q0 := 0) (As := [.int p0, .int p1]) (rest := []) C0 h (c_X12_areThere l G o r p0 p1) k_X12_areThere q_1868 q_99 q_1866 rfl rfl rfl [0, 1] (by decide) rfl hl.1 rfl rfl (Nat.le_of_ble_eq_true rfl) dX12_makeFree_8 ⟨Nat.le_of_ble_eq_true rfl, Nat.le_of_ble_eq_true rfl⟩ ⟨Nat.le_of_ble_eq_true rfl, Nat.le_of_ble_eq_true rfl⟩) [0, 1] [] rfl rfl (by decide) (by decide) (fun r_3 u_1 H locs hp_2 h => ?_)
  have h : Wd G A s _ _ [(o, mO r), (r 1, .inl (G.2 1, 5322, .inl (fun _ => 0)))] := h
  obtain rfl : r_3 = 0 := hp_2
  refine lv_if_eq (tgt := 25) hx hb dX12_makeFree_11 (by decide) (fun c_4 => ?_) (fun c_4 => absurd c_4 (by decide))
  refine lv_bipush (v := (-2)) hx hb dX12_makeFree_25 (by decide) ?_
  exact m_iret () C0 h [] (by decide) rfl rfl (Nat.le_of_ble_eq_true rfl) (Nat.le_of_ble_eq_true rfl) dX12_makeFree_27
set_option maxHeartbeats 4000000 in
set_option maxRecDepth 100000 in
theorem c_X12_bestCorner (l : Launch) (G : GG) (o : Nat) (r : Nat → Nat) (p0 : Int32) (p1 : Int32) (p2 : Int32) : Mt l yX12_bestCorner cX12_bestCorner 9 (some .int) 3 0 0 G [.ref o, .int p0, .int p1, .int p2] [(o, mO r), (r 1, .inl (G.2 1, 5322, .inl (fun _ => 0)))] (Ri (S := Unit) G (fun r _ => r = (-2)) (fun _ => [])) := by
  refine Mt.start (by decide) (Nat.le_of_ble_eq_true rfl) ?_
  intro p e s m below meth c A ls C0 hini h hl
  have C0 : Cx p s m _ meth c RX12 cX12_bestCorner 9 (some .int) := C0
  obtain ⟨hx, hb, hml, hown, hts, -⟩ := id C0
  have hl : lv_has ls 9 [(0, .ref o), (1, .int p0), (2, .int p1), (3, .int p2)] := hl
  refine lv_aload_n hx hb dX12_bestCorner_0 rfl (lv_at hl 0 rfl) ?_
  refine lv_iconst (v := 0) hx hb dX12_bestCorner_1 (by decide) ?_
  refine p_X12_thrown (ws' := [(o, mO r), (r 1, .inl (G.2 1, 5322, .inl (fun _ => 0)))]) C0 h 0 q_1438 rfl (Nat.le_of_ble_eq_true rfl) rfl rfl rfl dX12_bestCorner_2 (fun H locs h => ?_)
  refine lv_aload_n hx hb dX12_bestCorner_5 rfl (lv_at hl 0 rfl) ?_
  refine lv_iload_n hx hb dX12_bestCorner_6 rfl (lv_at hl 1 rfl) ?_
  refine lv_iload_n hx hb dX12_bestCorner_7 rfl (lv_at hl 2 rfl) ?_
  refine m_cli (wr := []) h (m_rV (ci := 12) (q0 := 0) (As := [.int p0, .int p1]) (rest := []) C0 h (c_X12_areThere l G o r p0 p1) k_X12_areThere q_1868 q_99 q_1866 rfl rfl rfl [0, 1] (by decide) rfl hl.1 rfl rfl (Nat.le_of_ble_eq_true rfl) dX12_bestCorner_8 ⟨Nat.le_of_ble_eq_true rfl, Nat.le_of_ble_eq_true rfl⟩ ⟨Nat.le_of_ble_eq_true rfl, Nat.le_of_ble_eq_true rfl⟩) [0, 1] [] rfl rfl (by decide) (by decide) (fun r_3 u_1 H locs hp_2 h => ?_)
  have h : Wd G A s _ _ [(o, mO r), (r 1, .inl (G.2 1, 5322, .inl (fun _ => 0)))] := h
  obtain rfl : r_3 = 0 := hp_2
  refine lv_if_ne (tgt := 17) hx hb dX12_bestCorner_11 (by decide) (fun c_4 => absurd c_4 (by decide)) (fun c_4 => ?_)
  refine lv_bipush (v := (-2)) hx hb dX12_bestCorner_14 (by decide) ?_
  exact m_iret () C0 h [] (by decide) rfl rfl (Nat.le_of_ble_eq_true rfl) (Nat.le_of_ble_eq_true rfl) dX12_bestCorner_16
set_option maxHeartbeats 4000000 in
set_option maxRecDepth 100000 in
theorem c_X12_dealing (l : Launch) (G : GG) (o : Nat) (r : Nat → Nat) (p0 : Int32) (p1 : Int32) (p2 : Int32) : Mt l yX12_dealing cX12_dealing 10 (some .int) 3 0 0 G [.ref o, .int p0, .int p1, .int p2] [(o, mO r), (r 1, .inl (G.2 1, 5322, .inl (fun _ => 0)))] (Ri (S := Unit) G (fun r _ => r = (-2)) (fun _ => [])) := by
  refine Mt.start (by decide) (Nat.le_of_ble_eq_true rfl) ?_
  intro p e s m below meth c A ls C0 hini h hl
  have C0 : Cx p s m _ meth c RX12 cX12_dealing 10 (some .int) := C0
  obtain ⟨hx, hb, hml, hown, hts, -⟩ := id C0
  have hl : lv_has ls 10 [(0, .ref o), (1, .int p0), (2, .int p1), (3, .int p2)] := hl
  refine lv_aload_n hx hb dX12_dealing_0 rfl (lv_at hl 0 rfl) ?_
  refine lv_iconst (v := 0) hx hb dX12_dealing_1 (by decide) ?_
  refine p_X12_thrown (ws' := [(o, mO r), (r 1, .inl (G.2 1, 5322, .inl (fun _ => 0)))]) C0 h 0 q_1438 rfl (Nat.le_of_ble_eq_true rfl) rfl rfl rfl dX12_dealing_2 (fun H locs h => ?_)
  refine lv_aload_n hx hb dX12_dealing_5 rfl (lv_at hl 0 rfl) ?_
  refine lv_iload_n hx hb dX12_dealing_6 rfl (lv_at hl 1 rfl) ?_
  refine lv_i2l (v := p0.toInt64) hx hb dX12_dealing_7 rfl ?_
  refine m_cli (wr := []) h (m_rV (ci := 12) (q0 := 0) (As := [.long p0.toInt64]) (rest := []) C0 h (c_X12_isCrossing l G o r p0.toInt64) k_X12_isCrossing q_1701 q_78 q_1699 rfl rfl rfl [0, 1] (by decide) rfl hl.1 rfl rfl (Nat.le_of_ble_eq_true rfl) dX12_dealing_8 ⟨Nat.le_of_ble_eq_true rfl, Nat.le_of_ble_eq_true rfl⟩ ⟨Nat.le_of_ble_eq_true rfl, Nat.le_of_ble_eq_true rfl⟩) [0, 1] [] rfl rfl (by decide) (by decide) (fun r_3 u_1 H locs hp_2 h => ?_)
  have h : Wd G A s _ _ [(o, mO r), (r 1, .inl (G.2 1, 5322, .inl (fun _ => 0)))] := h
  obtain rfl : r_3 = 0 := hp_2
  refine lv_if_eq (tgt := 33) hx hb dX12_dealing_11 (by decide) (fun c_4 => ?_) (fun c_4 => absurd c_4 (by decide))
  refine lv_bipush (v := (-2)) hx hb dX12_dealing_33 (by decide) ?_
  exact m_iret () C0 h [] (by decide) rfl rfl (Nat.le_of_ble_eq_true rfl) (Nat.le_of_ble_eq_true rfl) dX12_dealing_35
set_option maxHeartbeats 4000000 in
set_option maxRecDepth 100000 in
theorem c_X12_affords (l : Launch) (G : GG) (o : Nat) (r : Nat → Nat) (p0 : Int32) : Mt l yX12_affords cX12_affords 4 (some .int) 3 0 0 G [.ref o, .int p0] [(o, mO r), (r 1, .inl (G.2 1, 5322, .inl (fun _ => 0)))] (Ri (S := Unit) G (fun r _ => r = (-2)) (fun _ => [])) := by
  refine Mt.start (by decide) (Nat.le_of_ble_eq_true rfl) ?_
  intro p e s m below meth c A ls C0 hini h hl
  have C0 : Cx p s m _ meth c RX12 cX12_affords 4 (some .int) := C0
  obtain ⟨hx, hb, hml, hown, hts, -⟩ := id C0
  have hl : lv_has ls 4 [(0, .ref o), (1, .int p0)] := hl
  refine lv_aload_n hx hb dX12_affords_0 rfl (lv_at hl 0 rfl) ?_
  refine lv_iconst (v := 0) hx hb dX12_affords_1 (by decide) ?_
  refine p_X12_thrown (ws' := [(o, mO r), (r 1, .inl (G.2 1, 5322, .inl (fun _ => 0)))]) C0 h 0 q_1438 rfl (Nat.le_of_ble_eq_true rfl) rfl rfl rfl dX12_affords_2 (fun H locs h => ?_)
  refine lv_aload_n hx hb dX12_affords_5 rfl (lv_at hl 0 rfl) ?_
  refine lv_iload_n hx hb dX12_affords_6 rfl (lv_at hl 1 rfl) ?_
  refine lv_i2l (v := p0.toInt64) hx hb dX12_affords_7 rfl ?_
  refine m_cli (wr := []) h (m_rV (ci := 12) (q0 := 0) (As := [.long p0.toInt64]) (rest := []) C0 h (c_X12_isPerson l G o r p0.toInt64) k_X12_isPerson q_1693 q_77 q_1691 rfl rfl rfl [0, 1] (by decide) rfl hl.1 rfl rfl (Nat.le_of_ble_eq_true rfl) dX12_affords_8 ⟨Nat.le_of_ble_eq_true rfl, Nat.le_of_ble_eq_true rfl⟩ ⟨Nat.le_of_ble_eq_true rfl, Nat.le_of_ble_eq_true rfl⟩) [0, 1] [] rfl rfl (by decide) (by decide) (fun r_3 u_1 H locs hp_2 h => ?_)
  have h : Wd G A s _ _ [(o, mO r), (r 1, .inl (G.2 1, 5322, .inl (fun _ => 0)))] := h
  obtain rfl : r_3 = 0 := hp_2
  refine lv_if_ne (tgt := 17) hx hb dX12_affords_11 (by decide) (fun c_4 => absurd c_4 (by decide)) (fun c_4 => ?_)
  refine lv_bipush (v := (-2)) hx hb dX12_affords_14 (by decide) ?_
  exact m_iret () C0 h [] (by decide) rfl rfl (Nat.le_of_ble_eq_true rfl) (Nat.le_of_ble_eq_true rfl) dX12_affords_16
set_option maxHeartbeats 4000000 in
set_option maxRecDepth 100000 in
theorem c_X12_found (l : Launch) (G : GG) (o : Nat) (r : Nat → Nat) (p0 : Int32) (p1 : Int32) (p2 : Int32) : Mt l yX12_found cX12_found 7 (some .int) 3 0 0 G [.ref o, .int p0, .int p1, .int p2] [(o, mO r), (r 1, .inl (G.2 1, 5322, .inl (fun _ => 0)))] (Ri (S := Unit) G (fun r _ => r = (-2)) (fun _ => [])) := by
  refine Mt.start (by decide) (Nat.le_of_ble_eq_true rfl) ?_
  intro p e s m below meth c A ls C0 hini h hl
  have C0 : Cx p s m _ meth c RX12 cX12_found 7 (some .int) := C0
  obtain ⟨hx, hb, hml, hown, hts, -⟩ := id C0
  have hl : lv_has ls 7 [(0, .ref o), (1, .int p0), (2, .int p1), (3, .int p2)] := hl
  refine lv_aload_n hx hb dX12_found_0 rfl (lv_at hl 0 rfl) ?_
  refine lv_iconst (v := 0) hx hb dX12_found_1 (by decide) ?_
  refine p_X12_thrown (ws' := [(o, mO r), (r 1, .inl (G.2 1, 5322, .inl (fun _ => 0)))]) C0 h 0 q_1438 rfl (Nat.le_of_ble_eq_true rfl) rfl rfl rfl dX12_found_2 (fun H locs h => ?_)
  refine lv_aload_n hx hb dX12_found_5 rfl (lv_at hl 0 rfl) ?_
  refine lv_iload_n hx hb dX12_found_6 rfl (lv_at hl 1 rfl) ?_
  refine lv_i2l (v := p0.toInt64) hx hb dX12_found_7 rfl ?_
  refine m_cli (wr := []) h (m_rV (ci := 12) (q0 := 0) (As := [.long p0.toInt64]) (rest := []) C0 h (c_X12_isPerson l G o r p0.toInt64) k_X12_isPerson q_1693 q_77 q_1691 rfl rfl rfl [0, 1] (by decide) rfl hl.1 rfl rfl (Nat.le_of_ble_eq_true rfl) dX12_found_8 ⟨Nat.le_of_ble_eq_true rfl, Nat.le_of_ble_eq_true rfl⟩ ⟨Nat.le_of_ble_eq_true rfl, Nat.le_of_ble_eq_true rfl⟩) [0, 1] [] rfl rfl (by decide) (by decide) (fun r_3 u_1 H locs hp_2 h => ?_)
  have h : Wd G A s _ _ [(o, mO r), (r 1, .inl (G.2 1, 5322, .inl (fun _ => 0)))] := h
  obtain rfl : r_3 = 0 := hp_2
  refine lv_if_eq (tgt := 26) hx hb dX12_found_11 (by decide) (fun c_4 => ?_) (fun c_4 => absurd c_4 (by decide))
  refine lv_bipush (v := (-2)) hx hb dX12_found_26 (by decide) ?_
  exact m_iret () C0 h [] (by decide) rfl rfl (Nat.le_of_ble_eq_true rfl) (Nat.le_of_ble_eq_true rfl) dX12_found_28
set_option maxHeartbeats 4000000 in
set_option maxRecDepth 100000 in
theorem c_X12_chase (l : Launch) (G : GG) (o : Nat) (r : Nat → Nat) (p0 : Int32) (p1 : Int32) (p2 : Int32) (p3 : Int32) : Mt l yX12_chase cX12_chase 5 (some .int) 3 0 0 G [.ref o, .int p0, .int p1, .int p2, .int p3] [(o, mO r), (r 1, .inl (G.2 1, 5322, .inl (fun _ => 0)))] (Ri (S := Unit) G (fun r _ => r = (-2)) (fun _ => [])) := by
  refine Mt.start (by decide) (Nat.le_of_ble_eq_true rfl) ?_
  intro p e s m below meth c A ls C0 hini h hl
  have C0 : Cx p s m _ meth c RX12 cX12_chase 5 (some .int) := C0
  obtain ⟨hx, hb, hml, hown, hts, -⟩ := id C0
  have hl : lv_has ls 5 [(0, .ref o), (1, .int p0), (2, .int p1), (3, .int p2), (4, .int p3)] := hl
  refine lv_aload_n hx hb dX12_chase_0 rfl (lv_at hl 0 rfl) ?_
  refine lv_iconst (v := 0) hx hb dX12_chase_1 (by decide) ?_
  refine p_X12_thrown (ws' := [(o, mO r), (r 1, .inl (G.2 1, 5322, .inl (fun _ => 0)))]) C0 h 0 q_1438 rfl (Nat.le_of_ble_eq_true rfl) rfl rfl rfl dX12_chase_2 (fun H locs h => ?_)
  refine lv_aload_n hx hb dX12_chase_5 rfl (lv_at hl 0 rfl) ?_
  refine lv_iload_n hx hb dX12_chase_6 rfl (lv_at hl 1 rfl) ?_
  refine lv_i2l (v := p0.toInt64) hx hb dX12_chase_7 rfl ?_
  refine m_cli (wr := []) h (m_rV (ci := 12) (q0 := 0) (As := [.long p0.toInt64]) (rest := []) C0 h (c_X12_isCrossing l G o r p0.toInt64) k_X12_isCrossing q_1701 q_78 q_1699 rfl rfl rfl [0, 1] (by decide) rfl hl.1 rfl rfl (Nat.le_of_ble_eq_true rfl) dX12_chase_8 ⟨Nat.le_of_ble_eq_true rfl, Nat.le_of_ble_eq_true rfl⟩ ⟨Nat.le_of_ble_eq_true rfl, Nat.le_of_ble_eq_true rfl⟩) [0, 1] [] rfl rfl (by decide) (by decide) (fun r_3 u_1 H locs hp_2 h => ?_)
  have h : Wd G A s _ _ [(o, mO r), (r 1, .inl (G.2 1, 5322, .inl (fun _ => 0)))] := h
  obtain rfl : r_3 = 0 := hp_2
  refine lv_if_eq (tgt := 38) hx hb dX12_chase_11 (by decide) (fun c_4 => ?_) (fun c_4 => absurd c_4 (by decide))
  refine lv_bipush (v := (-2)) hx hb dX12_chase_38 (by decide) ?_
  exact m_iret () C0 h [] (by decide) rfl rfl (Nat.le_of_ble_eq_true rfl) (Nat.le_of_ble_eq_true rfl) dX12_chase_40
set_option maxHeartbeats 4000000 in
set_option maxRecDepth 100000 in
theorem c_X12_posts (l : Launch) (G : GG) (o : Nat) (r : Nat → Nat) (p0 : Int32) (p1 : Int32) (p2 : Int32) (p3 : Int32) : Mt l yX12_posts cX12_posts 7 (some .int) 3 0 0 G [.ref o, .int p0, .int p1, .int p2, .int p3] [(o, mO r), (r 1, .inl (G.2 1, 5322, .inl (fun _ => 0)))] (Ri (S := Unit) G (fun r _ => r = (-2)) (fun _ => [])) := by
  refine Mt.start (by decide) (Nat.le_of_ble_eq_true rfl) ?_
  intro p e s m below meth c A ls C0 hini h hl
  have C0 : Cx p s m _ meth c RX12 cX12_posts 7 (some .int) := C0
  obtain ⟨hx, hb, hml, hown, hts, -⟩ := id C0
  have hl : lv_has ls 7 [(0, .ref o), (1, .int p0), (2, .int p1), (3, .int p2), (4, .int p3)] := hl
  refine lv_aload_n hx hb dX12_posts_0 rfl (lv_at hl 0 rfl) ?_
  refine lv_iconst (v := 0) hx hb dX12_posts_1 (by decide) ?_
  refine p_X12_thrown (ws' := [(o, mO r), (r 1, .inl (G.2 1, 5322, .inl (fun _ => 0)))]) C0 h 0 q_1438 rfl (Nat.le_of_ble_eq_true rfl) rfl rfl rfl dX12_posts_2 (fun H locs h => ?_)
  refine lv_aload_n hx hb dX12_posts_5 rfl (lv_at hl 0 rfl) ?_
  refine lv_iload_n hx hb dX12_posts_6 rfl (lv_at hl 1 rfl) ?_
  refine lv_i2l (v := p0.toInt64) hx hb dX12_posts_7 rfl ?_
  refine m_cli (wr := []) h (m_rV (ci := 12) (q0 := 0) (As := [.long p0.toInt64]) (rest := []) C0 h (c_X12_isCrossing l G o r p0.toInt64) k_X12_isCrossing q_1701 q_78 q_1699 rfl rfl rfl [0, 1] (by decide) rfl hl.1 rfl rfl (Nat.le_of_ble_eq_true rfl) dX12_posts_8 ⟨Nat.le_of_ble_eq_true rfl, Nat.le_of_ble_eq_true rfl⟩ ⟨Nat.le_of_ble_eq_true rfl, Nat.le_of_ble_eq_true rfl⟩) [0, 1] [] rfl rfl (by decide) (by decide) (fun r_3 u_1 H locs hp_2 h => ?_)
  have h : Wd G A s _ _ [(o, mO r), (r 1, .inl (G.2 1, 5322, .inl (fun _ => 0)))] := h
  obtain rfl : r_3 = 0 := hp_2
  refine lv_if_eq (tgt := 28) hx hb dX12_posts_11 (by decide) (fun c_4 => ?_) (fun c_4 => absurd c_4 (by decide))
  refine lv_bipush (v := (-2)) hx hb dX12_posts_28 (by decide) ?_
  exact m_iret () C0 h [] (by decide) rfl rfl (Nat.le_of_ble_eq_true rfl) (Nat.le_of_ble_eq_true rfl) dX12_posts_30
set_option maxHeartbeats 4000000 in
set_option maxRecDepth 100000 in
theorem c_X12_ways (l : Launch) (G : GG) (o : Nat) (r : Nat → Nat) (p0 : Int32) (p1 : Int32) (p2 : Int32) (p3 : Int32) : Mt l yX12_ways cX12_ways 9 (some .long) 3 0 0 G [.ref o, .int p0, .int p1, .int p2, .int p3] [(o, mO r), (r 1, .inl (G.2 1, 5322, .inl (fun _ => 0)))] (Rl (S := Unit) G (fun r _ => r = (-2)) (fun _ => [])) := by
  refine Mt.start (by decide) (Nat.le_of_ble_eq_true rfl) ?_
  intro p e s m below meth c A ls C0 hini h hl
  have C0 : Cx p s m _ meth c RX12 cX12_ways 9 (some .long) := C0
  obtain ⟨hx, hb, hml, hown, hts, -⟩ := id C0
  have hl : lv_has ls 9 [(0, .ref o), (1, .int p0), (2, .int p1), (3, .int p2), (4, .int p3)] := hl
  refine lv_aload_n hx hb dX12_ways_0 rfl (lv_at hl 0 rfl) ?_
  refine lv_iconst (v := 0) hx hb dX12_ways_1 (by decide) ?_
  refine p_X12_thrown (ws' := [(o, mO r), (r 1, .inl (G.2 1, 5322, .inl (fun _ => 0)))]) C0 h 0 q_1438 rfl (Nat.le_of_ble_eq_true rfl) rfl rfl rfl dX12_ways_2 (fun H locs h => ?_)
  refine lv_aload_n hx hb dX12_ways_5 rfl (lv_at hl 0 rfl) ?_
  refine lv_iload_n hx hb dX12_ways_6 rfl (lv_at hl 1 rfl) ?_
  refine lv_iload_n hx hb dX12_ways_7 rfl (lv_at hl 2 rfl) ?_
  refine m_cli (wr := []) h (m_rV (ci := 12) (q0 := 0) (As := [.int p0, .int p1]) (rest := []) C0 h (c_X12_areThere l G o r p0 p1) k_X12_areThere q_1868 q_99 q_1866 rfl rfl rfl [0, 1] (by decide) rfl hl.1 rfl rfl (Nat.le_of_ble_eq_true rfl) dX12_ways_8 ⟨Nat.le_of_ble_eq_true rfl, Nat.le_of_ble_eq_true rfl⟩ ⟨Nat.le_of_ble_eq_true rfl, Nat.le_of_ble_eq_true rfl⟩) [0, 1] [] rfl rfl (by decide) (by decide) (fun r_3 u_1 H locs hp_2 h => ?_)
  have h : Wd G A s _ _ [(o, mO r), (r 1, .inl (G.2 1, 5322, .inl (fun _ => 0)))] := h
  obtain rfl : r_3 = 0 := hp_2
  refine lv_if_ne (tgt := 18) hx hb dX12_ways_11 (by decide) (fun c_4 => absurd c_4 (by decide)) (fun c_4 => ?_)
  refine lv_ldc2 (v := (-2)) hx hb hown (hts _ q_1939) dX12_ways_14 ?_
  exact m_lret () C0 h [] (by decide) rfl rfl (Nat.le_of_ble_eq_true rfl) (Nat.le_of_ble_eq_true rfl) dX12_ways_17
set_option maxHeartbeats 4000000 in
set_option maxRecDepth 100000 in
theorem c_X12_lists (l : Launch) (G : GG) (o : Nat) (r : Nat → Nat) (p0 : Int32) (p1 : Int32) (p2 : Int32) (p3 : Int32) : Mt l yX12_lists cX12_lists 9 (some .int) 3 0 0 G [.ref o, .int p0, .int p1, .int p2, .int p3] [(o, mO r), (r 1, .inl (G.2 1, 5322, .inl (fun _ => 0)))] (Ri (S := Unit) G (fun r _ => r = (-2)) (fun _ => [])) := by
  refine Mt.start (by decide) (Nat.le_of_ble_eq_true rfl) ?_
  intro p e s m below meth c A ls C0 hini h hl
  have C0 : Cx p s m _ meth c RX12 cX12_lists 9 (some .int) := C0
  obtain ⟨hx, hb, hml, hown, hts, -⟩ := id C0
  have hl : lv_has ls 9 [(0, .ref o), (1, .int p0), (2, .int p1), (3, .int p2), (4, .int p3)] := hl
  refine lv_aload_n hx hb dX12_lists_0 rfl (lv_at hl 0 rfl) ?_
  refine lv_iconst (v := 0) hx hb dX12_lists_1 (by decide) ?_
  refine p_X12_thrown (ws' := [(o, mO r), (r 1, .inl (G.2 1, 5322, .inl (fun _ => 0)))]) C0 h 0 q_1438 rfl (Nat.le_of_ble_eq_true rfl) rfl rfl rfl dX12_lists_2 (fun H locs h => ?_)
  refine lv_iload_n hx hb dX12_lists_5 rfl (lv_at hl 1 rfl) ?_
  refine lv_i2l (v := p0.toInt64) hx hb dX12_lists_6 rfl ?_
  refine lv_lconst (v := 0) hx hb dX12_lists_7 (by decide) ?_
  refine lv_ldc2 (v := 3) hx hb hown (hts _ q_1710) dX12_lists_8 ?_
  refine m_cli (wr := [(o, mO r), (r 1, .inl (G.2 1, 5322, .inl (fun _ => 0)))]) h (m_rS (As := [.long p0.toInt64, .long 0, .long 3]) (rest := []) C0 h (c_X12_within l G p0.toInt64 0 3) k_X12_within q_1580 q_1579 [] (by decide) rfl hl.1 rfl rfl (Nat.le_of_ble_eq_true rfl) dX12_lists_11 ⟨Nat.le_of_ble_eq_true rfl, Nat.le_of_ble_eq_true rfl⟩ ⟨Nat.le_of_ble_eq_true rfl, Nat.le_of_ble_eq_true rfl⟩) [] [0, 1] rfl rfl (by decide) (by decide) (fun r_3 u_1 H locs hp_2 h => ?_)
  have h : Wd G A s _ _ [(o, mO r), (r 1, .inl (G.2 1, 5322, .inl (fun _ => 0)))] := h
  rcases hp_2 with ⟨rfl, hp_2w⟩ | ⟨rfl, hp_2w⟩
  · -- answer 1
    have hp_2w := (i64_w p0 0 3).mp hp_2w
    have hp_2w1 := hp_2w.1
    have hp_2w2 := hp_2w.2
    refine lv_if_eq (tgt := 26) hx hb dX12_lists_14 (by decide) (fun c_4 => absurd c_4 (by decide)) (fun c_4 => ?_)
    refine lv_aload_n hx hb dX12_lists_17 rfl (lv_at hl 0 rfl) ?_
    refine lv_iload_n hx hb dX12_lists_18 rfl (lv_at hl 2 rfl) ?_
    refine lv_iload_n hx hb dX12_lists_19 rfl (lv_at hl 3 rfl) ?_
    refine m_cli (wr := []) h (m_rV (ci := 12) (q0 := 0) (As := [.int p1, .int p2]) (rest := []) C0 h (c_X12_areThere l G o r p1 p2) k_X12_areThere q_1868 q_99 q_1866 rfl rfl rfl [0, 1] (by decide) rfl hl.1 rfl rfl (Nat.le_of_ble_eq_true rfl) dX12_lists_20 ⟨Nat.le_of_ble_eq_true rfl, Nat.le_of_ble_eq_true rfl⟩ ⟨Nat.le_of_ble_eq_true rfl, Nat.le_of_ble_eq_true rfl⟩) [0, 1] [] rfl rfl (by decide) (by decide) (fun r_7 u_5 H locs hp_6 h => ?_)
    have h : Wd G A s _ _ [(o, mO r), (r 1, .inl (G.2 1, 5322, .inl (fun _ => 0)))] := h
    obtain rfl : r_7 = 0 := hp_6
    refine lv_if_ne (tgt := 29) hx hb dX12_lists_23 (by decide) (fun c_8 => absurd c_8 (by decide)) (fun c_8 => ?_)
    refine lv_bipush (v := (-2)) hx hb dX12_lists_26 (by decide) ?_
    exact m_iret () C0 h [] (by decide) rfl rfl (Nat.le_of_ble_eq_true rfl) (Nat.le_of_ble_eq_true rfl) dX12_lists_28
  · -- answer 0
    have hp_2w : ¬ _ := fun hh => hp_2w ((i64_w p0 0 3).mpr hh)
    refine lv_if_eq (tgt := 26) hx hb dX12_lists_14 (by decide) (fun c_9 => ?_) (fun c_9 => absurd c_9 (by decide))
    refine lv_bipush (v := (-2)) hx hb dX12_lists_26 (by decide) ?_
    exact m_iret () C0 h [] (by decide) rfl rfl (Nat.le_of_ble_eq_true rfl) (Nat.le_of_ble_eq_true rfl) dX12_lists_28
set_option maxHeartbeats 4000000 in
set_option maxRecDepth 100000 in
theorem c_X12_cheap (l : Launch) (G : GG) (o : Nat) (r : Nat → Nat) : Mt l yX12_cheap cX12_cheap 3 (some .int) 3 0 0 G [.ref o] [(o, mO r), (r 1, .inl (G.2 1, 5322, .inl (fun _ => 0)))] (Ri (S := Unit) G (fun r _ => r = (-1)) (fun _ => [])) := by
  refine Mt.start (by decide) (Nat.le_of_ble_eq_true rfl) ?_
  intro p e s m below meth c A ls C0 hini h hl
  have C0 : Cx p s m _ meth c RX12 cX12_cheap 3 (some .int) := C0
  obtain ⟨hx, hb, hml, hown, hts, -⟩ := id C0
  have hl : lv_has ls 3 [(0, .ref o)] := hl
  refine lv_aload_n hx hb dX12_cheap_0 rfl (lv_at hl 0 rfl) ?_
  refine lv_iconst (v := 0) hx hb dX12_cheap_1 (by decide) ?_
  refine p_X12_thrown (ws' := [(o, mO r), (r 1, .inl (G.2 1, 5322, .inl (fun _ => 0)))]) C0 h 0 q_1438 rfl (Nat.le_of_ble_eq_true rfl) rfl rfl rfl dX12_cheap_2 (fun H locs h => ?_)
  refine lv_iconst (v := (-1)) hx hb dX12_cheap_5 (by decide) ?_
  refine lv_istore_n (lv' := [(1, .int (-1)), (0, .ref o)]) hx hb dX12_cheap_6 rfl hl (by decide) rfl (fun ls hl => ?_)
  refine lv_iconst (v := 0) hx hb dX12_cheap_7 (by decide) ?_
  refine lv_istore_n (lv' := [(2, .int 0), (1, .int (-1)), (0, .ref o)]) hx hb dX12_cheap_8 rfl hl (by decide) rfl (fun ls hl => ?_)
  refine lv_iload_n hx hb dX12_cheap_9 rfl (lv_at hl 0 rfl) ?_
  refine lv_aload_n hx hb dX12_cheap_10 rfl (lv_at hl 2 rfl) ?_
  refine m_cli (wr := []) h (m_rV (ci := 12) (q0 := 0) (As := []) (rest := [.int 0]) C0 h (c_X12_crossings l G o r) k_X12_crossings q_1705 q_79 q_1703 rfl rfl rfl [0, 1] (by decide) rfl hl.1 rfl rfl (Nat.le_of_ble_eq_true rfl) dX12_cheap_11 ⟨Nat.le_of_ble_eq_true rfl, Nat.le_of_ble_eq_true rfl⟩ ⟨Nat.le_of_ble_eq_true rfl, Nat.le_of_ble_eq_true rfl⟩) [0, 1] [] rfl rfl (by decide) (by decide) (fun r_3 u_1 H locs hp_2 h => ?_)
  have h : Wd G A s _ _ [(o, mO r), (r 1, .inl (G.2 1, 5322, .inl (fun _ => 0)))] := h
  obtain rfl : r_3 = 0 := hp_2
  refine lv_icmp_ge (tgt := 47) hx hb dX12_cheap_14 (by decide) (fun c_4 => ?_) (fun c_4 => absurd c_4 (by decide))
  refine lv_iload_n hx hb dX12_cheap_47 rfl (lv_at hl 1 rfl) ?_
  exact m_iret () C0 h [] (by decide) rfl rfl (Nat.le_of_ble_eq_true rfl) (Nat.le_of_ble_eq_true rfl) dX12_cheap_48
set_option maxHeartbeats 4000000 in
set_option maxRecDepth 100000 in
theorem c_X12_whyNot (l : Launch) (G : GG) (o : Nat) (r : Nat → Nat) (p0 : Int64) (p1 : Int64) : Mt l yX12_whyNot cX12_whyNot 7 (some .int) 2 0 0 G [.ref o, .long p0, .long p1] [(o, mO r), (r 1, .inl (G.2 1, 5322, .inl (fun _ => 0)))] (Ri (S := Unit) G (fun r _ => r = 1) (fun _ => [(o, mO r), (r 1, .inl (G.2 1, 5322, .inl (fun _ => 0)))])) := by
  refine Mt.start (by decide) (Nat.le_of_ble_eq_true rfl) ?_
  intro p e s m below meth c A ls C0 hini h hl
  have C0 : Cx p s m _ meth c RX12 cX12_whyNot 7 (some .int) := C0
  obtain ⟨hx, hb, hml, hown, hts, -⟩ := id C0
  have hl : lv_has ls 7 [(0, .ref o), (1, .long p0), (3, .long p1)] := hl
  refine lv_aload_n hx hb dX12_whyNot_0 rfl (lv_at hl 0 rfl) ?_
  refine lv_lload_n hx hb dX12_whyNot_1 rfl (lv_at hl 1 rfl) ?_
  refine m_cli (wr := []) h (m_rV (ci := 12) (q0 := 0) (As := [.long p0]) (rest := []) C0 h (c_X12_isPerson l G o r p0) k_X12_isPerson q_1693 q_77 q_1691 rfl rfl rfl [0, 1] (by decide) rfl hl.1 rfl rfl (Nat.le_of_ble_eq_true rfl) dX12_whyNot_2 ⟨Nat.le_of_ble_eq_true rfl, Nat.le_of_ble_eq_true rfl⟩ ⟨Nat.le_of_ble_eq_true rfl, Nat.le_of_ble_eq_true rfl⟩) [0, 1] [] rfl rfl (by decide) (by decide) (fun r_3 u_1 H locs hp_2 h => ?_)
  have h : Wd G A s _ _ [(o, mO r), (r 1, .inl (G.2 1, 5322, .inl (fun _ => 0)))] := h
  obtain rfl : r_3 = 0 := hp_2
  refine lv_if_eq (tgt := 19) hx hb dX12_whyNot_5 (by decide) (fun c_4 => ?_) (fun c_4 => absurd c_4 (by decide))
  refine lv_iconst (v := 1) hx hb dX12_whyNot_19 (by decide) ?_
  exact m_iret () C0 h [0, 1] (by decide) rfl rfl (Nat.le_of_ble_eq_true rfl) (Nat.le_of_ble_eq_true rfl) dX12_whyNot_20
set_option maxHeartbeats 4000000 in
set_option maxRecDepth 100000 in
theorem c_X12_why (l : Launch) (G : GG) (o : Nat) (r : Nat → Nat) (p0 : Int32) (p1 : Int32) : Mt l yX12_why cX12_why 3 (some .int) 3 0 0 G [.ref o, .int p0, .int p1] [(o, mO r), (r 1, .inl (G.2 1, 5322, .inl (fun _ => 0)))] (Ri (S := Unit) G (fun r _ => r = 1) (fun _ => [])) := by
  refine Mt.start (by decide) (Nat.le_of_ble_eq_true rfl) ?_
  intro p e s m below meth c A ls C0 hini h hl
  have C0 : Cx p s m _ meth c RX12 cX12_why 3 (some .int) := C0
  obtain ⟨hx, hb, hml, hown, hts, -⟩ := id C0
  have hl : lv_has ls 3 [(0, .ref o), (1, .int p0), (2, .int p1)] := hl
  refine lv_aload_n hx hb dX12_why_0 rfl (lv_at hl 0 rfl) ?_
  refine lv_iconst (v := 0) hx hb dX12_why_1 (by decide) ?_
  refine p_X12_thrown (ws' := [(o, mO r), (r 1, .inl (G.2 1, 5322, .inl (fun _ => 0)))]) C0 h 0 q_1438 rfl (Nat.le_of_ble_eq_true rfl) rfl rfl rfl dX12_why_2 (fun H locs h => ?_)
  refine lv_aload_n hx hb dX12_why_5 rfl (lv_at hl 0 rfl) ?_
  refine lv_iload_n hx hb dX12_why_6 rfl (lv_at hl 1 rfl) ?_
  refine lv_i2l (v := p0.toInt64) hx hb dX12_why_7 rfl ?_
  refine lv_iload_n hx hb dX12_why_8 rfl (lv_at hl 2 rfl) ?_
  refine lv_i2l (v := p1.toInt64) hx hb dX12_why_9 rfl ?_
  refine m_cli (wr := []) h (m_rV (ci := 12) (q0 := 0) (As := [.long p0.toInt64, .long p1.toInt64]) (rest := []) C0 h (c_X12_whyNot l G o r p0.toInt64 p1.toInt64) k_X12_whyNot q_1758 q_86 q_1756 rfl rfl rfl [0, 1] (by decide) rfl hl.1 rfl rfl (Nat.le_of_ble_eq_true rfl) dX12_why_10 ⟨Nat.le_of_ble_eq_true rfl, Nat.le_of_ble_eq_true rfl⟩ ⟨Nat.le_of_ble_eq_true rfl, Nat.le_of_ble_eq_true rfl⟩) [0, 1] [] rfl rfl (by decide) (by decide) (fun r_3 u_1 H locs hp_2 h => ?_)
  have h : Wd G A s _ _ [(o, mO r), (r 1, .inl (G.2 1, 5322, .inl (fun _ => 0)))] := h
  obtain rfl : r_3 = 1 := hp_2
  exact m_iret () C0 h [] (by decide) rfl rfl (Nat.le_of_ble_eq_true rfl) (Nat.le_of_ble_eq_true rfl) dX12_why_13
set_option maxHeartbeats 4000000 in
set_option maxRecDepth 100000 in
theorem c_X12_go (l : Launch) (G : GG) (o : Nat) (r : Nat → Nat) (p0 : Int32) (p1 : Int32) : Mt l yX12_go cX12_go 4 (some .int) 3 0 0 G [.ref o, .int p0, .int p1] [(o, mO r), (r 1, .inl (G.2 1, 5322, .inl (fun _ => 0)))] (Ri (S := Unit) G (fun r _ => r = (-11)) (fun _ => [])) := by
  refine Mt.start (by decide) (Nat.le_of_ble_eq_true rfl) ?_
  intro p e s m below meth c A ls C0 hini h hl
  have C0 : Cx p s m _ meth c RX12 cX12_go 4 (some .int) := C0
  obtain ⟨hx, hb, hml, hown, hts, -⟩ := id C0
  have hl : lv_has ls 4 [(0, .ref o), (1, .int p0), (2, .int p1)] := hl
  refine lv_aload_n hx hb dX12_go_0 rfl (lv_at hl 0 rfl) ?_
  refine lv_iconst (v := 0) hx hb dX12_go_1 (by decide) ?_
  refine p_X12_thrown (ws' := [(o, mO r), (r 1, .inl (G.2 1, 5322, .inl (fun _ => 0)))]) C0 h 0 q_1438 rfl (Nat.le_of_ble_eq_true rfl) rfl rfl rfl dX12_go_2 (fun H locs h => ?_)
  refine lv_aload_n hx hb dX12_go_5 rfl (lv_at hl 0 rfl) ?_
  refine lv_iload_n hx hb dX12_go_6 rfl (lv_at hl 1 rfl) ?_
  refine lv_i2l (v := p0.toInt64) hx hb dX12_go_7 rfl ?_
  refine lv_iload_n hx hb dX12_go_8 rfl (lv_at hl 2 rfl) ?_
  refine lv_i2l (v := p1.toInt64) hx hb dX12_go_9 rfl ?_
  refine m_cli (wr := []) h (m_rV (ci := 12) (q0 := 0) (As := [.long p0.toInt64, .long p1.toInt64]) (rest := []) C0 h (c_X12_whyNot l G o r p0.toInt64 p1.toInt64) k_X12_whyNot q_1758 q_86 q_1756 rfl rfl rfl [0, 1] (by decide) rfl hl.1 rfl rfl (Nat.le_of_ble_eq_true rfl) dX12_go_10 ⟨Nat.le_of_ble_eq_true rfl, Nat.le_of_ble_eq_true rfl⟩ ⟨Nat.le_of_ble_eq_true rfl, Nat.le_of_ble_eq_true rfl⟩) [0, 1] [] rfl rfl (by decide) (by decide) (fun r_3 u_1 H locs hp_2 h => ?_)
  have h : Wd G A s _ _ [(o, mO r), (r 1, .inl (G.2 1, 5322, .inl (fun _ => 0)))] := h
  obtain rfl : r_3 = 1 := hp_2
  refine lv_istore_n (lv' := [(3, .int 1), (0, .ref o), (1, .int p0), (2, .int p1)]) hx hb dX12_go_13 rfl hl (by decide) rfl (fun ls hl => ?_)
  refine lv_iload_n hx hb dX12_go_14 rfl (lv_at hl 0 rfl) ?_
  refine lv_if_eq (tgt := 23) hx hb dX12_go_15 (by decide) (fun c_4 => absurd c_4 (by decide)) (fun c_4 => ?_)
  refine lv_bipush (v := (-10)) hx hb dX12_go_18 (by decide) ?_
  refine lv_iload_n hx hb dX12_go_20 rfl (lv_at hl 0 rfl) ?_
  refine lv_isub hx hb dX12_go_21 ?_
  refine lv_topi (fun k_5 ek_5 => ?_)
  obtain rfl : k_5 = (-11) := ek_5.trans (by decide)
  exact m_iret () C0 h [] (by decide) rfl rfl (Nat.le_of_ble_eq_true rfl) (Nat.le_of_ble_eq_true rfl) dX12_go_22
set_option maxHeartbeats 4000000 in
set_option maxRecDepth 100000 in
theorem c_X12_undo (l : Launch) (G : GG) (o : Nat) (r : Nat → Nat) (p0 : Int32) : Mt l yX12_undo cX12_undo 3 (some .int) 3 0 0 G [.ref o, .int p0] [(o, mO r), (r 1, .inl (G.2 1, 5322, .inl (fun _ => 0)))] (Ri (S := Unit) G (fun r _ => r = (-3)) (fun _ => [])) := by
  refine Mt.start (by decide) (Nat.le_of_ble_eq_true rfl) ?_
  intro p e s m below meth c A ls C0 hini h hl
  have C0 : Cx p s m _ meth c RX12 cX12_undo 3 (some .int) := C0
  obtain ⟨hx, hb, hml, hown, hts, -⟩ := id C0
  have hl : lv_has ls 3 [(0, .ref o), (1, .int p0)] := hl
  refine lv_aload_n hx hb dX12_undo_0 rfl (lv_at hl 0 rfl) ?_
  refine lv_iconst (v := 0) hx hb dX12_undo_1 (by decide) ?_
  refine p_X12_thrown (ws' := [(o, mO r), (r 1, .inl (G.2 1, 5322, .inl (fun _ => 0)))]) C0 h 0 q_1438 rfl (Nat.le_of_ble_eq_true rfl) rfl rfl rfl dX12_undo_2 (fun H locs h => ?_)
  refine lv_iload_n hx hb dX12_undo_5 rfl (lv_at hl 1 rfl) ?_
  refine lv_i2l (v := p0.toInt64) hx hb dX12_undo_6 rfl ?_
  refine lv_lconst (v := 1) hx hb dX12_undo_7 (by decide) ?_
  refine lv_ldc2 (v := 10) hx hb hown (hts _ q_1847) dX12_undo_8 ?_
  refine m_cli (wr := [(o, mO r), (r 1, .inl (G.2 1, 5322, .inl (fun _ => 0)))]) h (m_rS (As := [.long p0.toInt64, .long 1, .long 10]) (rest := []) C0 h (c_X12_within l G p0.toInt64 1 10) k_X12_within q_1580 q_1579 [] (by decide) rfl hl.1 rfl rfl (Nat.le_of_ble_eq_true rfl) dX12_undo_11 ⟨Nat.le_of_ble_eq_true rfl, Nat.le_of_ble_eq_true rfl⟩ ⟨Nat.le_of_ble_eq_true rfl, Nat.le_of_ble_eq_true rfl⟩) [] [0, 1] rfl rfl (by decide) (by decide) (fun r_3 u_1 H locs hp_2 h => ?_)
  have h : Wd G A s _ _ [(o, mO r), (r 1, .inl (G.2 1, 5322, .inl (fun _ => 0)))] := h
  rcases hp_2 with ⟨rfl, hp_2w⟩ | ⟨rfl, hp_2w⟩
  · -- answer 1
    have hp_2w := (i64_w p0 1 10).mp hp_2w
    have hp_2w1 := hp_2w.1
    have hp_2w2 := hp_2w.2
    refine lv_if_eq (tgt := 28) hx hb dX12_undo_14 (by decide) (fun c_4 => absurd c_4 (by decide)) (fun c_4 => ?_)
    refine lv_iload_n hx hb dX12_undo_17 rfl (lv_at hl 1 rfl) ?_
    refine lv_aload_n hx hb dX12_undo_18 rfl (lv_at hl 0 rfl) ?_
    refine g_X12_all C0 h 0 q_1439 rfl rfl dX12_undo_19 ?_
    refine lv_bipush (v := 112) hx hb dX12_undo_22 (by decide) ?_
    refine m_iald C0 h 1 112 rfl (by decide) (by decide) (by decide) dX12_undo_24 ?_
    refine W.eq (g2 := F0 m 25 ls [.int 0, .int p0]) rfl ?_
    refine lv_icmp_le (tgt := 31) hx hb dX12_undo_25 (by decide) (fun c_5 => by exfalso; grind) (fun c_5 => ?_)
    refine lv_bipush (v := (-3)) hx hb dX12_undo_28 (by decide) ?_
    exact m_iret () C0 h [] (by decide) rfl rfl (Nat.le_of_ble_eq_true rfl) (Nat.le_of_ble_eq_true rfl) dX12_undo_30
  · -- answer 0
    have hp_2w : ¬ _ := fun hh => hp_2w ((i64_w p0 1 10).mpr hh)
    refine lv_if_eq (tgt := 28) hx hb dX12_undo_14 (by decide) (fun c_6 => ?_) (fun c_6 => absurd c_6 (by decide))
    refine lv_bipush (v := (-3)) hx hb dX12_undo_28 (by decide) ?_
    exact m_iret () C0 h [] (by decide) rfl rfl (Nat.le_of_ble_eq_true rfl) (Nat.le_of_ble_eq_true rfl) dX12_undo_30
set_option maxHeartbeats 4000000 in
set_option maxRecDepth 100000 in
theorem c_X12_week (l : Launch) (G : GG) (o : Nat) (r : Nat → Nat) (p0 : Int32) (p1 : Int32) : Mt l yX12_week cX12_week 5 (some .int) 3 0 0 G [.ref o, .int p0, .int p1] [(o, mO r), (r 1, .inl (G.2 1, 5322, .inl (fun _ => 0)))] (Ri (S := Unit) G (fun r _ => r = sp_week p1) (fun _ => [])) := by
  refine Mt.start (by decide) (Nat.le_of_ble_eq_true rfl) ?_
  intro p e s m below meth c A ls C0 hini h hl
  have C0 : Cx p s m _ meth c RX12 cX12_week 5 (some .int) := C0
  obtain ⟨hx, hb, hml, hown, hts, -⟩ := id C0
  have hl : lv_has ls 5 [(0, .ref o), (1, .int p0), (2, .int p1)] := hl
  refine lv_aload_n hx hb dX12_week_0 rfl (lv_at hl 0 rfl) ?_
  refine lv_iconst (v := 0) hx hb dX12_week_1 (by decide) ?_
  refine p_X12_thrown (ws' := [(o, mO r), (r 1, .inl (G.2 1, 5322, .inl (fun _ => 0)))]) C0 h 0 q_1438 rfl (Nat.le_of_ble_eq_true rfl) rfl rfl rfl dX12_week_2 (fun H locs h => ?_)
  refine lv_iload_n hx hb dX12_week_5 rfl (lv_at hl 2 rfl) ?_
  refine lv_i2l (v := p1.toInt64) hx hb dX12_week_6 rfl ?_
  refine lv_lconst (v := 1) hx hb dX12_week_7 (by decide) ?_
  refine lv_ldc2 (v := 60) hx hb hown (hts _ q_1852) dX12_week_8 ?_
  refine m_cli (wr := [(o, mO r), (r 1, .inl (G.2 1, 5322, .inl (fun _ => 0)))]) h (m_rS (As := [.long p1.toInt64, .long 1, .long 60]) (rest := []) C0 h (c_X12_within l G p1.toInt64 1 60) k_X12_within q_1580 q_1579 [] (by decide) rfl hl.1 rfl rfl (Nat.le_of_ble_eq_true rfl) dX12_week_11 ⟨Nat.le_of_ble_eq_true rfl, Nat.le_of_ble_eq_true rfl⟩ ⟨Nat.le_of_ble_eq_true rfl, Nat.le_of_ble_eq_true rfl⟩) [] [0, 1] rfl rfl (by decide) (by decide) (fun r_3 u_1 H locs hp_2 h => ?_)
  have h : Wd G A s _ _ [(o, mO r), (r 1, .inl (G.2 1, 5322, .inl (fun _ => 0)))] := h
  rcases hp_2 with ⟨rfl, hp_2w⟩ | ⟨rfl, hp_2w⟩
  · -- answer 1
    have hp_2w := (i64_w p1 1 60).mp hp_2w
    have hp_2w1 := hp_2w.1
    have hp_2w2 := hp_2w.2
    refine lv_if_ne (tgt := 20) hx hb dX12_week_14 (by decide) (fun c_4 => ?_) (fun c_4 => absurd c_4 (by decide))
    refine lv_aload_n hx hb dX12_week_20 rfl (lv_at hl 0 rfl) ?_
    refine g_X12_all C0 h 0 q_1439 rfl rfl dX12_week_21 ?_
    refine lv_iconst (v := 3) hx hb dX12_week_24 (by decide) ?_
    refine m_iald C0 h 1 3 rfl (by decide) (by decide) (by decide) dX12_week_25 ?_
    refine W.eq (g2 := F0 m 26 ls [.int 0]) rfl ?_
    refine lv_if_ne (tgt := 32) hx hb dX12_week_26 (by decide) (fun c_5 => absurd c_5 (by decide)) (fun c_5 => ?_)
    refine lv_bipush (v := (-5)) hx hb dX12_week_29 (by decide) ?_
    exact m_iret () C0 h [] (by decide) rfl (by unfold sp_week; grind) (Nat.le_of_ble_eq_true rfl) (Nat.le_of_ble_eq_true rfl) dX12_week_31
  · -- answer 0
    have hp_2w : ¬ _ := fun hh => hp_2w ((i64_w p1 1 60).mpr hh)
    refine lv_if_ne (tgt := 20) hx hb dX12_week_14 (by decide) (fun c_6 => absurd c_6 (by decide)) (fun c_6 => ?_)
    refine lv_bipush (v := (-3)) hx hb dX12_week_17 (by decide) ?_
    exact m_iret () C0 h [] (by decide) rfl (by unfold sp_week; grind) (Nat.le_of_ble_eq_true rfl) (Nat.le_of_ble_eq_true rfl) dX12_week_19
set_option maxHeartbeats 4000000 in
set_option maxRecDepth 100000 in
theorem c_X12_fault (l : Launch) (G : GG) (o : Nat) (r : Nat → Nat) (p0 : Int32) : Mt l yX12_fault cX12_fault 2 (some .int) 3 0 0 G [.ref o, .int p0] [(o, mO r)] (Ri (S := Unit) G (fun r _ => r = sp_fault p0) (fun _ => [])) := by
  refine Mt.start (by decide) (Nat.le_of_ble_eq_true rfl) ?_
  intro p e s m below meth c A ls C0 hini h hl
  have C0 : Cx p s m _ meth c RX12 cX12_fault 2 (some .int) := C0
  obtain ⟨hx, hb, hml, hown, hts, -⟩ := id C0
  have hl : lv_has ls 2 [(0, .ref o), (1, .int p0)] := hl
  refine lv_aload_n hx hb dX12_fault_0 rfl (lv_at hl 0 rfl) ?_
  refine lv_iconst (v := 0) hx hb dX12_fault_1 (by decide) ?_
  refine p_X12_thrown (ws' := [(o, mO r)]) C0 h 0 q_1438 rfl (Nat.le_of_ble_eq_true rfl) rfl rfl rfl dX12_fault_2 (fun H locs h => ?_)
  refine lv_iload_n hx hb dX12_fault_5 rfl (lv_at hl 1 rfl) ?_
  refine lv_if_ne (tgt := 16) hx hb dX12_fault_6 (by decide) (fun c_1 => ?_) (fun c_1 => ?_)
  · -- 6 ¬ p0 = 0
    refine lv_iload_n hx hb dX12_fault_16 rfl (lv_at hl 1 rfl) ?_
    refine lv_iconst (v := 1) hx hb dX12_fault_17 (by decide) ?_
    refine lv_icmp_ne (tgt := 28) hx hb dX12_fault_18 (by decide) (fun c_2 => ?_) (fun c_2 => ?_)
    · -- 18 p0 ≠ 1
      refine lv_iconst (v := (-1)) hx hb dX12_fault_28 (by decide) ?_
      exact m_iret () C0 h [] (by decide) rfl (by unfold sp_fault; grind) (Nat.le_of_ble_eq_true rfl) (Nat.le_of_ble_eq_true rfl) dX12_fault_29
    · -- 18 ¬ p0 ≠ 1
      refine lv_aload_n hx hb dX12_fault_21 rfl (lv_at hl 0 rfl) ?_
      refine g_X12_faultPlace C0 h 0 q_1452 rfl rfl dX12_fault_22 ?_
      refine lv_goto (tgt := 29) hx hb dX12_fault_25 (by decide) ?_
      exact m_iret () C0 h [] (by decide) rfl (by unfold sp_fault; grind) (Nat.le_of_ble_eq_true rfl) (Nat.le_of_ble_eq_true rfl) dX12_fault_29
  · -- 6 p0 = 0
    refine lv_aload_n hx hb dX12_fault_9 rfl (lv_at hl 0 rfl) ?_
    refine g_X12_faultKind C0 h 0 q_1451 rfl rfl dX12_fault_10 ?_
    refine lv_goto (tgt := 29) hx hb dX12_fault_13 (by decide) ?_
    exact m_iret () C0 h [] (by decide) rfl (by unfold sp_fault; grind) (Nat.le_of_ble_eq_true rfl) (Nat.le_of_ble_eq_true rfl) dX12_fault_29
set_option maxHeartbeats 4000000 in
set_option maxRecDepth 100000 in
theorem c_X12_noTray (l : Launch) (G : GG) (o : Nat) (r : Nat → Nat) (p0 : Int32) : Mt l yX12_noTray cX12_noTray 2 (some .int) 1 0 0 G [.ref o, .int p0] [(o, mO r), (r 41, .inl (G.2 1, 4, .inl rS))] (Ri (S := Unit) G (fun r _ => (r = (-6) ∧ (0 ≤ p0 ∧ p0 ≤ 3)) ∨ (r = (-2) ∧ ¬ (0 ≤ p0 ∧ p0 ≤ 3))) (fun _ => [(o, mO r), (r 41, .inl (G.2 1, 4, .inl rS))])) := by
  refine Mt.start (by decide) (Nat.le_of_ble_eq_true rfl) ?_
  intro p e s m below meth c A ls C0 hini h hl
  have C0 : Cx p s m _ meth c RX12 cX12_noTray 2 (some .int) := C0
  obtain ⟨hx, hb, hml, hown, hts, -⟩ := id C0
  have hl : lv_has ls 2 [(0, .ref o), (1, .int p0)] := hl
  refine lv_iload_n hx hb dX12_noTray_0 rfl (lv_at hl 1 rfl) ?_
  refine lv_i2l (v := p0.toInt64) hx hb dX12_noTray_1 rfl ?_
  refine lv_lconst (v := 0) hx hb dX12_noTray_2 (by decide) ?_
  refine lv_ldc2 (v := 3) hx hb hown (hts _ q_1710) dX12_noTray_3 ?_
  refine m_cli (wr := [(o, mO r), (r 41, .inl (G.2 1, 4, .inl rS))]) h (m_rS (As := [.long p0.toInt64, .long 0, .long 3]) (rest := []) C0 h (c_X12_within l G p0.toInt64 0 3) k_X12_within q_1580 q_1579 [] (by decide) rfl hl.1 rfl rfl (Nat.le_of_ble_eq_true rfl) dX12_noTray_6 ⟨Nat.le_of_ble_eq_true rfl, Nat.le_of_ble_eq_true rfl⟩ ⟨Nat.le_of_ble_eq_true rfl, Nat.le_of_ble_eq_true rfl⟩) [] [0, 1] rfl rfl (by decide) (by decide) (fun r_3 u_1 H locs hp_2 h => ?_)
  have h : Wd G A s _ _ [(o, mO r), (r 41, .inl (G.2 1, 4, .inl rS))] := h
  rcases hp_2 with ⟨rfl, hp_2w⟩ | ⟨rfl, hp_2w⟩
  · -- answer 1
    have hp_2w := (i64_w p0 0 3).mp hp_2w
    have hp_2w1 := hp_2w.1
    have hp_2w2 := hp_2w.2
    refine lv_if_ne (tgt := 17) hx hb dX12_noTray_9 (by decide) (fun c_4 => ?_) (fun c_4 => absurd c_4 (by decide))
    refine lv_aload_n hx hb dX12_noTray_17 rfl (lv_at hl 0 rfl) ?_
    refine g_X12_rowSort C0 h 0 q_1479 rfl rfl dX12_noTray_18 ?_
    refine lv_iload_n hx hb dX12_noTray_21 rfl (lv_at hl 1 rfl) ?_
    rcases (in4 hp_2w1 hp_2w2) with rfl | rfl | rfl | rfl
    · -- p0 = 0
      refine m_iald C0 h 1 0 rfl (by decide) (by decide) (by decide) dX12_noTray_22 ?_
      refine W.eq (g2 := F0 m 23 ls [.int (-1)]) rfl ?_
      refine lv_iconst (v := (-1)) hx hb dX12_noTray_23 (by decide) ?_
      refine lv_icmp_ne (tgt := 32) hx hb dX12_noTray_24 (by decide) (fun c_5 => absurd c_5 (by decide)) (fun c_5 => ?_)
      refine lv_bipush (v := (-6)) hx hb dX12_noTray_27 (by decide) ?_
      refine lv_goto (tgt := 33) hx hb dX12_noTray_29 (by decide) ?_
      exact m_iret () C0 h [0, 1] (by decide) rfl (by grind) (Nat.le_of_ble_eq_true rfl) (Nat.le_of_ble_eq_true rfl) dX12_noTray_33
    · -- p0 = 1
      refine m_iald C0 h 1 1 rfl (by decide) (by decide) (by decide) dX12_noTray_22 ?_
      refine W.eq (g2 := F0 m 23 ls [.int (-1)]) rfl ?_
      refine lv_iconst (v := (-1)) hx hb dX12_noTray_23 (by decide) ?_
      refine lv_icmp_ne (tgt := 32) hx hb dX12_noTray_24 (by decide) (fun c_6 => absurd c_6 (by decide)) (fun c_6 => ?_)
      refine lv_bipush (v := (-6)) hx hb dX12_noTray_27 (by decide) ?_
      refine lv_goto (tgt := 33) hx hb dX12_noTray_29 (by decide) ?_
      exact m_iret () C0 h [0, 1] (by decide) rfl (by grind) (Nat.le_of_ble_eq_true rfl) (Nat.le_of_ble_eq_true rfl) dX12_noTray_33
    · -- p0 = 2
      refine m_iald C0 h 1 2 rfl (by decide) (by decide) (by decide) dX12_noTray_22 ?_
      refine W.eq (g2 := F0 m 23 ls [.int (-1)]) rfl ?_
      refine lv_iconst (v := (-1)) hx hb dX12_noTray_23 (by decide) ?_
      refine lv_icmp_ne (tgt := 32) hx hb dX12_noTray_24 (by decide) (fun c_7 => absurd c_7 (by decide)) (fun c_7 => ?_)
      refine lv_bipush (v := (-6)) hx hb dX12_noTray_27 (by decide) ?_
      refine lv_goto (tgt := 33) hx hb dX12_noTray_29 (by decide) ?_
      exact m_iret () C0 h [0, 1] (by decide) rfl (by grind) (Nat.le_of_ble_eq_true rfl) (Nat.le_of_ble_eq_true rfl) dX12_noTray_33
    · -- p0 = 3
      refine m_iald C0 h 1 3 rfl (by decide) (by decide) (by decide) dX12_noTray_22 ?_
      refine W.eq (g2 := F0 m 23 ls [.int (-1)]) rfl ?_
      refine lv_iconst (v := (-1)) hx hb dX12_noTray_23 (by decide) ?_
      refine lv_icmp_ne (tgt := 32) hx hb dX12_noTray_24 (by decide) (fun c_8 => absurd c_8 (by decide)) (fun c_8 => ?_)
      refine lv_bipush (v := (-6)) hx hb dX12_noTray_27 (by decide) ?_
      refine lv_goto (tgt := 33) hx hb dX12_noTray_29 (by decide) ?_
      exact m_iret () C0 h [0, 1] (by decide) rfl (by grind) (Nat.le_of_ble_eq_true rfl) (Nat.le_of_ble_eq_true rfl) dX12_noTray_33
  · -- answer 0
    have hp_2w : ¬ _ := fun hh => hp_2w ((i64_w p0 0 3).mpr hh)
    refine lv_if_ne (tgt := 17) hx hb dX12_noTray_9 (by decide) (fun c_9 => absurd c_9 (by decide)) (fun c_9 => ?_)
    refine lv_bipush (v := (-2)) hx hb dX12_noTray_12 (by decide) ?_
    refine lv_goto (tgt := 33) hx hb dX12_noTray_14 (by decide) ?_
    exact m_iret () C0 h [0, 1] (by decide) rfl (by grind) (Nat.le_of_ble_eq_true rfl) (Nat.le_of_ble_eq_true rfl) dX12_noTray_33
set_option maxHeartbeats 4000000 in
set_option maxRecDepth 100000 in
theorem c_X12_judge (l : Launch) (G : GG) (o : Nat) (r : Nat → Nat) (p0 : Int32) (p1 : Int32) : Mt l yX12_judge cX12_judge 7 (some .int) 3 0 0 G [.ref o, .int p0, .int p1] [(o, mO r), (r 41, .inl (G.2 1, 4, .inl rS))] (Ri (S := Unit) G (fun r _ => r = sp_judge p0 p1) (fun _ => [])) := by
  refine Mt.start (by decide) (Nat.le_of_ble_eq_true rfl) ?_
  intro p e s m below meth c A ls C0 hini h hl
  have C0 : Cx p s m _ meth c RX12 cX12_judge 7 (some .int) := C0
  obtain ⟨hx, hb, hml, hown, hts, -⟩ := id C0
  have hl : lv_has ls 7 [(0, .ref o), (1, .int p0), (2, .int p1)] := hl
  refine lv_aload_n hx hb dX12_judge_0 rfl (lv_at hl 0 rfl) ?_
  refine lv_iconst (v := 0) hx hb dX12_judge_1 (by decide) ?_
  refine p_X12_thrown (ws' := [(o, mO r), (r 41, .inl (G.2 1, 4, .inl rS))]) C0 h 0 q_1438 rfl (Nat.le_of_ble_eq_true rfl) rfl rfl rfl dX12_judge_2 (fun H locs h => ?_)
  refine lv_iload_n hx hb dX12_judge_5 rfl (lv_at hl 2 rfl) ?_
  refine lv_i2l (v := p1.toInt64) hx hb dX12_judge_6 rfl ?_
  refine lv_lconst (v := 0) hx hb dX12_judge_7 (by decide) ?_
  refine lv_ldc2 (v := 3) hx hb hown (hts _ q_1710) dX12_judge_8 ?_
  refine m_cli (wr := [(o, mO r), (r 41, .inl (G.2 1, 4, .inl rS))]) h (m_rS (As := [.long p1.toInt64, .long 0, .long 3]) (rest := []) C0 h (c_X12_within l G p1.toInt64 0 3) k_X12_within q_1580 q_1579 [] (by decide) rfl hl.1 rfl rfl (Nat.le_of_ble_eq_true rfl) dX12_judge_11 ⟨Nat.le_of_ble_eq_true rfl, Nat.le_of_ble_eq_true rfl⟩ ⟨Nat.le_of_ble_eq_true rfl, Nat.le_of_ble_eq_true rfl⟩) [] [0, 1] rfl rfl (by decide) (by decide) (fun r_3 u_1 H locs hp_2 h => ?_)
  have h : Wd G A s _ _ [(o, mO r), (r 41, .inl (G.2 1, 4, .inl rS))] := h
  rcases hp_2 with ⟨rfl, hp_2w⟩ | ⟨rfl, hp_2w⟩
  · -- answer 1
    have hp_2w := (i64_w p1 0 3).mp hp_2w
    have hp_2w1 := hp_2w.1
    have hp_2w2 := hp_2w.2
    refine lv_if_ne (tgt := 20) hx hb dX12_judge_14 (by decide) (fun c_4 => ?_) (fun c_4 => absurd c_4 (by decide))
    refine lv_aload_n hx hb dX12_judge_20 rfl (lv_at hl 0 rfl) ?_
    refine lv_iload_n hx hb dX12_judge_21 rfl (lv_at hl 1 rfl) ?_
    refine m_cli (wr := []) h (m_rV (ci := 12) (q0 := 0) (As := [.int p0]) (rest := []) C0 h (c_X12_noTray l G o r p0) k_X12_noTray q_1796 q_91 q_1794 rfl rfl rfl [0, 1] (by decide) rfl hl.1 rfl rfl (Nat.le_of_ble_eq_true rfl) dX12_judge_22 ⟨Nat.le_of_ble_eq_true rfl, Nat.le_of_ble_eq_true rfl⟩ ⟨Nat.le_of_ble_eq_true rfl, Nat.le_of_ble_eq_true rfl⟩) [0, 1] [] rfl rfl (by decide) (by decide) (fun r_7 u_5 H locs hp_6 h => ?_)
    have h : Wd G A s _ _ [(o, mO r), (r 41, .inl (G.2 1, 4, .inl rS))] := h
    rcases hp_6 with ⟨rfl, hp_6w⟩ | ⟨rfl, hp_6w⟩
    · -- answer -6
      refine lv_istore_n (lv' := [(3, .int (-6)), (0, .ref o), (1, .int p0), (2, .int p1)]) hx hb dX12_judge_25 rfl hl (by decide) rfl (fun ls hl => ?_)
      refine lv_iload_n hx hb dX12_judge_26 rfl (lv_at hl 0 rfl) ?_
      refine lv_if_eq (tgt := 32) hx hb dX12_judge_27 (by decide) (fun c_8 => absurd c_8 (by decide)) (fun c_8 => ?_)
      refine lv_iload_n hx hb dX12_judge_30 rfl (lv_at hl 0 rfl) ?_
      exact m_iret () C0 h [] (by decide) rfl (by unfold sp_judge; grind) (Nat.le_of_ble_eq_true rfl) (Nat.le_of_ble_eq_true rfl) dX12_judge_31
    · -- answer -2
      refine lv_istore_n (lv' := [(3, .int (-2)), (0, .ref o), (1, .int p0), (2, .int p1)]) hx hb dX12_judge_25 rfl hl (by decide) rfl (fun ls hl => ?_)
      refine lv_iload_n hx hb dX12_judge_26 rfl (lv_at hl 0 rfl) ?_
      refine lv_if_eq (tgt := 32) hx hb dX12_judge_27 (by decide) (fun c_9 => absurd c_9 (by decide)) (fun c_9 => ?_)
      refine lv_iload_n hx hb dX12_judge_30 rfl (lv_at hl 0 rfl) ?_
      exact m_iret () C0 h [] (by decide) rfl (by unfold sp_judge; grind) (Nat.le_of_ble_eq_true rfl) (Nat.le_of_ble_eq_true rfl) dX12_judge_31
  · -- answer 0
    have hp_2w : ¬ _ := fun hh => hp_2w ((i64_w p1 0 3).mpr hh)
    refine lv_if_ne (tgt := 20) hx hb dX12_judge_14 (by decide) (fun c_10 => absurd c_10 (by decide)) (fun c_10 => ?_)
    refine lv_bipush (v := (-2)) hx hb dX12_judge_17 (by decide) ?_
    exact m_iret () C0 h [] (by decide) rfl (by unfold sp_judge; grind) (Nat.le_of_ble_eq_true rfl) (Nat.le_of_ble_eq_true rfl) dX12_judge_19
set_option maxHeartbeats 4000000 in
set_option maxRecDepth 100000 in
theorem c_X12_walk (l : Launch) (G : GG) (o : Nat) (r : Nat → Nat) (p0 : Int32) : Mt l yX12_walk cX12_walk 4 (some .int) 3 0 0 G [.ref o, .int p0] [(o, mO r), (r 41, .inl (G.2 1, 4, .inl rS))] (Ri (S := Unit) G (fun r _ => r = sp_tray p0) (fun _ => [])) := by
  refine Mt.start (by decide) (Nat.le_of_ble_eq_true rfl) ?_
  intro p e s m below meth c A ls C0 hini h hl
  have C0 : Cx p s m _ meth c RX12 cX12_walk 4 (some .int) := C0
  obtain ⟨hx, hb, hml, hown, hts, -⟩ := id C0
  have hl : lv_has ls 4 [(0, .ref o), (1, .int p0)] := hl
  refine lv_aload_n hx hb dX12_walk_0 rfl (lv_at hl 0 rfl) ?_
  refine lv_iconst (v := 0) hx hb dX12_walk_1 (by decide) ?_
  refine p_X12_thrown (ws' := [(o, mO r), (r 41, .inl (G.2 1, 4, .inl rS))]) C0 h 0 q_1438 rfl (Nat.le_of_ble_eq_true rfl) rfl rfl rfl dX12_walk_2 (fun H locs h => ?_)
  refine lv_aload_n hx hb dX12_walk_5 rfl (lv_at hl 0 rfl) ?_
  refine lv_iload_n hx hb dX12_walk_6 rfl (lv_at hl 1 rfl) ?_
  refine m_cli (wr := []) h (m_rV (ci := 12) (q0 := 0) (As := [.int p0]) (rest := []) C0 h (c_X12_noTray l G o r p0) k_X12_noTray q_1796 q_91 q_1794 rfl rfl rfl [0, 1] (by decide) rfl hl.1 rfl rfl (Nat.le_of_ble_eq_true rfl) dX12_walk_7 ⟨Nat.le_of_ble_eq_true rfl, Nat.le_of_ble_eq_true rfl⟩ ⟨Nat.le_of_ble_eq_true rfl, Nat.le_of_ble_eq_true rfl⟩) [0, 1] [] rfl rfl (by decide) (by decide) (fun r_3 u_1 H locs hp_2 h => ?_)
  have h : Wd G A s _ _ [(o, mO r), (r 41, .inl (G.2 1, 4, .inl rS))] := h
  rcases hp_2 with ⟨rfl, hp_2w⟩ | ⟨rfl, hp_2w⟩
  · -- answer -6
    refine lv_istore_n (lv' := [(2, .int (-6)), (0, .ref o), (1, .int p0)]) hx hb dX12_walk_10 rfl hl (by decide) rfl (fun ls hl => ?_)
    refine lv_iload_n hx hb dX12_walk_11 rfl (lv_at hl 0 rfl) ?_
    refine lv_if_eq (tgt := 17) hx hb dX12_walk_12 (by decide) (fun c_4 => absurd c_4 (by decide)) (fun c_4 => ?_)
    refine lv_iload_n hx hb dX12_walk_15 rfl (lv_at hl 0 rfl) ?_
    exact m_iret () C0 h [] (by decide) rfl (by unfold sp_tray; grind) (Nat.le_of_ble_eq_true rfl) (Nat.le_of_ble_eq_true rfl) dX12_walk_16
  · -- answer -2
    refine lv_istore_n (lv' := [(2, .int (-2)), (0, .ref o), (1, .int p0)]) hx hb dX12_walk_10 rfl hl (by decide) rfl (fun ls hl => ?_)
    refine lv_iload_n hx hb dX12_walk_11 rfl (lv_at hl 0 rfl) ?_
    refine lv_if_eq (tgt := 17) hx hb dX12_walk_12 (by decide) (fun c_5 => absurd c_5 (by decide)) (fun c_5 => ?_)
    refine lv_iload_n hx hb dX12_walk_15 rfl (lv_at hl 0 rfl) ?_
    exact m_iret () C0 h [] (by decide) rfl (by unfold sp_tray; grind) (Nat.le_of_ble_eq_true rfl) (Nat.le_of_ble_eq_true rfl) dX12_walk_16
set_option maxHeartbeats 4000000 in
set_option maxRecDepth 100000 in
theorem c_X12_write (l : Launch) (G : GG) (o : Nat) (r : Nat → Nat) (p0 : Int32) (p1 : Int32) (p2 : Int64) : Mt l yX12_write cX12_write 6 (some .long) 3 0 0 G [.ref o, .int p0, .int p1, .long p2] [(o, mO r), (r 41, .inl (G.2 1, 4, .inl rS))] (Rl (S := Unit) G (fun r _ => r = sp_trayL p0) (fun _ => [])) := by
  refine Mt.start (by decide) (Nat.le_of_ble_eq_true rfl) ?_
  intro p e s m below meth c A ls C0 hini h hl
  have C0 : Cx p s m _ meth c RX12 cX12_write 6 (some .long) := C0
  obtain ⟨hx, hb, hml, hown, hts, -⟩ := id C0
  have hl : lv_has ls 6 [(0, .ref o), (1, .int p0), (2, .int p1), (3, .long p2)] := hl
  refine lv_aload_n hx hb dX12_write_0 rfl (lv_at hl 0 rfl) ?_
  refine lv_iconst (v := 0) hx hb dX12_write_1 (by decide) ?_
  refine p_X12_thrown (ws' := [(o, mO r), (r 41, .inl (G.2 1, 4, .inl rS))]) C0 h 0 q_1438 rfl (Nat.le_of_ble_eq_true rfl) rfl rfl rfl dX12_write_2 (fun H locs h => ?_)
  refine lv_aload_n hx hb dX12_write_5 rfl (lv_at hl 0 rfl) ?_
  refine lv_iload_n hx hb dX12_write_6 rfl (lv_at hl 1 rfl) ?_
  refine m_cli (wr := []) h (m_rV (ci := 12) (q0 := 0) (As := [.int p0]) (rest := []) C0 h (c_X12_noTray l G o r p0) k_X12_noTray q_1796 q_91 q_1794 rfl rfl rfl [0, 1] (by decide) rfl hl.1 rfl rfl (Nat.le_of_ble_eq_true rfl) dX12_write_7 ⟨Nat.le_of_ble_eq_true rfl, Nat.le_of_ble_eq_true rfl⟩ ⟨Nat.le_of_ble_eq_true rfl, Nat.le_of_ble_eq_true rfl⟩) [0, 1] [] rfl rfl (by decide) (by decide) (fun r_3 u_1 H locs hp_2 h => ?_)
  have h : Wd G A s _ _ [(o, mO r), (r 41, .inl (G.2 1, 4, .inl rS))] := h
  rcases hp_2 with ⟨rfl, hp_2w⟩ | ⟨rfl, hp_2w⟩
  · -- answer -6
    refine lv_istore (lv' := [(5, .int (-6)), (0, .ref o), (1, .int p0), (2, .int p1), (3, .long p2)]) hx hb dX12_write_10 hl (by decide) rfl (fun ls hl => ?_)
    refine lv_iload hx hb dX12_write_12 (lv_at hl 0 rfl) ?_
    refine lv_if_eq (tgt := 21) hx hb dX12_write_14 (by decide) (fun c_4 => absurd c_4 (by decide)) (fun c_4 => ?_)
    refine lv_iload hx hb dX12_write_17 (lv_at hl 0 rfl) ?_
    refine lv_i2l (v := (-6)) hx hb dX12_write_19 (by decide) ?_
    exact m_lret () C0 h [] (by decide) rfl (by unfold sp_trayL; grind) (Nat.le_of_ble_eq_true rfl) (Nat.le_of_ble_eq_true rfl) dX12_write_20
  · -- answer -2
    refine lv_istore (lv' := [(5, .int (-2)), (0, .ref o), (1, .int p0), (2, .int p1), (3, .long p2)]) hx hb dX12_write_10 hl (by decide) rfl (fun ls hl => ?_)
    refine lv_iload hx hb dX12_write_12 (lv_at hl 0 rfl) ?_
    refine lv_if_eq (tgt := 21) hx hb dX12_write_14 (by decide) (fun c_5 => absurd c_5 (by decide)) (fun c_5 => ?_)
    refine lv_iload hx hb dX12_write_17 (lv_at hl 0 rfl) ?_
    refine lv_i2l (v := (-2)) hx hb dX12_write_19 (by decide) ?_
    exact m_lret () C0 h [] (by decide) rfl (by unfold sp_trayL; grind) (Nat.le_of_ble_eq_true rfl) (Nat.le_of_ble_eq_true rfl) dX12_write_20
set_option maxHeartbeats 4000000 in
set_option maxRecDepth 100000 in
theorem c_X12_restore (l : Launch) (G : GG) (o : Nat) (r : Nat → Nat) (p0 : Int32) : Mt l yX12_restore cX12_restore 3 (some .int) 3 0 0 G [.ref o, .int p0] [(o, mO r), (r 2, .inl (G.2 3, 2, .inl (fun _ => 0)))] (Ri (S := Unit) G (fun r _ => r = sp_restore p0) (fun _ => [])) := by
  refine Mt.start (by decide) (Nat.le_of_ble_eq_true rfl) ?_
  intro p e s m below meth c A ls C0 hini h hl
  have C0 : Cx p s m _ meth c RX12 cX12_restore 3 (some .int) := C0
  obtain ⟨hx, hb, hml, hown, hts, -⟩ := id C0
  have hl : lv_has ls 3 [(0, .ref o), (1, .int p0)] := hl
  refine lv_aload_n hx hb dX12_restore_0 rfl (lv_at hl 0 rfl) ?_
  refine lv_iconst (v := 0) hx hb dX12_restore_1 (by decide) ?_
  refine p_X12_thrown (ws' := [(o, mO r), (r 2, .inl (G.2 3, 2, .inl (fun _ => 0)))]) C0 h 0 q_1438 rfl (Nat.le_of_ble_eq_true rfl) rfl rfl rfl dX12_restore_2 (fun H locs h => ?_)
  refine lv_iload_n hx hb dX12_restore_5 rfl (lv_at hl 1 rfl) ?_
  refine lv_i2l (v := p0.toInt64) hx hb dX12_restore_6 rfl ?_
  refine lv_lconst (v := 0) hx hb dX12_restore_7 (by decide) ?_
  refine lv_lconst (v := 1) hx hb dX12_restore_8 (by decide) ?_
  refine m_cli (wr := [(o, mO r), (r 2, .inl (G.2 3, 2, .inl (fun _ => 0)))]) h (m_rS (As := [.long p0.toInt64, .long 0, .long 1]) (rest := []) C0 h (c_X12_within l G p0.toInt64 0 1) k_X12_within q_1580 q_1579 [] (by decide) rfl hl.1 rfl rfl (Nat.le_of_ble_eq_true rfl) dX12_restore_9 ⟨Nat.le_of_ble_eq_true rfl, Nat.le_of_ble_eq_true rfl⟩ ⟨Nat.le_of_ble_eq_true rfl, Nat.le_of_ble_eq_true rfl⟩) [] [0, 1] rfl rfl (by decide) (by decide) (fun r_3 u_1 H locs hp_2 h => ?_)
  have h : Wd G A s _ _ [(o, mO r), (r 2, .inl (G.2 3, 2, .inl (fun _ => 0)))] := h
  rcases hp_2 with ⟨rfl, hp_2w⟩ | ⟨rfl, hp_2w⟩
  · -- answer 1
    have hp_2w := (i64_w p0 0 1).mp hp_2w
    have hp_2w1 := hp_2w.1
    have hp_2w2 := hp_2w.2
    refine lv_if_ne (tgt := 18) hx hb dX12_restore_12 (by decide) (fun c_4 => ?_) (fun c_4 => absurd c_4 (by decide))
    refine lv_aload_n hx hb dX12_restore_18 rfl (lv_at hl 0 rfl) ?_
    refine g_X12_hasImage C0 h 0 q_1440 rfl rfl dX12_restore_19 ?_
    refine lv_iload_n hx hb dX12_restore_22 rfl (lv_at hl 1 rfl) ?_
    rcases (in2 hp_2w1 hp_2w2) with rfl | rfl
    · -- p0 = 0
      refine m_zald C0 h 1 0 rfl (by decide) (by decide) (by decide) dX12_restore_23 ?_
      refine W.eq (g2 := F0 m 24 ls [.int 0]) rfl ?_
      refine lv_if_ne (tgt := 30) hx hb dX12_restore_24 (by decide) (fun c_5 => absurd c_5 (by decide)) (fun c_5 => ?_)
      refine lv_bipush (v := (-5)) hx hb dX12_restore_27 (by decide) ?_
      exact m_iret () C0 h [] (by decide) rfl (by unfold sp_restore; grind) (Nat.le_of_ble_eq_true rfl) (Nat.le_of_ble_eq_true rfl) dX12_restore_29
    · -- p0 = 1
      refine m_zald C0 h 1 1 rfl (by decide) (by decide) (by decide) dX12_restore_23 ?_
      refine W.eq (g2 := F0 m 24 ls [.int 0]) rfl ?_
      refine lv_if_ne (tgt := 30) hx hb dX12_restore_24 (by decide) (fun c_6 => absurd c_6 (by decide)) (fun c_6 => ?_)
      refine lv_bipush (v := (-5)) hx hb dX12_restore_27 (by decide) ?_
      exact m_iret () C0 h [] (by decide) rfl (by unfold sp_restore; grind) (Nat.le_of_ble_eq_true rfl) (Nat.le_of_ble_eq_true rfl) dX12_restore_29
  · -- answer 0
    have hp_2w : ¬ _ := fun hh => hp_2w ((i64_w p0 0 1).mpr hh)
    refine lv_if_ne (tgt := 18) hx hb dX12_restore_12 (by decide) (fun c_7 => absurd c_7 (by decide)) (fun c_7 => ?_)
    refine lv_bipush (v := (-2)) hx hb dX12_restore_15 (by decide) ?_
    exact m_iret () C0 h [] (by decide) rfl (by unfold sp_restore; grind) (Nat.le_of_ble_eq_true rfl) (Nat.le_of_ble_eq_true rfl) dX12_restore_17
