abbrev M_J0_charAt_5068e : ZMI := (RJ0, cJ0_charAt_5068e, 2, (some .char), 1, { frames := 4, cells := 0, slots := 0, locals := 150 })
theorem zn_J0_charAt_5068e : zNames yJ0_charAt_5068e 1 := ⟨by decide +kernel, by decide +kernel, by decide +kernel⟩
abbrev M_J0_isEmpty_aae02 : ZMI := (RJ0, cJ0_isEmpty_aae02, 1, (some .boolean), 4, { frames := 0, cells := 0, slots := 0, locals := 0 })
theorem zn_J0_isEmpty_aae02 : zNames yJ0_isEmpty_aae02 0 := ⟨by decide +kernel, by decide +kernel, by decide +kernel⟩
abbrev M_J0_length_8abf5 : ZMI := (RJ0, cJ0_length_8abf5, 1, (some .int), 1, { frames := 1, cells := 0, slots := 0, locals := 21 })
theorem zn_J0_length_8abf5 : zNames yJ0_length_8abf5 0 := ⟨by decide +kernel, by decide +kernel, by decide +kernel⟩
abbrev M_J6_bitCount_0f7a4 : ZMI := (RJ6, cJ6_bitCount_0f7a4, 1, (some .int), 1, { frames := 0, cells := 0, slots := 0, locals := 0 })
theorem zn_J6_bitCount_0f7a4 : zNames yJ6_bitCount_0f7a4 1 := ⟨by decide +kernel, by decide +kernel, by decide +kernel⟩
abbrev M_X0_seekAll : ZMI := (RX0, cX0_seekAll, 5, none, 0, { frames := 3, cells := 0, slots := 0, locals := 73 })
theorem zn_X0_seekAll : zNames yX0_seekAll 1 := ⟨by decide +kernel, by decide +kernel, by decide +kernel⟩
abbrev M_X0_seen : ZMI := (RX0, cX0_seen, 7, none, 0, { frames := 2, cells := 0, slots := 0, locals := 47 })
theorem zn_X0_seen : zNames yX0_seen 3 := ⟨by decide +kernel, by decide +kernel, by decide +kernel⟩
abbrev M_X0_weighable : ZMI := (RX0, cX0_weighable, 4, (some .int), 1, { frames := 4, cells := 0, slots := 0, locals := 97 })
theorem zn_X0_weighable : zNames yX0_weighable 1 := ⟨by decide +kernel, by decide +kernel, by decide +kernel⟩
abbrev M_X0_weighing : ZMI := (RX0, cX0_weighing, 5, (some .int), 1, { frames := 4, cells := 0, slots := 0, locals := 97 })
theorem zn_X0_weighing : zNames yX0_weighing 3 := ⟨by decide +kernel, by decide +kernel, by decide +kernel⟩
abbrev M_X0_weightOf : ZMI := (RX0, cX0_weightOf, 4, (some .int), 1, { frames := 1, cells := 0, slots := 0, locals := 24 })
theorem zn_X0_weightOf : zNames yX0_weightOf 2 := ⟨by decide +kernel, by decide +kernel, by decide +kernel⟩
abbrev M_X10_area : ZMI := (RX10, cX10_area, 3, (some .int), 1, { frames := 1, cells := 0, slots := 0, locals := 24 })
theorem zn_X10_area : zNames yX10_area 2 := ⟨by decide +kernel, by decide +kernel, by decide +kernel⟩
abbrev M_X10_depthApart : ZMI := (RX10, cX10_depthApart, 2, (some .long), 2, { frames := 2, cells := 0, slots := 0, locals := 46 })
theorem zn_X10_depthApart : zNames yX10_depthApart 2 := ⟨by decide +kernel, by decide +kernel, by decide +kernel⟩
abbrev M_X10_isNearer : ZMI := (RX10, cX10_isNearer, 3, (some .boolean), 4, { frames := 3, cells := 0, slots := 0, locals := 67 })
theorem zn_X10_isNearer : zNames yX10_isNearer 3 := ⟨by decide +kernel, by decide +kernel, by decide +kernel⟩
abbrev M_X10_minutesIn : ZMI := (RX10, cX10_minutesIn, 4, (some .int), 1, { frames := 2, cells := 0, slots := 0, locals := 46 })
theorem zn_X10_minutesIn : zNames yX10_minutesIn 2 := ⟨by decide +kernel, by decide +kernel, by decide +kernel⟩
abbrev M_X10_nearestPair : ZMI := (RX10, cX10_nearestPair, 7, (some .int), 1, { frames := 2, cells := 0, slots := 0, locals := 46 })
theorem zn_X10_nearestPair : zNames yX10_nearestPair 1 := ⟨by decide +kernel, by decide +kernel, by decide +kernel⟩
abbrev M_X10_nearestTin : ZMI := (RX10, cX10_nearestTin, 3, (some .int), 1, { frames := 4, cells := 0, slots := 0, locals := 89 })
theorem zn_X10_nearestTin : zNames yX10_nearestTin 1 := ⟨by decide +kernel, by decide +kernel, by decide +kernel⟩
abbrev M_X11_also : ZMI := (RX11, cX11_also, 3, (some .int), 1, { frames := 4, cells := 0, slots := 0, locals := 95 })
theorem zn_X11_also : zNames yX11_also 2 := ⟨by decide +kernel, by decide +kernel, by decide +kernel⟩
abbrev M_X11_back : ZMI := (RX11, cX11_back, 3, (some .int), 1, { frames := 3, cells := 0, slots := 0, locals := 70 })
theorem zn_X11_back : zNames yX11_back 0 := ⟨by decide +kernel, by decide +kernel, by decide +kernel⟩
abbrev M_X11_best : ZMI := (RX11, cX11_best, 4, (some .int), 1, { frames := 6, cells := 0, slots := 0, locals := 145 })
theorem zn_X11_best : zNames yX11_best 2 := ⟨by decide +kernel, by decide +kernel, by decide +kernel⟩
abbrev M_X11_book : ZMI := (RX11, cX11_book, 2, (some .int), 1, { frames := 8, cells := 0, slots := 0, locals := 239 })
theorem zn_X11_book : zNames yX11_book 0 := ⟨by decide +kernel, by decide +kernel, by decide +kernel⟩
abbrev M_X11_buy : ZMI := (RX11, cX11_buy, 3, (some .int), 1, { frames := 5, cells := 0, slots := 0, locals := 121 })
theorem zn_X11_buy : zNames yX11_buy 1 := ⟨by decide +kernel, by decide +kernel, by decide +kernel⟩
abbrev M_X11_cheapest : ZMI := (RX11, cX11_cheapest, 4, (some .int), 1, { frames := 6, cells := 0, slots := 0, locals := 147 })
theorem zn_X11_cheapest : zNames yX11_cheapest 2 := ⟨by decide +kernel, by decide +kernel, by decide +kernel⟩
abbrev M_X11_clear : ZMI := (RX11, cX11_clear, 2, (some .int), 1, { frames := 2, cells := 0, slots := 0, locals := 44 })
theorem zn_X11_clear : zNames yX11_clear 0 := ⟨by decide +kernel, by decide +kernel, by decide +kernel⟩
abbrev M_X11_count : ZMI := (RX11, cX11_count, 2, (some .int), 1, { frames := 2, cells := 0, slots := 0, locals := 46 })
theorem zn_X11_count : zNames yX11_count 1 := ⟨by decide +kernel, by decide +kernel, by decide +kernel⟩
abbrev M_X11_cup : ZMI := (RX11, cX11_cup, 4, (some .int), 1, { frames := 3, cells := 0, slots := 0, locals := 71 })
theorem zn_X11_cup : zNames yX11_cup 2 := ⟨by decide +kernel, by decide +kernel, by decide +kernel⟩
abbrev M_X11_deep : ZMI := (RX11, cX11_deep, 5, (some .long), 2, { frames := 3, cells := 0, slots := 0, locals := 71 })
theorem zn_X11_deep : zNames yX11_deep 2 := ⟨by decide +kernel, by decide +kernel, by decide +kernel⟩
abbrev M_X11_dish : ZMI := (RX11, cX11_dish, 8, (some .int), 1, { frames := 4, cells := 0, slots := 0, locals := 85 })
theorem zn_X11_dish : zNames yX11_dish 5 := ⟨by decide +kernel, by decide +kernel, by decide +kernel⟩
abbrev M_X11_each : ZMI := (RX11, cX11_each, 4, (some .int), 1, { frames := 2, cells := 0, slots := 0, locals := 44 })
theorem zn_X11_each : zNames yX11_each 4 := ⟨by decide +kernel, by decide +kernel, by decide +kernel⟩
abbrev M_X11_either : ZMI := (RX11, cX11_either, 4, (some .int), 1, { frames := 1, cells := 0, slots := 0, locals := 21 })
theorem zn_X11_either : zNames yX11_either 4 := ⟨by decide +kernel, by decide +kernel, by decide +kernel⟩
abbrev M_X11_enough : ZMI := (RX11, cX11_enough, 1, (some .int), 1, { frames := 5, cells := 0, slots := 0, locals := 116 })
theorem zn_X11_enough : zNames yX11_enough 0 := ⟨by decide +kernel, by decide +kernel, by decide +kernel⟩
abbrev M_X11_fair : ZMI := (RX11, cX11_fair, 5, (some .int), 1, { frames := 3, cells := 0, slots := 0, locals := 71 })
theorem zn_X11_fair : zNames yX11_fair 1 := ⟨by decide +kernel, by decide +kernel, by decide +kernel⟩
abbrev M_X11_feed : ZMI := (RX11, cX11_feed, 3, (some .int), 1, { frames := 3, cells := 0, slots := 0, locals := 71 })
theorem zn_X11_feed : zNames yX11_feed 1 := ⟨by decide +kernel, by decide +kernel, by decide +kernel⟩
abbrev M_X11_forgotten : ZMI := (RX11, cX11_forgotten, 1, (some .int), 1, { frames := 2, cells := 0, slots := 0, locals := 48 })
theorem zn_X11_forgotten : zNames yX11_forgotten 0 := ⟨by decide +kernel, by decide +kernel, by decide +kernel⟩
abbrev M_X11_guests : ZMI := (RX11, cX11_guests, 4, (some .int), 1, { frames := 3, cells := 0, slots := 0, locals := 70 })
theorem zn_X11_guests : zNames yX11_guests 1 := ⟨by decide +kernel, by decide +kernel, by decide +kernel⟩
abbrev M_X11_heavy : ZMI := (RX11, cX11_heavy, 1, (some .int), 1, { frames := 5, cells := 0, slots := 0, locals := 120 })
theorem zn_X11_heavy : zNames yX11_heavy 0 := ⟨by decide +kernel, by decide +kernel, by decide +kernel⟩
abbrev M_X11_house : ZMI := (RX11, cX11_house, 3, (some .int), 1, { frames := 4, cells := 0, slots := 0, locals := 95 })
theorem zn_X11_house : zNames yX11_house 2 := ⟨by decide +kernel, by decide +kernel, by decide +kernel⟩
abbrev M_X11_image : ZMI := (RX11, cX11_image, 1, (some .int), 1, { frames := 3, cells := 0, slots := 0, locals := 64 })
theorem zn_X11_image : zNames yX11_image 0 := ⟨by decide +kernel, by decide +kernel, by decide +kernel⟩
abbrev M_X11_judge : ZMI := (RX11, cX11_judge, 3, (some .int), 1, { frames := 6, cells := 0, slots := 0, locals := 140 })
theorem zn_X11_judge : zNames yX11_judge 0 := ⟨by decide +kernel, by decide +kernel, by decide +kernel⟩
abbrev M_X11_lacks : ZMI := (RX11, cX11_lacks, 1, (some .int), 1, { frames := 5, cells := 0, slots := 0, locals := 118 })
theorem zn_X11_lacks : zNames yX11_lacks 0 := ⟨by decide +kernel, by decide +kernel, by decide +kernel⟩
abbrev M_X11_lots : ZMI := (RX11, cX11_lots, 4, (some .int), 1, { frames := 3, cells := 0, slots := 0, locals := 70 })
theorem zn_X11_lots : zNames yX11_lots 2 := ⟨by decide +kernel, by decide +kernel, by decide +kernel⟩
abbrev M_X11_mistake : ZMI := (RX11, cX11_mistake, 4, (some .int), 1, { frames := 3, cells := 0, slots := 0, locals := 71 })
theorem zn_X11_mistake : zNames yX11_mistake 2 := ⟨by decide +kernel, by decide +kernel, by decide +kernel⟩
abbrev M_X11_more : ZMI := (RX11, cX11_more, 5, (some .int), 1, { frames := 4, cells := 0, slots := 0, locals := 98 })
theorem zn_X11_more : zNames yX11_more 3 := ⟨by decide +kernel, by decide +kernel, by decide +kernel⟩
abbrev M_X11_needed : ZMI := (RX11, cX11_needed, 6, (some .int), 1, { frames := 5, cells := 0, slots := 0, locals := 107 })
theorem zn_X11_needed : zNames yX11_needed 3 := ⟨by decide +kernel, by decide +kernel, by decide +kernel⟩
abbrev M_X11_noChoice : ZMI := (RX11, cX11_noChoice, 2, (some .int), 1, { frames := 0, cells := 0, slots := 0, locals := 0 })
theorem zn_X11_noChoice : zNames yX11_noChoice 2 := ⟨by decide +kernel, by decide +kernel, by decide +kernel⟩
abbrev M_X11_noPart : ZMI := (RX11, cX11_noPart, 2, (some .int), 1, { frames := 2, cells := 0, slots := 0, locals := 42 })
theorem zn_X11_noPart : zNames yX11_noPart 1 := ⟨by decide +kernel, by decide +kernel, by decide +kernel⟩
abbrev M_X11_noPartOf : ZMI := (RX11, cX11_noPartOf, 3, (some .int), 1, { frames := 3, cells := 0, slots := 0, locals := 63 })
theorem zn_X11_noPartOf : zNames yX11_noPartOf 2 := ⟨by decide +kernel, by decide +kernel, by decide +kernel⟩
abbrev M_X11_noRoom : ZMI := (RX11, cX11_noRoom, 1, (some .int), 1, { frames := 1, cells := 0, slots := 0, locals := 20 })
theorem zn_X11_noRoom : zNames yX11_noRoom 1 := ⟨by decide +kernel, by decide +kernel, by decide +kernel⟩
abbrev M_X11_noSuch : ZMI := (RX11, cX11_noSuch, 2, (some .int), 1, { frames := 1, cells := 0, slots := 0, locals := 21 })
theorem zn_X11_noSuch : zNames yX11_noSuch 2 := ⟨by decide +kernel, by decide +kernel, by decide +kernel⟩
abbrev M_X11_notTwoParts : ZMI := (RX11, cX11_notTwoParts, 3, (some .int), 1, { frames := 4, cells := 0, slots := 0, locals := 85 })
theorem zn_X11_notTwoParts : zNames yX11_notTwoParts 2 := ⟨by decide +kernel, by decide +kernel, by decide +kernel⟩
abbrev M_X11_off : ZMI := (RX11, cX11_off, 5, (some .long), 2, { frames := 5, cells := 0, slots := 0, locals := 121 })
theorem zn_X11_off : zNames yX11_off 2 := ⟨by decide +kernel, by decide +kernel, by decide +kernel⟩
abbrev M_X11_out : ZMI := (RX11, cX11_out, 3, (some .int), 1, { frames := 5, cells := 0, slots := 0, locals := 120 })
theorem zn_X11_out : zNames yX11_out 1 := ⟨by decide +kernel, by decide +kernel, by decide +kernel⟩
abbrev M_X11_outside : ZMI := (RX11, cX11_outside, 3, (some .int), 1, { frames := 2, cells := 0, slots := 0, locals := 44 })
theorem zn_X11_outside : zNames yX11_outside 3 := ⟨by decide +kernel, by decide +kernel, by decide +kernel⟩
abbrev M_X11_oven : ZMI := (RX11, cX11_oven, 4, (some .int), 1, { frames := 4, cells := 0, slots := 0, locals := 101 })
theorem zn_X11_oven : zNames yX11_oven 2 := ⟨by decide +kernel, by decide +kernel, by decide +kernel⟩
abbrev M_X11_pair : ZMI := (RX11, cX11_pair, 1, (some .int), 1, { frames := 3, cells := 0, slots := 0, locals := 72 })
theorem zn_X11_pair : zNames yX11_pair 0 := ⟨by decide +kernel, by decide +kernel, by decide +kernel⟩
abbrev M_X11_part : ZMI := (RX11, cX11_part, 4, (some .int), 1, { frames := 4, cells := 0, slots := 0, locals := 95 })
theorem zn_X11_part : zNames yX11_part 2 := ⟨by decide +kernel, by decide +kernel, by decide +kernel⟩
abbrev M_X11_partBecomes : ZMI := (RX11, cX11_partBecomes, 5, (some .int), 1, { frames := 3, cells := 0, slots := 0, locals := 71 })
theorem zn_X11_partBecomes : zNames yX11_partBecomes 3 := ⟨by decide +kernel, by decide +kernel, by decide +kernel⟩
abbrev M_X11_path : ZMI := (RX11, cX11_path, 4, (some .int), 1, { frames := 5, cells := 0, slots := 0, locals := 125 })
theorem zn_X11_path : zNames yX11_path 2 := ⟨by decide +kernel, by decide +kernel, by decide +kernel⟩
abbrev M_X11_pours : ZMI := (RX11, cX11_pours, 3, (some .int), 1, { frames := 5, cells := 0, slots := 0, locals := 121 })
theorem zn_X11_pours : zNames yX11_pours 1 := ⟨by decide +kernel, by decide +kernel, by decide +kernel⟩
abbrev M_X11_price : ZMI := (RX11, cX11_price, 3, (some .int), 1, { frames := 4, cells := 0, slots := 0, locals := 95 })
theorem zn_X11_price : zNames yX11_price 2 := ⟨by decide +kernel, by decide +kernel, by decide +kernel⟩
abbrev M_X11_read : ZMI := (RX11, cX11_read, 3, (some .int), 1, { frames := 6, cells := 0, slots := 0, locals := 142 })
theorem zn_X11_read : zNames yX11_read 1 := ⟨by decide +kernel, by decide +kernel, by decide +kernel⟩
abbrev M_X11_recipes : ZMI := (RX11, cX11_recipes, 4, (some .int), 1, { frames := 3, cells := 0, slots := 0, locals := 72 })
theorem zn_X11_recipes : zNames yX11_recipes 1 := ⟨by decide +kernel, by decide +kernel, by decide +kernel⟩
abbrev M_X11_refused : ZMI := (RX11, cX11_refused, 5, (some .int), 1, { frames := 1, cells := 0, slots := 0, locals := 25 })
theorem zn_X11_refused : zNames yX11_refused 3 := ⟨by decide +kernel, by decide +kernel, by decide +kernel⟩
abbrev M_X11_refused_ : ZMI := (RX11, cX11_refused_, 3, (some .int), 1, { frames := 2, cells := 0, slots := 0, locals := 49 })
theorem zn_X11_refused_ : zNames yX11_refused_ 2 := ⟨by decide +kernel, by decide +kernel, by decide +kernel⟩
abbrev M_X11_refused__ : ZMI := (RX11, cX11_refused__, 2, (some .int), 1, { frames := 2, cells := 0, slots := 0, locals := 49 })
theorem zn_X11_refused__ : zNames yX11_refused__ 1 := ⟨by decide +kernel, by decide +kernel, by decide +kernel⟩
abbrev M_X11_restore : ZMI := (RX11, cX11_restore, 2, (some .int), 1, { frames := 3, cells := 0, slots := 0, locals := 70 })
theorem zn_X11_restore : zNames yX11_restore 0 := ⟨by decide +kernel, by decide +kernel, by decide +kernel⟩
abbrev M_X11_row : ZMI := (RX11, cX11_row, 3, (some .int), 1, { frames := 3, cells := 0, slots := 0, locals := 71 })
theorem zn_X11_row : zNames yX11_row 1 := ⟨by decide +kernel, by decide +kernel, by decide +kernel⟩
abbrev M_X11_rowNotForParts : ZMI := (RX11, cX11_rowNotForParts, 1, (some .int), 1, { frames := 1, cells := 0, slots := 0, locals := 20 })
theorem zn_X11_rowNotForParts : zNames yX11_rowNotForParts 0 := ⟨by decide +kernel, by decide +kernel, by decide +kernel⟩
abbrev M_X11_scale : ZMI := (RX11, cX11_scale, 6, (some .int), 1, { frames := 6, cells := 0, slots := 0, locals := 148 })
theorem zn_X11_scale : zNames yX11_scale 3 := ⟨by decide +kernel, by decide +kernel, by decide +kernel⟩
abbrev M_X11_seeds : ZMI := (RX11, cX11_seeds, 5, (some .long), 2, { frames := 6, cells := 0, slots := 0, locals := 146 })
theorem zn_X11_seeds : zNames yX11_seeds 3 := ⟨by decide +kernel, by decide +kernel, by decide +kernel⟩
abbrev M_X11_set : ZMI := (RX11, cX11_set, 5, (some .int), 1, { frames := 3, cells := 0, slots := 0, locals := 71 })
theorem zn_X11_set : zNames yX11_set 2 := ⟨by decide +kernel, by decide +kernel, by decide +kernel⟩
abbrev M_X11_share : ZMI := (RX11, cX11_share, 5, (some .long), 2, { frames := 3, cells := 0, slots := 0, locals := 68 })
theorem zn_X11_share : zNames yX11_share 3 := ⟨by decide +kernel, by decide +kernel, by decide +kernel⟩
abbrev M_X11_standIn : ZMI := (RX11, cX11_standIn, 4, (some .int), 1, { frames := 3, cells := 0, slots := 0, locals := 71 })
theorem zn_X11_standIn : zNames yX11_standIn 2 := ⟨by decide +kernel, by decide +kernel, by decide +kernel⟩
abbrev M_X11_stead : ZMI := (RX11, cX11_stead, 3, (some .int), 1, { frames := 6, cells := 0, slots := 0, locals := 147 })
theorem zn_X11_stead : zNames yX11_stead 1 := ⟨by decide +kernel, by decide +kernel, by decide +kernel⟩
abbrev M_X11_steps : ZMI := (RX11, cX11_steps, 5, (some .int), 1, { frames := 5, cells := 0, slots := 0, locals := 123 })
theorem zn_X11_steps : zNames yX11_steps 3 := ⟨by decide +kernel, by decide +kernel, by decide +kernel⟩
abbrev M_X11_tin : ZMI := (RX11, cX11_tin, 4, (some .int), 1, { frames := 3, cells := 0, slots := 0, locals := 71 })
theorem zn_X11_tin : zNames yX11_tin 2 := ⟨by decide +kernel, by decide +kernel, by decide +kernel⟩
abbrev M_X11_tinFor : ZMI := (RX11, cX11_tinFor, 1, (some .int), 1, { frames := 5, cells := 0, slots := 0, locals := 111 })
theorem zn_X11_tinFor : zNames yX11_tinFor 0 := ⟨by decide +kernel, by decide +kernel, by decide +kernel⟩
abbrev M_X11_used : ZMI := (RX11, cX11_used, 1, (some .int), 1, { frames := 6, cells := 0, slots := 0, locals := 139 })
theorem zn_X11_used : zNames yX11_used 0 := ⟨by decide +kernel, by decide +kernel, by decide +kernel⟩
abbrev M_X11_usedUp : ZMI := (RX11, cX11_usedUp, 4, (some .int), 1, { frames := 6, cells := 0, slots := 0, locals := 140 })
theorem zn_X11_usedUp : zNames yX11_usedUp 1 := ⟨by decide +kernel, by decide +kernel, by decide +kernel⟩
abbrev M_X11_weighed : ZMI := (RX11, cX11_weighed, 4, (some .int), 1, { frames := 5, cells := 0, slots := 0, locals := 121 })
theorem zn_X11_weighed : zNames yX11_weighed 2 := ⟨by decide +kernel, by decide +kernel, by decide +kernel⟩
abbrev M_X11_weight : ZMI := (RX11, cX11_weight, 3, (some .int), 1, { frames := 3, cells := 0, slots := 0, locals := 71 })
theorem zn_X11_weight : zNames yX11_weight 1 := ⟨by decide +kernel, by decide +kernel, by decide +kernel⟩
abbrev M_X12_also : ZMI := (RX12, cX12_also, 5, (some .int), 1, { frames := 2, cells := 0, slots := 0, locals := 46 })
theorem zn_X12_also : zNames yX12_also 2 := ⟨by decide +kernel, by decide +kernel, by decide +kernel⟩
abbrev M_X12_apartBy : ZMI := (RX12, cX12_apartBy, 4, (some .int), 1, { frames := 1, cells := 0, slots := 0, locals := 20 })
theorem zn_X12_apartBy : zNames yX12_apartBy 1 := ⟨by decide +kernel, by decide +kernel, by decide +kernel⟩
abbrev M_X12_areAllAbove : ZMI := (RX12, cX12_areAllAbove, 3, (some .boolean), 4, { frames := 0, cells := 0, slots := 0, locals := 0 })
theorem zn_X12_areAllAbove : zNames yX12_areAllAbove 0 := ⟨by decide +kernel, by decide +kernel, by decide +kernel⟩
abbrev M_X12_areBoth : ZMI := (RX12, cX12_areBoth, 5, (some .boolean), 4, { frames := 0, cells := 0, slots := 0, locals := 0 })
theorem zn_X12_areBoth : zNames yX12_areBoth 2 := ⟨by decide +kernel, by decide +kernel, by decide +kernel⟩
abbrev M_X12_areaOf : ZMI := (RX12, cX12_areaOf, 2, (some .int), 1, { frames := 0, cells := 0, slots := 0, locals := 0 })
theorem zn_X12_areaOf : zNames yX12_areaOf 1 := ⟨by decide +kernel, by decide +kernel, by decide +kernel⟩
abbrev M_X12_back : ZMI := (RX12, cX12_back, 1, (some .int), 1, { frames := 1, cells := 0, slots := 0, locals := 21 })
theorem zn_X12_back : zNames yX12_back 0 := ⟨by decide +kernel, by decide +kernel, by decide +kernel⟩
abbrev M_X12_best : ZMI := (RX12, cX12_best, 6, (some .int), 1, { frames := 5, cells := 0, slots := 0, locals := 115 })
theorem zn_X12_best : zNames yX12_best 2 := ⟨by decide +kernel, by decide +kernel, by decide +kernel⟩
abbrev M_X12_book : ZMI := (RX12, cX12_book, 2, (some .int), 1, { frames := 4, cells := 0, slots := 0, locals := 92 })
theorem zn_X12_book : zNames yX12_book 0 := ⟨by decide +kernel, by decide +kernel, by decide +kernel⟩
abbrev M_X12_buy : ZMI := (RX12, cX12_buy, 2, (some .int), 1, { frames := 5, cells := 0, slots := 0, locals := 116 })
theorem zn_X12_buy : zNames yX12_buy 1 := ⟨by decide +kernel, by decide +kernel, by decide +kernel⟩
abbrev M_X12_buyFor : ZMI := (RX12, cX12_buyFor, 6, (some .int), 1, { frames := 4, cells := 0, slots := 0, locals := 91 })
theorem zn_X12_buyFor : zNames yX12_buyFor 1 := ⟨by decide +kernel, by decide +kernel, by decide +kernel⟩
abbrev M_X12_carry : ZMI := (RX12, cX12_carry, 2, (some .int), 1, { frames := 0, cells := 0, slots := 0, locals := 0 })
theorem zn_X12_carry : zNames yX12_carry 1 := ⟨by decide +kernel, by decide +kernel, by decide +kernel⟩
abbrev M_X12_carryAll : ZMI := (RX12, cX12_carryAll, 4, none, 0, { frames := 1, cells := 0, slots := 0, locals := 21 })
theorem zn_X12_carryAll : zNames yX12_carryAll 2 := ⟨by decide +kernel, by decide +kernel, by decide +kernel⟩
abbrev M_X12_cheapest : ZMI := (RX12, cX12_cheapest, 6, (some .int), 1, { frames := 5, cells := 0, slots := 0, locals := 116 })
theorem zn_X12_cheapest : zNames yX12_cheapest 2 := ⟨by decide +kernel, by decide +kernel, by decide +kernel⟩
abbrev M_X12_clear : ZMI := (RX12, cX12_clear, 2, (some .int), 1, { frames := 0, cells := 0, slots := 0, locals := 0 })
theorem zn_X12_clear : zNames yX12_clear 0 := ⟨by decide +kernel, by decide +kernel, by decide +kernel⟩
abbrev M_X12_comes : ZMI := (RX12, cX12_comes, 3, (some .boolean), 4, { frames := 3, cells := 0, slots := 0, locals := 70 })
theorem zn_X12_comes : zNames yX12_comes 1 := ⟨by decide +kernel, by decide +kernel, by decide +kernel⟩
abbrev M_X12_count : ZMI := (RX12, cX12_count, 4, (some .int), 1, { frames := 1, cells := 0, slots := 0, locals := 25 })
theorem zn_X12_count : zNames yX12_count 1 := ⟨by decide +kernel, by decide +kernel, by decide +kernel⟩
abbrev M_X12_cup : ZMI := (RX12, cX12_cup, 5, (some .int), 1, { frames := 1, cells := 0, slots := 0, locals := 25 })
theorem zn_X12_cup : zNames yX12_cup 2 := ⟨by decide +kernel, by decide +kernel, by decide +kernel⟩
abbrev M_X12_cupsCome : ZMI := (RX12, cX12_cupsCome, 4, (some .boolean), 4, { frames := 0, cells := 0, slots := 0, locals := 0 })
theorem zn_X12_cupsCome : zNames yX12_cupsCome 3 := ⟨by decide +kernel, by decide +kernel, by decide +kernel⟩
abbrev M_X12_deep : ZMI := (RX12, cX12_deep, 3, (some .long), 2, { frames := 2, cells := 0, slots := 0, locals := 47 })
theorem zn_X12_deep : zNames yX12_deep 2 := ⟨by decide +kernel, by decide +kernel, by decide +kernel⟩
abbrev M_X12_dish : ZMI := (RX12, cX12_dish, 7, (some .int), 1, { frames := 2, cells := 0, slots := 0, locals := 46 })
theorem zn_X12_dish : zNames yX12_dish 5 := ⟨by decide +kernel, by decide +kernel, by decide +kernel⟩
abbrev M_X12_divisor : ZMI := (RX12, cX12_divisor, 5, (some .int), 1, { frames := 0, cells := 0, slots := 0, locals := 0 })
theorem zn_X12_divisor : zNames yX12_divisor 2 := ⟨by decide +kernel, by decide +kernel, by decide +kernel⟩
abbrev M_X12_doneBy : ZMI := (RX12, cX12_doneBy, 5, (some .int), 1, { frames := 1, cells := 0, slots := 0, locals := 21 })
theorem zn_X12_doneBy : zNames yX12_doneBy 2 := ⟨by decide +kernel, by decide +kernel, by decide +kernel⟩
abbrev M_X12_emptyShelves : ZMI := (RX12, cX12_emptyShelves, 2, none, 0, { frames := 0, cells := 0, slots := 0, locals := 0 })
theorem zn_X12_emptyShelves : zNames yX12_emptyShelves 0 := ⟨by decide +kernel, by decide +kernel, by decide +kernel⟩
abbrev M_X12_enough : ZMI := (RX12, cX12_enough, 2, (some .int), 1, { frames := 5, cells := 0, slots := 0, locals := 114 })
theorem zn_X12_enough : zNames yX12_enough 0 := ⟨by decide +kernel, by decide +kernel, by decide +kernel⟩
abbrev M_X12_fair : ZMI := (RX12, cX12_fair, 5, (some .int), 1, { frames := 2, cells := 0, slots := 0, locals := 43 })
theorem zn_X12_fair : zNames yX12_fair 1 := ⟨by decide +kernel, by decide +kernel, by decide +kernel⟩
abbrev M_X12_feed : ZMI := (RX12, cX12_feed, 2, (some .int), 1, { frames := 1, cells := 0, slots := 0, locals := 21 })
theorem zn_X12_feed : zNames yX12_feed 1 := ⟨by decide +kernel, by decide +kernel, by decide +kernel⟩
abbrev M_X12_forgotten : ZMI := (RX12, cX12_forgotten, 4, (some .int), 1, { frames := 0, cells := 0, slots := 0, locals := 0 })
theorem zn_X12_forgotten : zNames yX12_forgotten 0 := ⟨by decide +kernel, by decide +kernel, by decide +kernel⟩
abbrev M_X12_greatestOff : ZMI := (RX12, cX12_greatestOff, 5, (some .int), 1, { frames := 4, cells := 0, slots := 0, locals := 92 })
theorem zn_X12_greatestOff : zNames yX12_greatestOff 1 := ⟨by decide +kernel, by decide +kernel, by decide +kernel⟩
abbrev M_X12_guests : ZMI := (RX12, cX12_guests, 3, (some .int), 1, { frames := 1, cells := 0, slots := 0, locals := 22 })
theorem zn_X12_guests : zNames yX12_guests 1 := ⟨by decide +kernel, by decide +kernel, by decide +kernel⟩
abbrev M_X12_hasStandIn : ZMI := (RX12, cX12_hasStandIn, 5, (some .boolean), 4, { frames := 0, cells := 0, slots := 0, locals := 0 })
theorem zn_X12_hasStandIn : zNames yX12_hasStandIn 2 := ⟨by decide +kernel, by decide +kernel, by decide +kernel⟩
abbrev M_X12_heavy : ZMI := (RX12, cX12_heavy, 4, (some .int), 1, { frames := 1, cells := 0, slots := 0, locals := 25 })
theorem zn_X12_heavy : zNames yX12_heavy 0 := ⟨by decide +kernel, by decide +kernel, by decide +kernel⟩
abbrev M_X12_here : ZMI := (RX12, cX12_here, 1, (some .int), 1, { frames := 0, cells := 0, slots := 0, locals := 0 })
theorem zn_X12_here : zNames yX12_here 0 := ⟨by decide +kernel, by decide +kernel, by decide +kernel⟩
abbrev M_X12_house : ZMI := (RX12, cX12_house, 5, (some .int), 1, { frames := 2, cells := 0, slots := 0, locals := 46 })
theorem zn_X12_house : zNames yX12_house 2 := ⟨by decide +kernel, by decide +kernel, by decide +kernel⟩
abbrev M_X12_image : ZMI := (RX12, cX12_image, 1, (some .int), 1, { frames := 2, cells := 0, slots := 0, locals := 44 })
theorem zn_X12_image : zNames yX12_image 0 := ⟨by decide +kernel, by decide +kernel, by decide +kernel⟩
abbrev M_X12_in : ZMI := (RX12, cX12_in, 6, (some .boolean), 4, { frames := 0, cells := 0, slots := 0, locals := 0 })
theorem zn_X12_in : zNames yX12_in 3 := ⟨by decide +kernel, by decide +kernel, by decide +kernel⟩
abbrev M_X12_inCup : ZMI := (RX12, cX12_inCup, 2, (some .int), 1, { frames := 0, cells := 0, slots := 0, locals := 0 })
theorem zn_X12_inCup : zNames yX12_inCup 2 := ⟨by decide +kernel, by decide +kernel, by decide +kernel⟩
abbrev M_X12_inTurn : ZMI := (RX12, cX12_inTurn, 5, (some .int), 1, { frames := 1, cells := 0, slots := 0, locals := 21 })
theorem zn_X12_inTurn : zNames yX12_inTurn 1 := ⟨by decide +kernel, by decide +kernel, by decide +kernel⟩
abbrev M_X12_isEnough : ZMI := (RX12, cX12_isEnough, 4, (some .boolean), 4, { frames := 4, cells := 0, slots := 0, locals := 91 })
theorem zn_X12_isEnough : zNames yX12_isEnough 1 := ⟨by decide +kernel, by decide +kernel, by decide +kernel⟩
abbrev M_X12_isLeftFor : ZMI := (RX12, cX12_isLeftFor, 7, (some .boolean), 4, { frames := 5, cells := 0, slots := 0, locals := 114 })
theorem zn_X12_isLeftFor : zNames yX12_isLeftFor 1 := ⟨by decide +kernel, by decide +kernel, by decide +kernel⟩
abbrev M_X12_isOut : ZMI := (RX12, cX12_isOut, 4, (some .boolean), 4, { frames := 4, cells := 0, slots := 0, locals := 91 })
theorem zn_X12_isOut : zNames yX12_isOut 1 := ⟨by decide +kernel, by decide +kernel, by decide +kernel⟩
abbrev M_X12_isPart : ZMI := (RX12, cX12_isPart, 2, (some .boolean), 4, { frames := 1, cells := 0, slots := 0, locals := 25 })
theorem zn_X12_isPart : zNames yX12_isPart 1 := ⟨by decide +kernel, by decide +kernel, by decide +kernel⟩
abbrev M_X12_isTaken : ZMI := (RX12, cX12_isTaken, 3, (some .boolean), 4, { frames := 4, cells := 0, slots := 0, locals := 91 })
theorem zn_X12_isTaken : zNames yX12_isTaken 2 := ⟨by decide +kernel, by decide +kernel, by decide +kernel⟩
abbrev M_X12_isTin : ZMI := (RX12, cX12_isTin, 2, (some .boolean), 4, { frames := 1, cells := 0, slots := 0, locals := 25 })
theorem zn_X12_isTin : zNames yX12_isTin 1 := ⟨by decide +kernel, by decide +kernel, by decide +kernel⟩
abbrev M_X12_judge : ZMI := (RX12, cX12_judge, 2, (some .int), 1, { frames := 5, cells := 0, slots := 0, locals := 113 })
theorem zn_X12_judge : zNames yX12_judge 0 := ⟨by decide +kernel, by decide +kernel, by decide +kernel⟩
abbrev M_X12_keepGuests : ZMI := (RX12, cX12_keepGuests, 2, none, 0, { frames := 0, cells := 0, slots := 0, locals := 0 })
theorem zn_X12_keepGuests : zNames yX12_keepGuests 0 := ⟨by decide +kernel, by decide +kernel, by decide +kernel⟩
abbrev M_X12_lackOf : ZMI := (RX12, cX12_lackOf, 3, (some .int), 1, { frames := 4, cells := 0, slots := 0, locals := 91 })
theorem zn_X12_lackOf : zNames yX12_lackOf 1 := ⟨by decide +kernel, by decide +kernel, by decide +kernel⟩
abbrev M_X12_lacks : ZMI := (RX12, cX12_lacks, 3, (some .int), 1, { frames := 5, cells := 0, slots := 0, locals := 113 })
theorem zn_X12_lacks : zNames yX12_lacks 0 := ⟨by decide +kernel, by decide +kernel, by decide +kernel⟩
abbrev M_X12_latestShelf : ZMI := (RX12, cX12_latestShelf, 2, (some .int), 1, { frames := 0, cells := 0, slots := 0, locals := 0 })
theorem zn_X12_latestShelf : zNames yX12_latestShelf 0 := ⟨by decide +kernel, by decide +kernel, by decide +kernel⟩
abbrev M_X12_leftOf : ZMI := (RX12, cX12_leftOf, 4, (some .int), 1, { frames := 4, cells := 0, slots := 0, locals := 91 })
theorem zn_X12_leftOf : zNames yX12_leftOf 1 := ⟨by decide +kernel, by decide +kernel, by decide +kernel⟩
abbrev M_X12_longIn : ZMI := (RX12, cX12_longIn, 5, (some .int), 1, { frames := 1, cells := 0, slots := 0, locals := 21 })
theorem zn_X12_longIn : zNames yX12_longIn 1 := ⟨by decide +kernel, by decide +kernel, by decide +kernel⟩
abbrev M_X12_lots : ZMI := (RX12, cX12_lots, 11, (some .int), 1, { frames := 1, cells := 0, slots := 0, locals := 21 })
theorem zn_X12_lots : zNames yX12_lots 2 := ⟨by decide +kernel, by decide +kernel, by decide +kernel⟩
abbrev M_X12_mistake : ZMI := (RX12, cX12_mistake, 3, (some .int), 1, { frames := 3, cells := 0, slots := 0, locals := 68 })
theorem zn_X12_mistake : zNames yX12_mistake 2 := ⟨by decide +kernel, by decide +kernel, by decide +kernel⟩
abbrev M_X12_mistakeBy : ZMI := (RX12, cX12_mistakeBy, 4, (some .int), 1, { frames := 1, cells := 0, slots := 0, locals := 21 })
theorem zn_X12_mistakeBy : zNames yX12_mistakeBy 2 := ⟨by decide +kernel, by decide +kernel, by decide +kernel⟩
abbrev M_X12_more : ZMI := (RX12, cX12_more, 7, (some .int), 1, { frames := 4, cells := 0, slots := 0, locals := 91 })
theorem zn_X12_more : zNames yX12_more 3 := ⟨by decide +kernel, by decide +kernel, by decide +kernel⟩
abbrev M_X12_nearest : ZMI := (RX12, cX12_nearest, 2, (some .int), 1, { frames := 0, cells := 0, slots := 0, locals := 0 })
theorem zn_X12_nearest : zNames yX12_nearest 2 := ⟨by decide +kernel, by decide +kernel, by decide +kernel⟩
abbrev M_X12_needed : ZMI := (RX12, cX12_needed, 5, (some .int), 1, { frames := 2, cells := 0, slots := 0, locals := 46 })
theorem zn_X12_needed : zNames yX12_needed 3 := ⟨by decide +kernel, by decide +kernel, by decide +kernel⟩
abbrev M_X12_off : ZMI := (RX12, cX12_off, 4, (some .long), 2, { frames := 5, cells := 0, slots := 0, locals := 115 })
theorem zn_X12_off : zNames yX12_off 2 := ⟨by decide +kernel, by decide +kernel, by decide +kernel⟩
abbrev M_X12_offBy : ZMI := (RX12, cX12_offBy, 4, (some .int), 1, { frames := 3, cells := 0, slots := 0, locals := 69 })
theorem zn_X12_offBy : zNames yX12_offBy 3 := ⟨by decide +kernel, by decide +kernel, by decide +kernel⟩
abbrev M_X12_offOf : ZMI := (RX12, cX12_offOf, 4, (some .int), 1, { frames := 4, cells := 0, slots := 0, locals := 92 })
theorem zn_X12_offOf : zNames yX12_offOf 1 := ⟨by decide +kernel, by decide +kernel, by decide +kernel⟩
abbrev M_X12_onesOf : ZMI := (RX12, cX12_onesOf, 3, (some .int), 1, { frames := 0, cells := 0, slots := 0, locals := 0 })
theorem zn_X12_onesOf : zNames yX12_onesOf 1 := ⟨by decide +kernel, by decide +kernel, by decide +kernel⟩
abbrev M_X12_out : ZMI := (RX12, cX12_out, 4, (some .int), 1, { frames := 5, cells := 0, slots := 0, locals := 114 })
theorem zn_X12_out : zNames yX12_out 1 := ⟨by decide +kernel, by decide +kernel, by decide +kernel⟩
abbrev M_X12_oven : ZMI := (RX12, cX12_oven, 5, (some .int), 1, { frames := 3, cells := 0, slots := 0, locals := 70 })
theorem zn_X12_oven : zNames yX12_oven 2 := ⟨by decide +kernel, by decide +kernel, by decide +kernel⟩
abbrev M_X12_pair : ZMI := (RX12, cX12_pair, 7, (some .int), 1, { frames := 1, cells := 0, slots := 0, locals := 21 })
theorem zn_X12_pair : zNames yX12_pair 0 := ⟨by decide +kernel, by decide +kernel, by decide +kernel⟩
abbrev M_X12_part : ZMI := (RX12, cX12_part, 3, (some .int), 1, { frames := 5, cells := 0, slots := 0, locals := 114 })
theorem zn_X12_part : zNames yX12_part 2 := ⟨by decide +kernel, by decide +kernel, by decide +kernel⟩
abbrev M_X12_partComes : ZMI := (RX12, cX12_partComes, 3, (some .boolean), 4, { frames := 0, cells := 0, slots := 0, locals := 0 })
theorem zn_X12_partComes : zNames yX12_partComes 1 := ⟨by decide +kernel, by decide +kernel, by decide +kernel⟩
abbrev M_X12_partOf : ZMI := (RX12, cX12_partOf, 4, (some .int), 1, { frames := 1, cells := 0, slots := 0, locals := 24 })
theorem zn_X12_partOf : zNames yX12_partOf 3 := ⟨by decide +kernel, by decide +kernel, by decide +kernel⟩
abbrev M_X12_path : ZMI := (RX12, cX12_path, 5, (some .int), 1, { frames := 3, cells := 0, slots := 0, locals := 70 })
theorem zn_X12_path : zNames yX12_path 2 := ⟨by decide +kernel, by decide +kernel, by decide +kernel⟩
abbrev M_X12_plainly : ZMI := (RX12, cX12_plainly, 1, (some .int), 1, { frames := 0, cells := 0, slots := 0, locals := 0 })
theorem zn_X12_plainly : zNames yX12_plainly 1 := ⟨by decide +kernel, by decide +kernel, by decide +kernel⟩
abbrev M_X12_pourAll : ZMI := (RX12, cX12_pourAll, 2, none, 0, { frames := 2, cells := 0, slots := 0, locals := 49 })
theorem zn_X12_pourAll : zNames yX12_pourAll 0 := ⟨by decide +kernel, by decide +kernel, by decide +kernel⟩
abbrev M_X12_pours : ZMI := (RX12, cX12_pours, 4, (some .int), 1, { frames := 3, cells := 0, slots := 0, locals := 70 })
theorem zn_X12_pours : zNames yX12_pours 1 := ⟨by decide +kernel, by decide +kernel, by decide +kernel⟩
abbrev M_X12_price : ZMI := (RX12, cX12_price, 5, (some .int), 1, { frames := 2, cells := 0, slots := 0, locals := 46 })
theorem zn_X12_price : zNames yX12_price 2 := ⟨by decide +kernel, by decide +kernel, by decide +kernel⟩
abbrev M_X12_reach : ZMI := (RX12, cX12_reach, 3, none, 0, { frames := 0, cells := 0, slots := 0, locals := 0 })
theorem zn_X12_reach : zNames yX12_reach 2 := ⟨by decide +kernel, by decide +kernel, by decide +kernel⟩
abbrev M_X12_reachBy : ZMI := (RX12, cX12_reachBy, 4, none, 0, { frames := 1, cells := 0, slots := 0, locals := 22 })
theorem zn_X12_reachBy : zNames yX12_reachBy 3 := ⟨by decide +kernel, by decide +kernel, by decide +kernel⟩
abbrev M_X12_read : ZMI := (RX12, cX12_read, 5, (some .int), 1, { frames := 6, cells := 0, slots := 0, locals := 137 })
theorem zn_X12_read : zNames yX12_read 1 := ⟨by decide +kernel, by decide +kernel, by decide +kernel⟩
abbrev M_X12_readDigit : ZMI := (RX12, cX12_readDigit, 1, (some .int), 1, { frames := 1, cells := 0, slots := 0, locals := 25 })
theorem zn_X12_readDigit : zNames yX12_readDigit 0 := ⟨by decide +kernel, by decide +kernel, by decide +kernel⟩
abbrev M_X12_readMany : ZMI := (RX12, cX12_readMany, 4, none, 0, { frames := 2, cells := 0, slots := 0, locals := 45 })
theorem zn_X12_readMany : zNames yX12_readMany 2 := ⟨by decide +kernel, by decide +kernel, by decide +kernel⟩
abbrev M_X12_readNumbers : ZMI := (RX12, cX12_readNumbers, 5, (some .int), 1, { frames := 5, cells := 0, slots := 0, locals := 113 })
theorem zn_X12_readNumbers : zNames yX12_readNumbers 0 := ⟨by decide +kernel, by decide +kernel, by decide +kernel⟩
abbrev M_X12_readOneOrTwo : ZMI := (RX12, cX12_readOneOrTwo, 2, (some .int), 1, { frames := 2, cells := 0, slots := 0, locals := 45 })
theorem zn_X12_readOneOrTwo : zNames yX12_readOneOrTwo 0 := ⟨by decide +kernel, by decide +kernel, by decide +kernel⟩
abbrev M_X12_readShape : ZMI := (RX12, cX12_readShape, 2, (some .int), 1, { frames := 1, cells := 0, slots := 0, locals := 20 })
theorem zn_X12_readShape : zNames yX12_readShape 0 := ⟨by decide +kernel, by decide +kernel, by decide +kernel⟩
abbrev M_X12_readStatement : ZMI := (RX12, cX12_readStatement, 4, none, 0, { frames := 3, cells := 0, slots := 0, locals := 68 })
theorem zn_X12_readStatement : zNames yX12_readStatement 0 := ⟨by decide +kernel, by decide +kernel, by decide +kernel⟩
abbrev M_X12_readTwo : ZMI := (RX12, cX12_readTwo, 2, (some .int), 1, { frames := 2, cells := 0, slots := 0, locals := 45 })
theorem zn_X12_readTwo : zNames yX12_readTwo 0 := ⟨by decide +kernel, by decide +kernel, by decide +kernel⟩
abbrev M_X12_recipes : ZMI := (RX12, cX12_recipes, 7, (some .int), 1, { frames := 1, cells := 0, slots := 0, locals := 25 })
theorem zn_X12_recipes : zNames yX12_recipes 1 := ⟨by decide +kernel, by decide +kernel, by decide +kernel⟩
abbrev M_X12_refuse : ZMI := (RX12, cX12_refuse, 2, (some .int), 1, { frames := 0, cells := 0, slots := 0, locals := 0 })
theorem zn_X12_refuse : zNames yX12_refuse 1 := ⟨by decide +kernel, by decide +kernel, by decide +kernel⟩
abbrev M_X12_restore : ZMI := (RX12, cX12_restore, 1, (some .int), 1, { frames := 2, cells := 0, slots := 0, locals := 44 })
theorem zn_X12_restore : zNames yX12_restore 0 := ⟨by decide +kernel, by decide +kernel, by decide +kernel⟩
abbrev M_X12_row : ZMI := (RX12, cX12_row, 2, (some .int), 1, { frames := 1, cells := 0, slots := 0, locals := 21 })
theorem zn_X12_row : zNames yX12_row 1 := ⟨by decide +kernel, by decide +kernel, by decide +kernel⟩
abbrev M_X12_scale : ZMI := (RX12, cX12_scale, 9, (some .int), 1, { frames := 5, cells := 0, slots := 0, locals := 116 })
theorem zn_X12_scale : zNames yX12_scale 3 := ⟨by decide +kernel, by decide +kernel, by decide +kernel⟩
abbrev M_X12_seeds : ZMI := (RX12, cX12_seeds, 10, (some .long), 2, { frames := 5, cells := 0, slots := 0, locals := 115 })
theorem zn_X12_seeds : zNames yX12_seeds 3 := ⟨by decide +kernel, by decide +kernel, by decide +kernel⟩
abbrev M_X12_set : ZMI := (RX12, cX12_set, 5, (some .int), 1, { frames := 1, cells := 0, slots := 0, locals := 25 })
theorem zn_X12_set : zNames yX12_set 2 := ⟨by decide +kernel, by decide +kernel, by decide +kernel⟩
abbrev M_X12_share : ZMI := (RX12, cX12_share, 5, (some .long), 2, { frames := 2, cells := 0, slots := 0, locals := 47 })
theorem zn_X12_share : zNames yX12_share 3 := ⟨by decide +kernel, by decide +kernel, by decide +kernel⟩
abbrev M_X12_soonestCode : ZMI := (RX12, cX12_soonestCode, 6, (some .int), 1, { frames := 2, cells := 0, slots := 0, locals := 45 })
theorem zn_X12_soonestCode : zNames yX12_soonestCode 1 := ⟨by decide +kernel, by decide +kernel, by decide +kernel⟩
abbrev M_X12_standIn : ZMI := (RX12, cX12_standIn, 3, (some .int), 1, { frames := 1, cells := 0, slots := 0, locals := 25 })
theorem zn_X12_standIn : zNames yX12_standIn 2 := ⟨by decide +kernel, by decide +kernel, by decide +kernel⟩
abbrev M_X12_standInComes : ZMI := (RX12, cX12_standInComes, 5, (some .boolean), 4, { frames := 2, cells := 0, slots := 0, locals := 46 })
theorem zn_X12_standInComes : zNames yX12_standInComes 1 := ⟨by decide +kernel, by decide +kernel, by decide +kernel⟩
abbrev M_X12_stateWith : ZMI := (RX12, cX12_stateWith, 4, (some .int), 1, { frames := 1, cells := 0, slots := 0, locals := 21 })
theorem zn_X12_stateWith : zNames yX12_stateWith 1 := ⟨by decide +kernel, by decide +kernel, by decide +kernel⟩
abbrev M_X12_stead : ZMI := (RX12, cX12_stead, 6, (some .int), 1, { frames := 5, cells := 0, slots := 0, locals := 114 })
theorem zn_X12_stead : zNames yX12_stead 1 := ⟨by decide +kernel, by decide +kernel, by decide +kernel⟩
abbrev M_X12_steps : ZMI := (RX12, cX12_steps, 4, (some .int), 1, { frames := 3, cells := 0, slots := 0, locals := 70 })
theorem zn_X12_steps : zNames yX12_steps 3 := ⟨by decide +kernel, by decide +kernel, by decide +kernel⟩
abbrev M_X12_stepsFrom : ZMI := (RX12, cX12_stepsFrom, 8, none, 0, { frames := 1, cells := 0, slots := 0, locals := 22 })
theorem zn_X12_stepsFrom : zNames yX12_stepsFrom 1 := ⟨by decide +kernel, by decide +kernel, by decide +kernel⟩
abbrev M_X12_stepsTold : ZMI := (RX12, cX12_stepsTold, 6, none, 0, { frames := 2, cells := 0, slots := 0, locals := 45 })
theorem zn_X12_stepsTold : zNames yX12_stepsTold 1 := ⟨by decide +kernel, by decide +kernel, by decide +kernel⟩
abbrev M_X12_take : ZMI := (RX12, cX12_take, 2, none, 0, { frames := 1, cells := 0, slots := 0, locals := 20 })
theorem zn_X12_take : zNames yX12_take 1 := ⟨by decide +kernel, by decide +kernel, by decide +kernel⟩
abbrev M_X12_takenBy : ZMI := (RX12, cX12_takenBy, 7, (some .int), 1, { frames := 2, cells := 0, slots := 0, locals := 43 })
theorem zn_X12_takenBy : zNames yX12_takenBy 3 := ⟨by decide +kernel, by decide +kernel, by decide +kernel⟩
abbrev M_X12_takenFor : ZMI := (RX12, cX12_takenFor, 3, (some .int), 1, { frames := 3, cells := 0, slots := 0, locals := 69 })
theorem zn_X12_takenFor : zNames yX12_takenFor 2 := ⟨by decide +kernel, by decide +kernel, by decide +kernel⟩
abbrev M_X12_timesOf : ZMI := (RX12, cX12_timesOf, 4, (some .int), 1, { frames := 4, cells := 0, slots := 0, locals := 91 })
theorem zn_X12_timesOf : zNames yX12_timesOf 1 := ⟨by decide +kernel, by decide +kernel, by decide +kernel⟩
abbrev M_X12_tin : ZMI := (RX12, cX12_tin, 3, (some .int), 1, { frames := 2, cells := 0, slots := 0, locals := 46 })
theorem zn_X12_tin : zNames yX12_tin 2 := ⟨by decide +kernel, by decide +kernel, by decide +kernel⟩
abbrev M_X12_tinComes : ZMI := (RX12, cX12_tinComes, 4, (some .boolean), 4, { frames := 1, cells := 0, slots := 0, locals := 25 })
theorem zn_X12_tinComes : zNames yX12_tinComes 2 := ⟨by decide +kernel, by decide +kernel, by decide +kernel⟩
abbrev M_X12_tinFor : ZMI := (RX12, cX12_tinFor, 12, (some .int), 1, { frames := 1, cells := 0, slots := 0, locals := 21 })
theorem zn_X12_tinFor : zNames yX12_tinFor 0 := ⟨by decide +kernel, by decide +kernel, by decide +kernel⟩
abbrev M_X12_up : ZMI := (RX12, cX12_up, 2, (some .int), 1, { frames := 0, cells := 0, slots := 0, locals := 0 })
theorem zn_X12_up : zNames yX12_up 2 := ⟨by decide +kernel, by decide +kernel, by decide +kernel⟩
abbrev M_X12_useOnce : ZMI := (RX12, cX12_useOnce, 5, none, 0, { frames := 0, cells := 0, slots := 0, locals := 0 })
theorem zn_X12_useOnce : zNames yX12_useOnce 2 := ⟨by decide +kernel, by decide +kernel, by decide +kernel⟩
abbrev M_X12_used : ZMI := (RX12, cX12_used, 4, (some .int), 1, { frames := 5, cells := 0, slots := 0, locals := 114 })
theorem zn_X12_used : zNames yX12_used 0 := ⟨by decide +kernel, by decide +kernel, by decide +kernel⟩
abbrev M_X12_usedUp : ZMI := (RX12, cX12_usedUp, 4, (some .int), 1, { frames := 6, cells := 0, slots := 0, locals := 140 })
theorem zn_X12_usedUp : zNames yX12_usedUp 1 := ⟨by decide +kernel, by decide +kernel, by decide +kernel⟩
abbrev M_X12_weighHow : ZMI := (RX12, cX12_weighHow, 6, (some .int), 1, { frames := 1, cells := 0, slots := 0, locals := 23 })
theorem zn_X12_weighHow : zNames yX12_weighHow 1 := ⟨by decide +kernel, by decide +kernel, by decide +kernel⟩
abbrev M_X12_weighed : ZMI := (RX12, cX12_weighed, 5, (some .int), 1, { frames := 2, cells := 0, slots := 0, locals := 48 })
theorem zn_X12_weighed : zNames yX12_weighed 2 := ⟨by decide +kernel, by decide +kernel, by decide +kernel⟩
abbrev M_X12_weighedBy : ZMI := (RX12, cX12_weighedBy, 4, (some .int), 1, { frames := 0, cells := 0, slots := 0, locals := 0 })
theorem zn_X12_weighedBy : zNames yX12_weighedBy 1 := ⟨by decide +kernel, by decide +kernel, by decide +kernel⟩
abbrev M_X12_weight : ZMI := (RX12, cX12_weight, 3, (some .int), 1, { frames := 1, cells := 0, slots := 0, locals := 22 })
theorem zn_X12_weight : zNames yX12_weight 1 := ⟨by decide +kernel, by decide +kernel, by decide +kernel⟩
abbrev M_X12_weightOf : ZMI := (RX12, cX12_weightOf, 1, (some .int), 1, { frames := 0, cells := 0, slots := 0, locals := 0 })
theorem zn_X12_weightOf : zNames yX12_weightOf 1 := ⟨by decide +kernel, by decide +kernel, by decide +kernel⟩
abbrev M_X12_wholeOf : ZMI := (RX12, cX12_wholeOf, 3, (some .int), 1, { frames := 1, cells := 0, slots := 0, locals := 21 })
theorem zn_X12_wholeOf : zNames yX12_wholeOf 2 := ⟨by decide +kernel, by decide +kernel, by decide +kernel⟩
abbrev M_X12_worthOf : ZMI := (RX12, cX12_worthOf, 4, (some .int), 1, { frames := 0, cells := 0, slots := 0, locals := 0 })
theorem zn_X12_worthOf : zNames yX12_worthOf 1 := ⟨by decide +kernel, by decide +kernel, by decide +kernel⟩
abbrev M_X12_wrongMistake : ZMI := (RX12, cX12_wrongMistake, 3, (some .int), 1, { frames := 2, cells := 0, slots := 0, locals := 46 })
theorem zn_X12_wrongMistake : zNames yX12_wrongMistake 2 := ⟨by decide +kernel, by decide +kernel, by decide +kernel⟩
abbrev M_X12_wrongNumber : ZMI := (RX12, cX12_wrongNumber, 3, (some .int), 1, { frames := 0, cells := 0, slots := 0, locals := 0 })
theorem zn_X12_wrongNumber : zNames yX12_wrongNumber 3 := ⟨by decide +kernel, by decide +kernel, by decide +kernel⟩
abbrev M_X1_cupsCame : ZMI := (RX1, cX1_cupsCame, 3, (some .boolean), 4, { frames := 2, cells := 0, slots := 0, locals := 47 })
theorem zn_X1_cupsCame : zNames yX1_cupsCame 1 := ⟨by decide +kernel, by decide +kernel, by decide +kernel⟩
abbrev M_X1_forCame : ZMI := (RX1, cX1_forCame, 2, (some .boolean), 4, { frames := 2, cells := 0, slots := 0, locals := 47 })
theorem zn_X1_forCame : zNames yX1_forCame 1 := ⟨by decide +kernel, by decide +kernel, by decide +kernel⟩
abbrev M_X1_formOf : ZMI := (RX1, cX1_formOf, 1, (some (.object "java/lang/String")), 5, { frames := 0, cells := 0, slots := 0, locals := 0 })
theorem zn_X1_formOf : zNames yX1_formOf 1 := ⟨by decide +kernel, by decide +kernel, by decide +kernel⟩
abbrev M_X1_hasForm : ZMI := (RX1, cX1_hasForm, 2, (some .boolean), 4, { frames := 6, cells := 0, slots := 0, locals := 193 })
theorem zn_X1_hasForm : zNames yX1_hasForm 0 := ⟨by decide +kernel, by decide +kernel, by decide +kernel⟩
abbrev M_X1_houseCame : ZMI := (RX1, cX1_houseCame, 2, (some .boolean), 4, { frames := 2, cells := 0, slots := 0, locals := 45 })
theorem zn_X1_houseCame : zNames yX1_houseCame 1 := ⟨by decide +kernel, by decide +kernel, by decide +kernel⟩
abbrev M_X1_letters : ZMI := (RX1, cX1_letters, 1, (some (.object "TwoThirdsOfAnEgg$Table")), 3, { frames := 0, cells := 0, slots := 0, locals := 0 })
theorem zn_X1_letters : zNames yX1_letters 0 := ⟨by decide +kernel, by decide +kernel, by decide +kernel⟩
abbrev M_X1_lineCame : ZMI := (RX1, cX1_lineCame, 4, (some .boolean), 4, { frames := 1, cells := 0, slots := 0, locals := 25 })
theorem zn_X1_lineCame : zNames yX1_lineCame 1 := ⟨by decide +kernel, by decide +kernel, by decide +kernel⟩
abbrev M_X1_number : ZMI := (RX1, cX1_number, 2, (some .int), 1, { frames := 1, cells := 0, slots := 0, locals := 24 })
theorem zn_X1_number : zNames yX1_number 1 := ⟨by decide +kernel, by decide +kernel, by decide +kernel⟩
abbrev M_X1_numberRead : ZMI := (RX1, cX1_numberRead, 6, (some .boolean), 4, { frames := 1, cells := 0, slots := 0, locals := 24 })
theorem zn_X1_numberRead : zNames yX1_numberRead 2 := ⟨by decide +kernel, by decide +kernel, by decide +kernel⟩
abbrev M_X1_partCame : ZMI := (RX1, cX1_partCame, 3, (some .boolean), 4, { frames := 2, cells := 0, slots := 0, locals := 48 })
theorem zn_X1_partCame : zNames yX1_partCame 1 := ⟨by decide +kernel, by decide +kernel, by decide +kernel⟩
abbrev M_X1_shapeRead : ZMI := (RX1, cX1_shapeRead, 2, (some .boolean), 4, { frames := 1, cells := 0, slots := 0, locals := 24 })
theorem zn_X1_shapeRead : zNames yX1_shapeRead 0 := ⟨by decide +kernel, by decide +kernel, by decide +kernel⟩
abbrev M_X1_signRead : ZMI := (RX1, cX1_signRead, 2, (some .boolean), 4, { frames := 2, cells := 0, slots := 0, locals := 49 })
theorem zn_X1_signRead : zNames yX1_signRead 1 := ⟨by decide +kernel, by decide +kernel, by decide +kernel⟩
abbrev M_X1_standInCame : ZMI := (RX1, cX1_standInCame, 5, (some .boolean), 4, { frames := 2, cells := 0, slots := 0, locals := 48 })
theorem zn_X1_standInCame : zNames yX1_standInCame 1 := ⟨by decide +kernel, by decide +kernel, by decide +kernel⟩
abbrev M_X1_standsInAlready : ZMI := (RX1, cX1_standsInAlready, 4, (some .boolean), 4, { frames := 1, cells := 0, slots := 0, locals := 24 })
theorem zn_X1_standsInAlready : zNames yX1_standsInAlready 3 := ⟨by decide +kernel, by decide +kernel, by decide +kernel⟩
abbrev M_X1_statementCame : ZMI := (RX1, cX1_statementCame, 3, (some .boolean), 4, { frames := 3, cells := 0, slots := 0, locals := 72 })
theorem zn_X1_statementCame : zNames yX1_statementCame 2 := ⟨by decide +kernel, by decide +kernel, by decide +kernel⟩
abbrev M_X1_statementRead : ZMI := (RX1, cX1_statementRead, 3, (some .boolean), 4, { frames := 5, cells := 0, slots := 0, locals := 171 })
theorem zn_X1_statementRead : zNames yX1_statementRead 0 := ⟨by decide +kernel, by decide +kernel, by decide +kernel⟩
abbrev M_X1_statementsTo : ZMI := (RX1, cX1_statementsTo, 5, (some .int), 1, { frames := 6, cells := 0, slots := 0, locals := 193 })
theorem zn_X1_statementsTo : zNames yX1_statementsTo 1 := ⟨by decide +kernel, by decide +kernel, by decide +kernel⟩
abbrev M_X1_tellTo : ZMI := (RX1, cX1_tellTo, 3, (some .int), 1, { frames := 7, cells := 0, slots := 0, locals := 217 })
theorem zn_X1_tellTo : zNames yX1_tellTo 1 := ⟨by decide +kernel, by decide +kernel, by decide +kernel⟩
abbrev M_X1_tinCame : ZMI := (RX1, cX1_tinCame, 2, (some .boolean), 4, { frames := 2, cells := 0, slots := 0, locals := 48 })
theorem zn_X1_tinCame : zNames yX1_tinCame 1 := ⟨by decide +kernel, by decide +kernel, by decide +kernel⟩
abbrev M_X1_within : ZMI := (RX1, cX1_within, 4, (some .boolean), 4, { frames := 1, cells := 0, slots := 0, locals := 24 })
theorem zn_X1_within : zNames yX1_within 3 := ⟨by decide +kernel, by decide +kernel, by decide +kernel⟩
abbrev M_X2_allSo : ZMI := (RX2, cX2_allSo, 4, (some .boolean), 4, { frames := 4, cells := 0, slots := 0, locals := 96 })
theorem zn_X2_allSo : zNames yX2_allSo 3 := ⟨by decide +kernel, by decide +kernel, by decide +kernel⟩
abbrev M_X2_amountParts : ZMI := (RX2, cX2_amountParts, 4, (some .int), 1, { frames := 2, cells := 0, slots := 0, locals := 46 })
theorem zn_X2_amountParts : zNames yX2_amountParts 2 := ⟨by decide +kernel, by decide +kernel, by decide +kernel⟩
abbrev M_X2_firstNeither : ZMI := (RX2, cX2_firstNeither, 3, (some .int), 1, { frames := 5, cells := 0, slots := 0, locals := 118 })
theorem zn_X2_firstNeither : zNames yX2_firstNeither 2 := ⟨by decide +kernel, by decide +kernel, by decide +kernel⟩
abbrev M_X2_halvedParts : ZMI := (RX2, cX2_halvedParts, 4, (some .int), 1, { frames := 5, cells := 0, slots := 0, locals := 118 })
theorem zn_X2_halvedParts : zNames yX2_halvedParts 2 := ⟨by decide +kernel, by decide +kernel, by decide +kernel⟩
abbrev M_X2_isAmount : ZMI := (RX2, cX2_isAmount, 3, (some .boolean), 4, { frames := 1, cells := 0, slots := 0, locals := 24 })
theorem zn_X2_isAmount : zNames yX2_isAmount 3 := ⟨by decide +kernel, by decide +kernel, by decide +kernel⟩
abbrev M_X2_isHalved : ZMI := (RX2, cX2_isHalved, 3, (some .boolean), 4, { frames := 4, cells := 0, slots := 0, locals := 96 })
theorem zn_X2_isHalved : zNames yX2_isHalved 3 := ⟨by decide +kernel, by decide +kernel, by decide +kernel⟩
abbrev M_X2_isSo : ZMI := (RX2, cX2_isSo, 4, (some .boolean), 4, { frames := 3, cells := 0, slots := 0, locals := 73 })
theorem zn_X2_isSo : zNames yX2_isSo 4 := ⟨by decide +kernel, by decide +kernel, by decide +kernel⟩
abbrev M_X2_numbersSo : ZMI := (RX2, cX2_numbersSo, 4, (some .int), 1, { frames := 5, cells := 0, slots := 0, locals := 119 })
theorem zn_X2_numbersSo : zNames yX2_numbersSo 2 := ⟨by decide +kernel, by decide +kernel, by decide +kernel⟩
abbrev M_X3_allHouse : ZMI := (RX3, cX3_allHouse, 3, (some .int), 1, { frames := 1, cells := 0, slots := 0, locals := 24 })
theorem zn_X3_allHouse : zNames yX3_allHouse 0 := ⟨by decide +kernel, by decide +kernel, by decide +kernel⟩
abbrev M_X3_allOff : ZMI := (RX3, cX3_allOff, 4, (some .int), 1, { frames := 4, cells := 0, slots := 0, locals := 98 })
theorem zn_X3_allOff : zNames yX3_allOff 1 := ⟨by decide +kernel, by decide +kernel, by decide +kernel⟩
abbrev M_X3_copyFrom : ZMI := (RX3, cX3_copyFrom, 2, none, 0, { frames := 2, cells := 0, slots := 0, locals := 43 })
theorem zn_X3_copyFrom : zNames yX3_copyFrom 1 := ⟨by decide +kernel, by decide +kernel, by decide +kernel⟩
abbrev M_X3_feeds : ZMI := (RX3, cX3_feeds, 3, (some .boolean), 4, { frames := 3, cells := 0, slots := 0, locals := 73 })
theorem zn_X3_feeds : zNames yX3_feeds 1 := ⟨by decide +kernel, by decide +kernel, by decide +kernel⟩
abbrev M_X3_greatestOff : ZMI := (RX3, cX3_greatestOff, 5, (some .int), 1, { frames := 4, cells := 0, slots := 0, locals := 98 })
theorem zn_X3_greatestOff : zNames yX3_greatestOff 2 := ⟨by decide +kernel, by decide +kernel, by decide +kernel⟩
abbrev M_X3_left : ZMI := (RX3, cX3_left, 4, (some .int), 1, { frames := 3, cells := 0, slots := 0, locals := 72 })
theorem zn_X3_left : zNames yX3_left 1 := ⟨by decide +kernel, by decide +kernel, by decide +kernel⟩
abbrev M_X3_offAtCost : ZMI := (RX3, cX3_offAtCost, 4, (some .int), 1, { frames := 3, cells := 0, slots := 0, locals := 75 })
theorem zn_X3_offAtCost : zNames yX3_offAtCost 3 := ⟨by decide +kernel, by decide +kernel, by decide +kernel⟩
abbrev M_X3_offBy : ZMI := (RX3, cX3_offBy, 5, (some .int), 1, { frames := 2, cells := 0, slots := 0, locals := 51 })
theorem zn_X3_offBy : zNames yX3_offBy 3 := ⟨by decide +kernel, by decide +kernel, by decide +kernel⟩
abbrev M_X3_taken : ZMI := (RX3, cX3_taken, 8, (some .int), 1, { frames := 1, cells := 0, slots := 0, locals := 24 })
theorem zn_X3_taken : zNames yX3_taken 3 := ⟨by decide +kernel, by decide +kernel, by decide +kernel⟩
abbrev M_X3_takenFor : ZMI := (RX3, cX3_takenFor, 3, (some .int), 1, { frames := 2, cells := 0, slots := 0, locals := 51 })
theorem zn_X3_takenFor : zNames yX3_takenFor 2 := ⟨by decide +kernel, by decide +kernel, by decide +kernel⟩
abbrev M_X3_takenNow : ZMI := (RX3, cX3_takenNow, 2, (some .int), 1, { frames := 2, cells := 0, slots := 0, locals := 51 })
theorem zn_X3_takenNow : zNames yX3_takenNow 1 := ⟨by decide +kernel, by decide +kernel, by decide +kernel⟩
abbrev M_X4_allDone : ZMI := (RX4, cX4_allDone, 3, (some .int), 1, { frames := 1, cells := 0, slots := 0, locals := 24 })
theorem zn_X4_allDone : zNames yX4_allDone 0 := ⟨by decide +kernel, by decide +kernel, by decide +kernel⟩
abbrev M_X4_freeFirst : ZMI := (RX4, cX4_freeFirst, 3, (some .int), 1, { frames := 1, cells := 0, slots := 0, locals := 24 })
theorem zn_X4_freeFirst : zNames yX4_freeFirst 0 := ⟨by decide +kernel, by decide +kernel, by decide +kernel⟩
abbrev M_X4_groupOfFirst : ZMI := (RX4, cX4_groupOfFirst, 3, (some .int), 1, { frames := 2, cells := 0, slots := 0, locals := 47 })
theorem zn_X4_groupOfFirst : zNames yX4_groupOfFirst 1 := ⟨by decide +kernel, by decide +kernel, by decide +kernel⟩
abbrev M_X4_groupsApart : ZMI := (RX4, cX4_groupsApart, 4, (some .int), 1, { frames := 1, cells := 0, slots := 0, locals := 24 })
theorem zn_X4_groupsApart : zNames yX4_groupsApart 2 := ⟨by decide +kernel, by decide +kernel, by decide +kernel⟩
abbrev M_X4_nextWay : ZMI := (RX4, cX4_nextWay, 8, (some .int), 1, { frames := 2, cells := 0, slots := 0, locals := 47 })
theorem zn_X4_nextWay : zNames yX4_nextWay 3 := ⟨by decide +kernel, by decide +kernel, by decide +kernel⟩
abbrev M_X4_oneBehindTheOther : ZMI := (RX4, cX4_oneBehindTheOther, 4, (some .int), 1, { frames := 2, cells := 0, slots := 0, locals := 47 })
theorem zn_X4_oneBehindTheOther : zNames yX4_oneBehindTheOther 2 := ⟨by decide +kernel, by decide +kernel, by decide +kernel⟩
abbrev M_X4_putOn : ZMI := (RX4, cX4_putOn, 3, none, 0, { frames := 1, cells := 0, slots := 0, locals := 25 })
theorem zn_X4_putOn : zNames yX4_putOn 2 := ⟨by decide +kernel, by decide +kernel, by decide +kernel⟩
abbrev M_X4_soonest : ZMI := (RX4, cX4_soonest, 8, (some .int), 1, { frames := 3, cells := 0, slots := 0, locals := 74 })
theorem zn_X4_soonest : zNames yX4_soonest 3 := ⟨by decide +kernel, by decide +kernel, by decide +kernel⟩
abbrev M_X4_waysOf : ZMI := (RX4, cX4_waysOf, 4, (some .int), 1, { frames := 1, cells := 0, slots := 0, locals := 20 })
theorem zn_X4_waysOf : zNames yX4_waysOf 2 := ⟨by decide +kernel, by decide +kernel, by decide +kernel⟩
abbrev M_X5_comes : ZMI := (RX5, cX5_comes, 4, none, 0, { frames := 1, cells := 0, slots := 0, locals := 25 })
theorem zn_X5_comes : zNames yX5_comes 3 := ⟨by decide +kernel, by decide +kernel, by decide +kernel⟩
abbrev M_X5_fewestTo : ZMI := (RX5, cX5_fewestTo, 3, (some .int), 1, { frames := 4, cells := 0, slots := 0, locals := 99 })
theorem zn_X5_fewestTo : zNames yX5_fewestTo 2 := ⟨by decide +kernel, by decide +kernel, by decide +kernel⟩
abbrev M_X5_fewestToAll : ZMI := (RX5, cX5_fewestToAll, 5, (some .int), 1, { frames := 4, cells := 0, slots := 0, locals := 99 })
theorem zn_X5_fewestToAll : zNames yX5_fewestToAll 4 := ⟨by decide +kernel, by decide +kernel, by decide +kernel⟩
abbrev M_X5_firstWith : ZMI := (RX5, cX5_firstWith, 4, (some .int), 1, { frames := 2, cells := 0, slots := 0, locals := 42 })
theorem zn_X5_firstWith : zNames yX5_firstWith 1 := ⟨by decide +kernel, by decide +kernel, by decide +kernel⟩
abbrev M_X5_goOnFrom : ZMI := (RX5, cX5_goOnFrom, 9, none, 0, { frames := 2, cells := 0, slots := 0, locals := 48 })
theorem zn_X5_goOnFrom : zNames yX5_goOnFrom 3 := ⟨by decide +kernel, by decide +kernel, by decide +kernel⟩
abbrev M_X5_levelOf : ZMI := (RX5, cX5_levelOf, 2, (some .int), 1, { frames := 1, cells := 0, slots := 0, locals := 21 })
theorem zn_X5_levelOf : zNames yX5_levelOf 2 := ⟨by decide +kernel, by decide +kernel, by decide +kernel⟩
abbrev M_X5_seekAll : ZMI := (RX5, cX5_seekAll, 4, none, 0, { frames := 3, cells := 0, slots := 0, locals := 76 })
theorem zn_X5_seekAll : zNames yX5_seekAll 1 := ⟨by decide +kernel, by decide +kernel, by decide +kernel⟩
abbrev M_X5_stepOf : ZMI := (RX5, cX5_stepOf, 7, (some .int), 1, { frames := 4, cells := 0, slots := 0, locals := 99 })
theorem zn_X5_stepOf : zNames yX5_stepOf 3 := ⟨by decide +kernel, by decide +kernel, by decide +kernel⟩
abbrev M_X5_stepsTo : ZMI := (RX5, cX5_stepsTo, 4, (some .int), 1, { frames := 1, cells := 0, slots := 0, locals := 24 })
theorem zn_X5_stepsTo : zNames yX5_stepsTo 1 := ⟨by decide +kernel, by decide +kernel, by decide +kernel⟩
abbrev M_X5_unit : ZMI := (RX5, cX5_unit, 1, (some .int), 1, { frames := 0, cells := 0, slots := 0, locals := 0 })
theorem zn_X5_unit : zNames yX5_unit 1 := ⟨by decide +kernel, by decide +kernel, by decide +kernel⟩
abbrev M_X6_bakingsFed : ZMI := (RX6, cX6_bakingsFed, 6, (some .int), 1, { frames := 4, cells := 0, slots := 0, locals := 95 })
theorem zn_X6_bakingsFed : zNames yX6_bakingsFed 3 := ⟨by decide +kernel, by decide +kernel, by decide +kernel⟩
abbrev M_X6_bakingsOff : ZMI := (RX6, cX6_bakingsOff, 6, (some .int), 1, { frames := 5, cells := 0, slots := 0, locals := 121 })
theorem zn_X6_bakingsOff : zNames yX6_bakingsOff 3 := ⟨by decide +kernel, by decide +kernel, by decide +kernel⟩
abbrev M_X6_bestScale : ZMI := (RX6, cX6_bestScale, 7, (some .int), 1, { frames := 5, cells := 0, slots := 0, locals := 122 })
theorem zn_X6_bestScale : zNames yX6_bestScale 3 := ⟨by decide +kernel, by decide +kernel, by decide +kernel⟩
abbrev M_X6_bothFit : ZMI := (RX6, cX6_bothFit, 5, (some .boolean), 4, { frames := 1, cells := 0, slots := 0, locals := 24 })
theorem zn_X6_bothFit : zNames yX6_bothFit 3 := ⟨by decide +kernel, by decide +kernel, by decide +kernel⟩
abbrev M_X6_bothRecipes : ZMI := (RX6, cX6_bothRecipes, 5, (some .int), 1, { frames := 2, cells := 0, slots := 0, locals := 48 })
theorem zn_X6_bothRecipes : zNames yX6_bothRecipes 1 := ⟨by decide +kernel, by decide +kernel, by decide +kernel⟩
abbrev M_X6_comesOut : ZMI := (RX6, cX6_comesOut, 4, (some .int), 1, { frames := 4, cells := 0, slots := 0, locals := 97 })
theorem zn_X6_comesOut : zNames yX6_comesOut 2 := ⟨by decide +kernel, by decide +kernel, by decide +kernel⟩
abbrev M_X6_guestsBy : ZMI := (RX6, cX6_guestsBy, 1, (some .int), 1, { frames := 0, cells := 0, slots := 0, locals := 0 })
theorem zn_X6_guestsBy : zNames yX6_guestsBy 1 := ⟨by decide +kernel, by decide +kernel, by decide +kernel⟩
abbrev M_X6_leastOff : ZMI := (RX6, cX6_leastOff, 5, (some .int), 1, { frames := 5, cells := 0, slots := 0, locals := 121 })
theorem zn_X6_leastOff : zNames yX6_leastOff 3 := ⟨by decide +kernel, by decide +kernel, by decide +kernel⟩
abbrev M_X6_lotsFor : ZMI := (RX6, cX6_lotsFor, 10, (some .int), 1, { frames := 0, cells := 0, slots := 0, locals := 0 })
theorem zn_X6_lotsFor : zNames yX6_lotsFor 3 := ⟨by decide +kernel, by decide +kernel, by decide +kernel⟩
abbrev M_X6_moreOf : ZMI := (RX6, cX6_moreOf, 7, (some .int), 1, { frames := 3, cells := 0, slots := 0, locals := 72 })
theorem zn_X6_moreOf : zNames yX6_moreOf 4 := ⟨by decide +kernel, by decide +kernel, by decide +kernel⟩
abbrev M_X6_mostFed : ZMI := (RX6, cX6_mostFed, 2, (some .int), 1, { frames := 4, cells := 0, slots := 0, locals := 95 })
theorem zn_X6_mostFed : zNames yX6_mostFed 1 := ⟨by decide +kernel, by decide +kernel, by decide +kernel⟩
abbrev M_X6_nextSeed : ZMI := (RX6, cX6_nextSeed, 1, (some .int), 1, { frames := 0, cells := 0, slots := 0, locals := 0 })
theorem zn_X6_nextSeed : zNames yX6_nextSeed 1 := ⟨by decide +kernel, by decide +kernel, by decide +kernel⟩
abbrev M_X6_noneIsOff : ZMI := (RX6, cX6_noneIsOff, 3, (some .boolean), 4, { frames := 3, cells := 0, slots := 0, locals := 75 })
theorem zn_X6_noneIsOff : zNames yX6_noneIsOff 2 := ⟨by decide +kernel, by decide +kernel, by decide +kernel⟩
abbrev M_X6_numberFor : ZMI := (RX6, cX6_numberFor, 5, (some .int), 1, { frames := 1, cells := 0, slots := 0, locals := 24 })
theorem zn_X6_numberFor : zNames yX6_numberFor 3 := ⟨by decide +kernel, by decide +kernel, by decide +kernel⟩
abbrev M_X6_worstForgotten : ZMI := (RX6, cX6_worstForgotten, 5, (some .int), 1, { frames := 1, cells := 0, slots := 0, locals := 24 })
theorem zn_X6_worstForgotten : zNames yX6_worstForgotten 1 := ⟨by decide +kernel, by decide +kernel, by decide +kernel⟩
abbrev M_X7_lackingParts : ZMI := (RX7, cX7_lackingParts, 3, (some .int), 1, { frames := 4, cells := 0, slots := 0, locals := 96 })
theorem zn_X7_lackingParts : zNames yX7_lackingParts 1 := ⟨by decide +kernel, by decide +kernel, by decide +kernel⟩
abbrev M_X7_leastLoss : ZMI := (RX7, cX7_leastLoss, 5, (some .int), 1, { frames := 5, cells := 0, slots := 0, locals := 123 })
theorem zn_X7_leastLoss : zNames yX7_leastLoss 2 := ⟨by decide +kernel, by decide +kernel, by decide +kernel⟩
abbrev M_X7_leastPence : ZMI := (RX7, cX7_leastPence, 7, (some .int), 1, { frames := 5, cells := 0, slots := 0, locals := 121 })
theorem zn_X7_leastPence : zNames yX7_leastPence 3 := ⟨by decide +kernel, by decide +kernel, by decide +kernel⟩
abbrev M_X7_leftFeeds : ZMI := (RX7, cX7_leftFeeds, 4, (some .boolean), 4, { frames := 4, cells := 0, slots := 0, locals := 95 })
theorem zn_X7_leftFeeds : zNames yX7_leftFeeds 2 := ⟨by decide +kernel, by decide +kernel, by decide +kernel⟩
abbrev M_X7_leftIsEnough : ZMI := (RX7, cX7_leftIsEnough, 3, (some .boolean), 4, { frames := 4, cells := 0, slots := 0, locals := 95 })
theorem zn_X7_leftIsEnough : zNames yX7_leftIsEnough 2 := ⟨by decide +kernel, by decide +kernel, by decide +kernel⟩
abbrev M_X7_letMake : ZMI := (RX7, cX7_letMake, 6, none, 0, { frames := 1, cells := 0, slots := 0, locals := 25 })
theorem zn_X7_letMake : zNames yX7_letMake 3 := ⟨by decide +kernel, by decide +kernel, by decide +kernel⟩
abbrev M_X7_letStandIn : ZMI := (RX7, cX7_letStandIn, 9, none, 0, { frames := 4, cells := 0, slots := 0, locals := 95 })
theorem zn_X7_letStandIn : zNames yX7_letStandIn 3 := ⟨by decide +kernel, by decide +kernel, by decide +kernel⟩
abbrev M_X7_moreGuests : ZMI := (RX7, cX7_moreGuests, 2, (some .int), 1, { frames := 5, cells := 0, slots := 0, locals := 118 })
theorem zn_X7_moreGuests : zNames yX7_moreGuests 1 := ⟨by decide +kernel, by decide +kernel, by decide +kernel⟩
abbrev M_X7_penceFor : ZMI := (RX7, cX7_penceFor, 6, (some .int), 1, { frames := 4, cells := 0, slots := 0, locals := 96 })
theorem zn_X7_penceFor : zNames yX7_penceFor 2 := ⟨by decide +kernel, by decide +kernel, by decide +kernel⟩
abbrev M_X7_timesThatItLets : ZMI := (RX7, cX7_timesThatItLets, 4, (some .int), 1, { frames := 3, cells := 0, slots := 0, locals := 72 })
theorem zn_X7_timesThatItLets : zNames yX7_timesThatItLets 2 := ⟨by decide +kernel, by decide +kernel, by decide +kernel⟩
abbrev M_X7_twelfthsOf : ZMI := (RX7, cX7_twelfthsOf, 5, (some .int), 1, { frames := 1, cells := 0, slots := 0, locals := 24 })
theorem zn_X7_twelfthsOf : zNames yX7_twelfthsOf 3 := ⟨by decide +kernel, by decide +kernel, by decide +kernel⟩
abbrev M_X7_wholesLacking : ZMI := (RX7, cX7_wholesLacking, 4, (some .int), 1, { frames := 3, cells := 0, slots := 0, locals := 73 })
theorem zn_X7_wholesLacking : zNames yX7_wholesLacking 3 := ⟨by decide +kernel, by decide +kernel, by decide +kernel⟩
abbrev M_X7_worthOf : ZMI := (RX7, cX7_worthOf, 4, (some .int), 1, { frames := 1, cells := 0, slots := 0, locals := 24 })
theorem zn_X7_worthOf : zNames yX7_worthOf 2 := ⟨by decide +kernel, by decide +kernel, by decide +kernel⟩
abbrev M_X7_worthiestSet : ZMI := (RX7, cX7_worthiestSet, 4, (some .int), 1, { frames := 5, cells := 0, slots := 0, locals := 117 })
theorem zn_X7_worthiestSet : zNames yX7_worthiestSet 1 := ⟨by decide +kernel, by decide +kernel, by decide +kernel⟩
abbrev M_X8_commonDivisor : ZMI := (RX8, cX8_commonDivisor, 6, (some .int), 1, { frames := 1, cells := 0, slots := 0, locals := 21 })
theorem zn_X8_commonDivisor : zNames yX8_commonDivisor 2 := ⟨by decide +kernel, by decide +kernel, by decide +kernel⟩
abbrev M_X8_cut : ZMI := (RX8, cX8_cut, 2, (some .int), 1, { frames := 0, cells := 0, slots := 0, locals := 0 })
theorem zn_X8_cut : zNames yX8_cut 2 := ⟨by decide +kernel, by decide +kernel, by decide +kernel⟩
abbrev M_X8_inLeastTerms : ZMI := (RX8, cX8_inLeastTerms, 3, (some .int), 1, { frames := 2, cells := 0, slots := 0, locals := 46 })
theorem zn_X8_inLeastTerms : zNames yX8_inLeastTerms 3 := ⟨by decide +kernel, by decide +kernel, by decide +kernel⟩
abbrev M_X8_nearest : ZMI := (RX8, cX8_nearest, 3, (some .int), 1, { frames := 0, cells := 0, slots := 0, locals := 0 })
theorem zn_X8_nearest : zNames yX8_nearest 2 := ⟨by decide +kernel, by decide +kernel, by decide +kernel⟩
abbrev M_X8_rest : ZMI := (RX8, cX8_rest, 2, (some .int), 1, { frames := 0, cells := 0, slots := 0, locals := 0 })
theorem zn_X8_rest : zNames yX8_rest 2 := ⟨by decide +kernel, by decide +kernel, by decide +kernel⟩
abbrev M_X8_roundedUp : ZMI := (RX8, cX8_roundedUp, 2, (some .int), 1, { frames := 0, cells := 0, slots := 0, locals := 0 })
theorem zn_X8_roundedUp : zNames yX8_roundedUp 2 := ⟨by decide +kernel, by decide +kernel, by decide +kernel⟩
abbrev M_X9_add : ZMI := (RX9, cX9_add, 4, (some .int), 1, { frames := 0, cells := 0, slots := 0, locals := 0 })
theorem zn_X9_add : zNames yX9_add 1 := ⟨by decide +kernel, by decide +kernel, by decide +kernel⟩
abbrev M_X9_at : ZMI := (RX9, cX9_at, 5, (some .int), 1, { frames := 0, cells := 0, slots := 0, locals := 0 })
theorem zn_X9_at : zNames yX9_at 2 := ⟨by decide +kernel, by decide +kernel, by decide +kernel⟩
abbrev M_X9_copyFrom : ZMI := (RX9, cX9_copyFrom, 3, none, 0, { frames := 1, cells := 0, slots := 0, locals := 21 })
theorem zn_X9_copyFrom : zNames yX9_copyFrom 1 := ⟨by decide +kernel, by decide +kernel, by decide +kernel⟩
abbrev M_X9_dropFirst : ZMI := (RX9, cX9_dropFirst, 3, none, 0, { frames := 2, cells := 0, slots := 0, locals := 41 })
theorem zn_X9_dropFirst : zNames yX9_dropFirst 0 := ⟨by decide +kernel, by decide +kernel, by decide +kernel⟩
abbrev M_X9_dropLast : ZMI := (RX9, cX9_dropLast, 1, none, 0, { frames := 1, cells := 0, slots := 0, locals := 21 })
theorem zn_X9_dropLast : zNames yX9_dropLast 0 := ⟨by decide +kernel, by decide +kernel, by decide +kernel⟩
abbrev M_X9_exchange : ZMI := (RX9, cX9_exchange, 5, (some .int), 1, { frames := 1, cells := 0, slots := 0, locals := 25 })
theorem zn_X9_exchange : zNames yX9_exchange 3 := ⟨by decide +kernel, by decide +kernel, by decide +kernel⟩
abbrev M_X9_full : ZMI := (RX9, cX9_full, 1, (some .boolean), 4, { frames := 0, cells := 0, slots := 0, locals := 0 })
theorem zn_X9_full : zNames yX9_full 0 := ⟨by decide +kernel, by decide +kernel, by decide +kernel⟩
abbrev M_X9_has : ZMI := (RX9, cX9_has, 2, (some .boolean), 4, { frames := 0, cells := 0, slots := 0, locals := 0 })
theorem zn_X9_has : zNames yX9_has 1 := ⟨by decide +kernel, by decide +kernel, by decide +kernel⟩
abbrev M_X9_holds : ZMI := (RX9, cX9_holds, 3, (some .boolean), 4, { frames := 1, cells := 0, slots := 0, locals := 24 })
theorem zn_X9_holds : zNames yX9_holds 1 := ⟨by decide +kernel, by decide +kernel, by decide +kernel⟩
abbrev M_X9_put : ZMI := (RX9, cX9_put, 6, none, 0, { frames := 0, cells := 0, slots := 0, locals := 0 })
theorem zn_X9_put : zNames yX9_put 3 := ⟨by decide +kernel, by decide +kernel, by decide +kernel⟩
abbrev M_X9_reset : ZMI := (RX9, cX9_reset, 4, none, 0, { frames := 1, cells := 0, slots := 0, locals := 21 })
theorem zn_X9_reset : zNames yX9_reset 2 := ⟨by decide +kernel, by decide +kernel, by decide +kernel⟩
abbrev M_X9_size : ZMI := (RX9, cX9_size, 1, (some .int), 1, { frames := 0, cells := 0, slots := 0, locals := 0 })
theorem zn_X9_size : zNames yX9_size 0 := ⟨by decide +kernel, by decide +kernel, by decide +kernel⟩
theorem k_1 : Cond.initialized yX11_refused_.cls ∈ zall := zall_mem (List.mem_append_right _ (List.mem_of_getElem? (i := 1) (by decide +kernel))) rfl
theorem k_2 : Cond.initialized yX3_allHouse.cls ∈ zall := zall_mem (List.mem_append_right _ (List.mem_of_getElem? (i := 2) (by decide +kernel))) rfl
theorem k_3 : Cond.initialized yX9_exchange.cls ∈ zall := zall_mem (List.mem_append_right _ (List.mem_of_getElem? (i := 3) (by decide +kernel))) rfl
theorem k_4 : Cond.initialized "java/lang/Math" ∈ zall := zall_mem (List.mem_append_right _ (List.mem_of_getElem? (i := 4) (by decide +kernel))) rfl
theorem k_5 : Cond.initialized yX1_letters.cls ∈ zall := zall_mem (List.mem_append_right _ (List.mem_of_getElem? (i := 5) (by decide +kernel))) rfl
theorem k_6 : Cond.initialized yX7_worthOf.cls ∈ zall := zall_mem (List.mem_append_right _ (List.mem_of_getElem? (i := 6) (by decide +kernel))) rfl
theorem k_7 : Cond.initialized yX5_stepOf.cls ∈ zall := zall_mem (List.mem_append_right _ (List.mem_of_getElem? (i := 7) (by decide +kernel))) rfl
theorem k_8 : Cond.initialized yX0_weighable.cls ∈ zall := zall_mem (List.mem_append_right _ (List.mem_of_getElem? (i := 8) (by decide +kernel))) rfl
theorem k_9 : Cond.initialized yX4_groupsApart.cls ∈ zall := zall_mem (List.mem_append_right _ (List.mem_of_getElem? (i := 9) (by decide +kernel))) rfl
theorem k_10 : Cond.initialized yX12_in.cls ∈ zall := zall_mem (List.mem_append_right _ (List.mem_of_getElem? (i := 10) (by decide +kernel))) rfl
theorem k_11 : Cond.initialized yJ0_charAt_5068e.cls ∈ zall := zall_mem (List.mem_append_right _ (List.mem_of_getElem? (i := 11) (by decide +kernel))) rfl
theorem k_15 : Cond.initialized yX8_nearest.cls ∈ zall := zall_mem (List.mem_append_right _ (List.mem_of_getElem? (i := 15) (by decide +kernel))) rfl
theorem k_16 : Cond.initialized yX6_worstForgotten.cls ∈ zall := zall_mem (List.mem_append_right _ (List.mem_of_getElem? (i := 16) (by decide +kernel))) rfl
theorem k_17 : Cond.initialized yX10_nearestPair.cls ∈ zall := zall_mem (List.mem_append_right _ (List.mem_of_getElem? (i := 17) (by decide +kernel))) rfl
theorem k_18 : Cond.initialized yX2_firstNeither.cls ∈ zall := zall_mem (List.mem_append_right _ (List.mem_of_getElem? (i := 18) (by decide +kernel))) rfl
theorem k_19 : Cond.initialized yJ6_bitCount_0f7a4.cls ∈ zall := zall_mem (List.mem_append_right _ (List.mem_of_getElem? (i := 19) (by decide +kernel))) rfl
theorem k_40 : Cond.methodLink RX9 15 Lib.Math.max.name ∈ zall := zall_mem (List.mem_append_right _ (List.mem_of_getElem? (i := 40) (by decide +kernel))) rfl
theorem k_41 : Cond.static Lib.Math.max.name ∈ zall := zall_mem (List.mem_append_right _ (List.mem_of_getElem? (i := 41) (by decide +kernel))) rfl
theorem k_42 : Cond.code Lib.Math.max.name Lib.Math.max.code 2 (some .int) ∈ zall := zall_mem (List.mem_append_right _ (List.mem_of_getElem? (i := 42) (by decide +kernel))) rfl
theorem k_43 : Cond.fieldLink RX9 27 RX9 "cells" "[I" ∈ zall := zall_mem (List.mem_append_right _ (List.mem_of_getElem? (i := 43) (by decide +kernel))) rfl
theorem k_44 : Cond.fieldLink RX9 21 RX9 "room" "I" ∈ zall := zall_mem (List.mem_append_right _ (List.mem_of_getElem? (i := 44) (by decide +kernel))) rfl
theorem k_45 : Cond.fieldLink RX9 24 RX9 "width" "I" ∈ zall := zall_mem (List.mem_append_right _ (List.mem_of_getElem? (i := 45) (by decide +kernel))) rfl
theorem k_46 : Cond.fieldLink RX9 9 RX9 "size" "I" ∈ zall := zall_mem (List.mem_append_right _ (List.mem_of_getElem? (i := 46) (by decide +kernel))) rfl
theorem k_58 : Cond.instanceMethod yX9_reset ∈ zall := zall_mem (List.mem_append_right _ (List.mem_of_getElem? (i := 58) (by decide +kernel))) rfl
theorem k_59 : Cond.selects yX9_reset.cls yX9_reset yX9_reset ∈ zall := zall_mem (List.mem_append_right _ (List.mem_of_getElem? (i := 59) (by decide +kernel))) rfl
theorem k_60 : Cond.code yX9_reset M_X9_reset.2.1 M_X9_reset.2.2.1 M_X9_reset.2.2.2.1 ∈ zall := zall_mem (List.mem_append_right _ (List.mem_of_getElem? (i := 60) (by decide +kernel))) rfl
theorem k_61 : Cond.methodLink RX9 41 Lib.Math.min.name ∈ zall := zall_mem (List.mem_append_right _ (List.mem_of_getElem? (i := 61) (by decide +kernel))) rfl
theorem k_62 : Cond.static Lib.Math.min.name ∈ zall := zall_mem (List.mem_append_right _ (List.mem_of_getElem? (i := 62) (by decide +kernel))) rfl
theorem k_63 : Cond.code Lib.Math.min.name Lib.Math.min.code 2 (some .int) ∈ zall := zall_mem (List.mem_append_right _ (List.mem_of_getElem? (i := 63) (by decide +kernel))) rfl
theorem k_64 : Cond.fieldLink RX3 9 RX3 "forMany" "I" ∈ zall := zall_mem (List.mem_append_right _ (List.mem_of_getElem? (i := 64) (by decide +kernel))) rfl
theorem k_65 : Cond.fieldLink RX10 34 RX3 "forMany" "I" ∈ zall := zall_mem (List.mem_append_right _ (List.mem_of_getElem? (i := 65) (by decide +kernel))) rfl
theorem k_66 : Cond.fieldLink RX6 31 RX3 "forMany" "I" ∈ zall := zall_mem (List.mem_append_right _ (List.mem_of_getElem? (i := 66) (by decide +kernel))) rfl
theorem k_67 : Cond.fieldLink RX11 154 RX3 "forMany" "I" ∈ zall := zall_mem (List.mem_append_right _ (List.mem_of_getElem? (i := 67) (by decide +kernel))) rfl
theorem k_68 : Cond.fieldLink RX7 96 RX3 "forMany" "I" ∈ zall := zall_mem (List.mem_append_right _ (List.mem_of_getElem? (i := 68) (by decide +kernel))) rfl
theorem k_69 : Cond.fieldLink RX1 124 RX3 "forMany" "I" ∈ zall := zall_mem (List.mem_append_right _ (List.mem_of_getElem? (i := 69) (by decide +kernel))) rfl
theorem k_70 : Cond.fieldLink RX3 15 RX3 "guests" "I" ∈ zall := zall_mem (List.mem_append_right _ (List.mem_of_getElem? (i := 70) (by decide +kernel))) rfl
theorem k_71 : Cond.fieldLink RX7 29 RX3 "guests" "I" ∈ zall := zall_mem (List.mem_append_right _ (List.mem_of_getElem? (i := 71) (by decide +kernel))) rfl
theorem k_72 : Cond.fieldLink RX10 25 RX3 "guests" "I" ∈ zall := zall_mem (List.mem_append_right _ (List.mem_of_getElem? (i := 72) (by decide +kernel))) rfl
theorem k_73 : Cond.fieldLink RX2 38 RX3 "guests" "I" ∈ zall := zall_mem (List.mem_append_right _ (List.mem_of_getElem? (i := 73) (by decide +kernel))) rfl
theorem k_74 : Cond.fieldLink RX11 131 RX3 "guests" "I" ∈ zall := zall_mem (List.mem_append_right _ (List.mem_of_getElem? (i := 74) (by decide +kernel))) rfl
theorem k_75 : Cond.fieldLink RX3 18 RX3 "volume" "I" ∈ zall := zall_mem (List.mem_append_right _ (List.mem_of_getElem? (i := 75) (by decide +kernel))) rfl
theorem k_76 : Cond.fieldLink RX11 145 RX3 "volume" "I" ∈ zall := zall_mem (List.mem_append_right _ (List.mem_of_getElem? (i := 76) (by decide +kernel))) rfl
theorem k_77 : Cond.fieldLink RX3 21 RX3 "minutes" "I" ∈ zall := zall_mem (List.mem_append_right _ (List.mem_of_getElem? (i := 77) (by decide +kernel))) rfl
theorem k_78 : Cond.fieldLink RX10 21 RX3 "minutes" "I" ∈ zall := zall_mem (List.mem_append_right _ (List.mem_of_getElem? (i := 78) (by decide +kernel))) rfl
theorem k_79 : Cond.fieldLink RX11 148 RX3 "minutes" "I" ∈ zall := zall_mem (List.mem_append_right _ (List.mem_of_getElem? (i := 79) (by decide +kernel))) rfl
theorem k_80 : Cond.fieldLink RX3 29 RX3 "parts" "LTwoThirdsOfAnEgg$Table;" ∈ zall := zall_mem (List.mem_append_right _ (List.mem_of_getElem? (i := 80) (by decide +kernel))) rfl
theorem k_81 : Cond.fieldLink RX7 20 RX3 "parts" "LTwoThirdsOfAnEgg$Table;" ∈ zall := zall_mem (List.mem_append_right _ (List.mem_of_getElem? (i := 81) (by decide +kernel))) rfl
theorem k_82 : Cond.fieldLink RX2 15 RX3 "parts" "LTwoThirdsOfAnEgg$Table;" ∈ zall := zall_mem (List.mem_append_right _ (List.mem_of_getElem? (i := 82) (by decide +kernel))) rfl
theorem k_83 : Cond.fieldLink RX6 21 RX3 "parts" "LTwoThirdsOfAnEgg$Table;" ∈ zall := zall_mem (List.mem_append_right _ (List.mem_of_getElem? (i := 83) (by decide +kernel))) rfl
theorem k_84 : Cond.fieldLink RX11 123 RX3 "parts" "LTwoThirdsOfAnEgg$Table;" ∈ zall := zall_mem (List.mem_append_right _ (List.mem_of_getElem? (i := 84) (by decide +kernel))) rfl
theorem k_85 : Cond.fieldLink RX1 129 RX3 "parts" "LTwoThirdsOfAnEgg$Table;" ∈ zall := zall_mem (List.mem_append_right _ (List.mem_of_getElem? (i := 85) (by decide +kernel))) rfl
theorem k_86 : Cond.fieldLink RX3 33 RX3 "tins" "LTwoThirdsOfAnEgg$Table;" ∈ zall := zall_mem (List.mem_append_right _ (List.mem_of_getElem? (i := 86) (by decide +kernel))) rfl
theorem k_87 : Cond.fieldLink RX10 9 RX3 "tins" "LTwoThirdsOfAnEgg$Table;" ∈ zall := zall_mem (List.mem_append_right _ (List.mem_of_getElem? (i := 87) (by decide +kernel))) rfl
theorem k_88 : Cond.fieldLink RX11 188 RX3 "tins" "LTwoThirdsOfAnEgg$Table;" ∈ zall := zall_mem (List.mem_append_right _ (List.mem_of_getElem? (i := 88) (by decide +kernel))) rfl
theorem k_89 : Cond.fieldLink RX1 144 RX3 "tins" "LTwoThirdsOfAnEgg$Table;" ∈ zall := zall_mem (List.mem_append_right _ (List.mem_of_getElem? (i := 89) (by decide +kernel))) rfl
theorem k_90 : Cond.fieldLink RX3 36 RX3 "standIns" "LTwoThirdsOfAnEgg$Table;" ∈ zall := zall_mem (List.mem_append_right _ (List.mem_of_getElem? (i := 90) (by decide +kernel))) rfl
theorem k_91 : Cond.fieldLink RX7 57 RX3 "standIns" "LTwoThirdsOfAnEgg$Table;" ∈ zall := zall_mem (List.mem_append_right _ (List.mem_of_getElem? (i := 91) (by decide +kernel))) rfl
theorem k_92 : Cond.fieldLink RX11 212 RX3 "standIns" "LTwoThirdsOfAnEgg$Table;" ∈ zall := zall_mem (List.mem_append_right _ (List.mem_of_getElem? (i := 92) (by decide +kernel))) rfl
theorem k_93 : Cond.fieldLink RX1 147 RX3 "standIns" "LTwoThirdsOfAnEgg$Table;" ∈ zall := zall_mem (List.mem_append_right _ (List.mem_of_getElem? (i := 93) (by decide +kernel))) rfl
theorem k_94 : Cond.fieldLink RX3 39 RX3 "cups" "LTwoThirdsOfAnEgg$Table;" ∈ zall := zall_mem (List.mem_append_right _ (List.mem_of_getElem? (i := 94) (by decide +kernel))) rfl
theorem k_95 : Cond.fieldLink RX11 218 RX3 "cups" "LTwoThirdsOfAnEgg$Table;" ∈ zall := zall_mem (List.mem_append_right _ (List.mem_of_getElem? (i := 95) (by decide +kernel))) rfl
theorem k_96 : Cond.fieldLink RX1 154 RX3 "cups" "LTwoThirdsOfAnEgg$Table;" ∈ zall := zall_mem (List.mem_append_right _ (List.mem_of_getElem? (i := 96) (by decide +kernel))) rfl
theorem k_97 : Cond.fieldLink RX3 42 RX3 "weights" "LTwoThirdsOfAnEgg$Table;" ∈ zall := zall_mem (List.mem_append_right _ (List.mem_of_getElem? (i := 97) (by decide +kernel))) rfl
theorem k_98 : Cond.fieldLink RX11 283 RX3 "weights" "LTwoThirdsOfAnEgg$Table;" ∈ zall := zall_mem (List.mem_append_right _ (List.mem_of_getElem? (i := 98) (by decide +kernel))) rfl
theorem k_99 : Cond.fieldLink RX3 45 RX3 "dishes" "LTwoThirdsOfAnEgg$Table;" ∈ zall := zall_mem (List.mem_append_right _ (List.mem_of_getElem? (i := 99) (by decide +kernel))) rfl
theorem k_100 : Cond.fieldLink RX7 99 RX3 "dishes" "LTwoThirdsOfAnEgg$Table;" ∈ zall := zall_mem (List.mem_append_right _ (List.mem_of_getElem? (i := 100) (by decide +kernel))) rfl
theorem k_101 : Cond.fieldLink RX11 318 RX3 "dishes" "LTwoThirdsOfAnEgg$Table;" ∈ zall := zall_mem (List.mem_append_right _ (List.mem_of_getElem? (i := 101) (by decide +kernel))) rfl
theorem k_131 : Cond.fieldLink RX1 14 RX1 "letters" "LTwoThirdsOfAnEgg$Table;" ∈ zall := zall_mem (List.mem_append_right _ (List.mem_of_getElem? (i := 131) (by decide +kernel))) rfl
theorem k_132 : Cond.fieldLink RX1 20 RX1 "told" "LTwoThirdsOfAnEgg$Table;" ∈ zall := zall_mem (List.mem_append_right _ (List.mem_of_getElem? (i := 132) (by decide +kernel))) rfl
theorem k_133 : Cond.fieldLink RX1 23 RX1 "place" "I" ∈ zall := zall_mem (List.mem_append_right _ (List.mem_of_getElem? (i := 133) (by decide +kernel))) rfl
theorem k_151 : Cond.fieldLink RX7 14 RX7 "leastLoss" "LTwoThirdsOfAnEgg$Table;" ∈ zall := zall_mem (List.mem_append_right _ (List.mem_of_getElem? (i := 151) (by decide +kernel))) rfl
theorem k_163 : Cond.fieldLink RX5 16 RX5 "came" "LTwoThirdsOfAnEgg$Table;" ∈ zall := zall_mem (List.mem_append_right _ (List.mem_of_getElem? (i := 163) (by decide +kernel))) rfl
theorem k_164 : Cond.fieldLink RX5 20 RX5 "ways" "LTwoThirdsOfAnEgg$Table;" ∈ zall := zall_mem (List.mem_append_right _ (List.mem_of_getElem? (i := 164) (by decide +kernel))) rfl
theorem k_178 : Cond.fieldLink RX0 16 RX0 "ways" "LTwoThirdsOfAnEgg$Table;" ∈ zall := zall_mem (List.mem_append_right _ (List.mem_of_getElem? (i := 178) (by decide +kernel))) rfl
theorem k_190 : Cond.fieldLink RX4 12 RX4 "busy" "LTwoThirdsOfAnEgg$Table;" ∈ zall := zall_mem (List.mem_append_right _ (List.mem_of_getElem? (i := 190) (by decide +kernel))) rfl
theorem k_194 : Cond.methodLink RX11 76 yX9_reset ∈ zall := zall_mem (List.mem_append_right _ (List.mem_of_getElem? (i := 194) (by decide +kernel))) rfl
theorem k_195 : Cond.fieldLink RX11 10 RX11 "kitchen" "LTwoThirdsOfAnEgg$Kitchen;" ∈ zall := zall_mem (List.mem_append_right _ (List.mem_of_getElem? (i := 195) (by decide +kernel))) rfl
theorem k_196 : Cond.fieldLink RX11 16 RX11 "image" "LTwoThirdsOfAnEgg$Kitchen;" ∈ zall := zall_mem (List.mem_append_right _ (List.mem_of_getElem? (i := 196) (by decide +kernel))) rfl
theorem k_197 : Cond.fieldLink RX11 19 RX11 "draft" "LTwoThirdsOfAnEgg$Kitchen;" ∈ zall := zall_mem (List.mem_append_right _ (List.mem_of_getElem? (i := 197) (by decide +kernel))) rfl
theorem k_198 : Cond.fieldLink RX11 22 RX11 "imageTaken" "Z" ∈ zall := zall_mem (List.mem_append_right _ (List.mem_of_getElem? (i := 198) (by decide +kernel))) rfl
theorem k_199 : Cond.fieldLink RX11 29 RX11 "book" "LTwoThirdsOfAnEgg$Book;" ∈ zall := zall_mem (List.mem_append_right _ (List.mem_of_getElem? (i := 199) (by decide +kernel))) rfl
theorem k_200 : Cond.fieldLink RX11 38 RX11 "row" "LTwoThirdsOfAnEgg$Table;" ∈ zall := zall_mem (List.mem_append_right _ (List.mem_of_getElem? (i := 200) (by decide +kernel))) rfl
theorem k_201 : Cond.fieldLink RX11 42 RX11 "earlierGuests" "LTwoThirdsOfAnEgg$Table;" ∈ zall := zall_mem (List.mem_append_right _ (List.mem_of_getElem? (i := 201) (by decide +kernel))) rfl
theorem k_202 : Cond.fieldLink RX11 45 RX11 "refusals" "LTwoThirdsOfAnEgg$Table;" ∈ zall := zall_mem (List.mem_append_right _ (List.mem_of_getElem? (i := 202) (by decide +kernel))) rfl
theorem k_203 : Cond.fieldLink RX11 51 RX11 "stores" "LTwoThirdsOfAnEgg$Stores;" ∈ zall := zall_mem (List.mem_append_right _ (List.mem_of_getElem? (i := 203) (by decide +kernel))) rfl
theorem k_204 : Cond.fieldLink RX11 58 RX11 "pouring" "LTwoThirdsOfAnEgg$Pouring;" ∈ zall := zall_mem (List.mem_append_right _ (List.mem_of_getElem? (i := 204) (by decide +kernel))) rfl
theorem k_205 : Cond.fieldLink RX11 65 RX11 "balance" "LTwoThirdsOfAnEgg$Balance;" ∈ zall := zall_mem (List.mem_append_right _ (List.mem_of_getElem? (i := 205) (by decide +kernel))) rfl
theorem k_206 : Cond.fieldLink RX11 72 RX11 "minutes" "LTwoThirdsOfAnEgg$Minutes;" ∈ zall := zall_mem (List.mem_append_right _ (List.mem_of_getElem? (i := 206) (by decide +kernel))) rfl
theorem k_236 : Cond.methodLink RX11 79 yX11_outside ∈ zall := zall_mem (List.mem_append_right _ (List.mem_of_getElem? (i := 236) (by decide +kernel))) rfl
theorem k_237 : Cond.static yX11_outside ∈ zall := zall_mem (List.mem_append_right _ (List.mem_of_getElem? (i := 237) (by decide +kernel))) rfl
theorem k_238 : Cond.code yX11_outside M_X11_outside.2.1 M_X11_outside.2.2.1 M_X11_outside.2.2.2.1 ∈ zall := zall_mem (List.mem_append_right _ (List.mem_of_getElem? (i := 238) (by decide +kernel))) rfl
theorem k_239 : Cond.methodLink RX11 168 yX11_either ∈ zall := zall_mem (List.mem_append_right _ (List.mem_of_getElem? (i := 239) (by decide +kernel))) rfl
theorem k_240 : Cond.static yX11_either ∈ zall := zall_mem (List.mem_append_right _ (List.mem_of_getElem? (i := 240) (by decide +kernel))) rfl
theorem k_241 : Cond.code yX11_either M_X11_either.2.1 M_X11_either.2.2.1 M_X11_either.2.2.2.1 ∈ zall := zall_mem (List.mem_append_right _ (List.mem_of_getElem? (i := 241) (by decide +kernel))) rfl
theorem k_242 : Cond.methodLink RX11 344 Lib.Math.min.name ∈ zall := zall_mem (List.mem_append_right _ (List.mem_of_getElem? (i := 242) (by decide +kernel))) rfl
theorem k_243 : Cond.methodLink RX11 349 Lib.Math.max.name ∈ zall := zall_mem (List.mem_append_right _ (List.mem_of_getElem? (i := 243) (by decide +kernel))) rfl
theorem k_244 : Cond.methodLink RX11 83 yX1_letters ∈ zall := zall_mem (List.mem_append_right _ (List.mem_of_getElem? (i := 244) (by decide +kernel))) rfl
theorem k_245 : Cond.instanceMethod yX1_letters ∈ zall := zall_mem (List.mem_append_right _ (List.mem_of_getElem? (i := 245) (by decide +kernel))) rfl
theorem k_246 : Cond.selects yX1_letters.cls yX1_letters yX1_letters ∈ zall := zall_mem (List.mem_append_right _ (List.mem_of_getElem? (i := 246) (by decide +kernel))) rfl
theorem k_247 : Cond.code yX1_letters M_X1_letters.2.1 M_X1_letters.2.2.1 M_X1_letters.2.2.2.1 ∈ zall := zall_mem (List.mem_append_right _ (List.mem_of_getElem? (i := 247) (by decide +kernel))) rfl
theorem k_248 : Cond.methodLink RX11 87 yX11_noRoom ∈ zall := zall_mem (List.mem_append_right _ (List.mem_of_getElem? (i := 248) (by decide +kernel))) rfl
theorem k_249 : Cond.static yX11_noRoom ∈ zall := zall_mem (List.mem_append_right _ (List.mem_of_getElem? (i := 249) (by decide +kernel))) rfl
theorem k_250 : Cond.code yX11_noRoom M_X11_noRoom.2.1 M_X11_noRoom.2.2.1 M_X11_noRoom.2.2.2.1 ∈ zall := zall_mem (List.mem_append_right _ (List.mem_of_getElem? (i := 250) (by decide +kernel))) rfl
theorem k_251 : Cond.methodLink RX11 135 yX9_full ∈ zall := zall_mem (List.mem_append_right _ (List.mem_of_getElem? (i := 251) (by decide +kernel))) rfl
theorem k_252 : Cond.instanceMethod yX9_full ∈ zall := zall_mem (List.mem_append_right _ (List.mem_of_getElem? (i := 252) (by decide +kernel))) rfl
theorem k_253 : Cond.selects yX9_full.cls yX9_full yX9_full ∈ zall := zall_mem (List.mem_append_right _ (List.mem_of_getElem? (i := 253) (by decide +kernel))) rfl
theorem k_254 : Cond.code yX9_full M_X9_full.2.1 M_X9_full.2.2.1 M_X9_full.2.2.2.1 ∈ zall := zall_mem (List.mem_append_right _ (List.mem_of_getElem? (i := 254) (by decide +kernel))) rfl
theorem k_255 : Cond.methodLink RX11 91 yX11_refused_ ∈ zall := zall_mem (List.mem_append_right _ (List.mem_of_getElem? (i := 255) (by decide +kernel))) rfl
theorem k_257 : Cond.instanceMethod yX11_refused_ ∈ zall := zall_mem (List.mem_append_right _ (List.mem_of_getElem? (i := 257) (by decide +kernel))) rfl
theorem k_258 : Cond.code yX11_refused_ M_X11_refused_.2.1 M_X11_refused_.2.2.1 M_X11_refused_.2.2.2.1 ∈ zall := zall_mem (List.mem_append_right _ (List.mem_of_getElem? (i := 258) (by decide +kernel))) rfl
theorem k_259 : Cond.methodLink RX11 150 yX11_refused ∈ zall := zall_mem (List.mem_append_right _ (List.mem_of_getElem? (i := 259) (by decide +kernel))) rfl
theorem k_261 : Cond.instanceMethod yX11_refused ∈ zall := zall_mem (List.mem_append_right _ (List.mem_of_getElem? (i := 261) (by decide +kernel))) rfl
theorem k_262 : Cond.code yX11_refused M_X11_refused.2.1 M_X11_refused.2.2.1 M_X11_refused.2.2.2.1 ∈ zall := zall_mem (List.mem_append_right _ (List.mem_of_getElem? (i := 262) (by decide +kernel))) rfl
theorem k_263 : Cond.methodLink RX11 126 yX9_at ∈ zall := zall_mem (List.mem_append_right _ (List.mem_of_getElem? (i := 263) (by decide +kernel))) rfl
theorem k_264 : Cond.instanceMethod yX9_at ∈ zall := zall_mem (List.mem_append_right _ (List.mem_of_getElem? (i := 264) (by decide +kernel))) rfl
theorem k_265 : Cond.selects yX9_at.cls yX9_at yX9_at ∈ zall := zall_mem (List.mem_append_right _ (List.mem_of_getElem? (i := 265) (by decide +kernel))) rfl
theorem k_266 : Cond.code yX9_at M_X9_at.2.1 M_X9_at.2.2.1 M_X9_at.2.2.2.1 ∈ zall := zall_mem (List.mem_append_right _ (List.mem_of_getElem? (i := 266) (by decide +kernel))) rfl
theorem k_267 : Cond.methodLink RX11 321 yX9_put ∈ zall := zall_mem (List.mem_append_right _ (List.mem_of_getElem? (i := 267) (by decide +kernel))) rfl
theorem k_268 : Cond.instanceMethod yX9_put ∈ zall := zall_mem (List.mem_append_right _ (List.mem_of_getElem? (i := 268) (by decide +kernel))) rfl
theorem k_269 : Cond.selects yX9_put.cls yX9_put yX9_put ∈ zall := zall_mem (List.mem_append_right _ (List.mem_of_getElem? (i := 269) (by decide +kernel))) rfl
theorem k_270 : Cond.code yX9_put M_X9_put.2.1 M_X9_put.2.2.1 M_X9_put.2.2.2.1 ∈ zall := zall_mem (List.mem_append_right _ (List.mem_of_getElem? (i := 270) (by decide +kernel))) rfl
theorem k_271 : Cond.methodLink RX11 95 yX9_add ∈ zall := zall_mem (List.mem_append_right _ (List.mem_of_getElem? (i := 271) (by decide +kernel))) rfl
theorem k_272 : Cond.instanceMethod yX9_add ∈ zall := zall_mem (List.mem_append_right _ (List.mem_of_getElem? (i := 272) (by decide +kernel))) rfl
theorem k_273 : Cond.selects yX9_add.cls yX9_add yX9_add ∈ zall := zall_mem (List.mem_append_right _ (List.mem_of_getElem? (i := 273) (by decide +kernel))) rfl
theorem k_274 : Cond.code yX9_add M_X9_add.2.1 M_X9_add.2.2.1 M_X9_add.2.2.2.1 ∈ zall := zall_mem (List.mem_append_right _ (List.mem_of_getElem? (i := 274) (by decide +kernel))) rfl
theorem k_275 : Cond.methodLink RX11 99 yX9_size ∈ zall := zall_mem (List.mem_append_right _ (List.mem_of_getElem? (i := 275) (by decide +kernel))) rfl
theorem k_276 : Cond.instanceMethod yX9_size ∈ zall := zall_mem (List.mem_append_right _ (List.mem_of_getElem? (i := 276) (by decide +kernel))) rfl
theorem k_277 : Cond.selects yX9_size.cls yX9_size yX9_size ∈ zall := zall_mem (List.mem_append_right _ (List.mem_of_getElem? (i := 277) (by decide +kernel))) rfl
theorem k_278 : Cond.code yX9_size M_X9_size.2.1 M_X9_size.2.2.1 M_X9_size.2.2.2.1 ∈ zall := zall_mem (List.mem_append_right _ (List.mem_of_getElem? (i := 278) (by decide +kernel))) rfl
theorem k_283 : Cond.methodLink RX11 103 yX3_copyFrom ∈ zall := zall_mem (List.mem_append_right _ (List.mem_of_getElem? (i := 283) (by decide +kernel))) rfl
theorem k_284 : Cond.instanceMethod yX3_copyFrom ∈ zall := zall_mem (List.mem_append_right _ (List.mem_of_getElem? (i := 284) (by decide +kernel))) rfl
theorem k_285 : Cond.selects yX3_copyFrom.cls yX3_copyFrom yX3_copyFrom ∈ zall := zall_mem (List.mem_append_right _ (List.mem_of_getElem? (i := 285) (by decide +kernel))) rfl
theorem k_286 : Cond.code yX3_copyFrom M_X3_copyFrom.2.1 M_X3_copyFrom.2.2.1 M_X3_copyFrom.2.2.2.1 ∈ zall := zall_mem (List.mem_append_right _ (List.mem_of_getElem? (i := 286) (by decide +kernel))) rfl
theorem k_287 : Cond.methodLink RX3 51 yX9_copyFrom ∈ zall := zall_mem (List.mem_append_right _ (List.mem_of_getElem? (i := 287) (by decide +kernel))) rfl
theorem k_288 : Cond.instanceMethod yX9_copyFrom ∈ zall := zall_mem (List.mem_append_right _ (List.mem_of_getElem? (i := 288) (by decide +kernel))) rfl
theorem k_289 : Cond.selects yX9_copyFrom.cls yX9_copyFrom yX9_copyFrom ∈ zall := zall_mem (List.mem_append_right _ (List.mem_of_getElem? (i := 289) (by decide +kernel))) rfl
theorem k_290 : Cond.code yX9_copyFrom M_X9_copyFrom.2.1 M_X9_copyFrom.2.2.1 M_X9_copyFrom.2.2.2.1 ∈ zall := zall_mem (List.mem_append_right _ (List.mem_of_getElem? (i := 290) (by decide +kernel))) rfl
theorem k_291 : Cond.methodLink RX11 107 yX1_tellTo ∈ zall := zall_mem (List.mem_append_right _ (List.mem_of_getElem? (i := 291) (by decide +kernel))) rfl
theorem k_292 : Cond.instanceMethod yX1_tellTo ∈ zall := zall_mem (List.mem_append_right _ (List.mem_of_getElem? (i := 292) (by decide +kernel))) rfl
theorem k_293 : Cond.selects yX1_tellTo.cls yX1_tellTo yX1_tellTo ∈ zall := zall_mem (List.mem_append_right _ (List.mem_of_getElem? (i := 293) (by decide +kernel))) rfl
theorem k_294 : Cond.code yX1_tellTo M_X1_tellTo.2.1 M_X1_tellTo.2.2.1 M_X1_tellTo.2.2.2.1 ∈ zall := zall_mem (List.mem_append_right _ (List.mem_of_getElem? (i := 294) (by decide +kernel))) rfl
theorem k_295 : Cond.methodLink RX1 27 yX1_hasForm ∈ zall := zall_mem (List.mem_append_right _ (List.mem_of_getElem? (i := 295) (by decide +kernel))) rfl
theorem k_297 : Cond.instanceMethod yX1_hasForm ∈ zall := zall_mem (List.mem_append_right _ (List.mem_of_getElem? (i := 297) (by decide +kernel))) rfl
theorem k_298 : Cond.code yX1_hasForm M_X1_hasForm.2.1 M_X1_hasForm.2.2.1 M_X1_hasForm.2.2.2.1 ∈ zall := zall_mem (List.mem_append_right _ (List.mem_of_getElem? (i := 298) (by decide +kernel))) rfl
theorem k_299 : Cond.methodLink RX1 38 yX9_size ∈ zall := zall_mem (List.mem_append_right _ (List.mem_of_getElem? (i := 299) (by decide +kernel))) rfl
theorem k_300 : Cond.methodLink RX1 42 yX1_statementRead ∈ zall := zall_mem (List.mem_append_right _ (List.mem_of_getElem? (i := 300) (by decide +kernel))) rfl
theorem k_302 : Cond.instanceMethod yX1_statementRead ∈ zall := zall_mem (List.mem_append_right _ (List.mem_of_getElem? (i := 302) (by decide +kernel))) rfl
theorem k_303 : Cond.code yX1_statementRead M_X1_statementRead.2.1 M_X1_statementRead.2.2.1 M_X1_statementRead.2.2.2.1 ∈ zall := zall_mem (List.mem_append_right _ (List.mem_of_getElem? (i := 303) (by decide +kernel))) rfl
theorem k_304 : Cond.methodLink RX1 35 yX9_reset ∈ zall := zall_mem (List.mem_append_right _ (List.mem_of_getElem? (i := 304) (by decide +kernel))) rfl
theorem k_305 : Cond.methodLink RX1 45 yX9_at ∈ zall := zall_mem (List.mem_append_right _ (List.mem_of_getElem? (i := 305) (by decide +kernel))) rfl
theorem k_306 : Cond.methodLink RX1 53 yX1_formOf ∈ zall := zall_mem (List.mem_append_right _ (List.mem_of_getElem? (i := 306) (by decide +kernel))) rfl
theorem k_307 : Cond.static yX1_formOf ∈ zall := zall_mem (List.mem_append_right _ (List.mem_of_getElem? (i := 307) (by decide +kernel))) rfl
theorem k_308 : Cond.code yX1_formOf M_X1_formOf.2.1 M_X1_formOf.2.2.1 M_X1_formOf.2.2.2.1 ∈ zall := zall_mem (List.mem_append_right _ (List.mem_of_getElem? (i := 308) (by decide +kernel))) rfl
theorem k_316 : Cond.methodLink RX1 57 yJ0_length_8abf5 ∈ zall := zall_mem (List.mem_append_right _ (List.mem_of_getElem? (i := 316) (by decide +kernel))) rfl
theorem k_317 : Cond.instanceMethod yJ0_length_8abf5 ∈ zall := zall_mem (List.mem_append_right _ (List.mem_of_getElem? (i := 317) (by decide +kernel))) rfl
theorem k_318 : Cond.selects yJ0_length_8abf5.cls yJ0_length_8abf5 yJ0_length_8abf5 ∈ zall := zall_mem (List.mem_append_right _ (List.mem_of_getElem? (i := 318) (by decide +kernel))) rfl
theorem k_319 : Cond.code yJ0_length_8abf5 M_J0_length_8abf5.2.1 M_J0_length_8abf5.2.2.1 M_J0_length_8abf5.2.2.2.1 ∈ zall := zall_mem (List.mem_append_right _ (List.mem_of_getElem? (i := 319) (by decide +kernel))) rfl
theorem k_326 : Cond.methodLink RX1 62 yJ0_charAt_5068e ∈ zall := zall_mem (List.mem_append_right _ (List.mem_of_getElem? (i := 326) (by decide +kernel))) rfl
theorem k_327 : Cond.instanceMethod yJ0_charAt_5068e ∈ zall := zall_mem (List.mem_append_right _ (List.mem_of_getElem? (i := 327) (by decide +kernel))) rfl
theorem k_328 : Cond.selects yJ0_charAt_5068e.cls yJ0_charAt_5068e yJ0_charAt_5068e ∈ zall := zall_mem (List.mem_append_right _ (List.mem_of_getElem? (i := 328) (by decide +kernel))) rfl
theorem k_329 : Cond.code yJ0_charAt_5068e M_J0_charAt_5068e.2.1 M_J0_charAt_5068e.2.2.1 M_J0_charAt_5068e.2.2.2.1 ∈ zall := zall_mem (List.mem_append_right _ (List.mem_of_getElem? (i := 329) (by decide +kernel))) rfl
theorem k_364 : Cond.methodLink RX1 66 yX1_signRead ∈ zall := zall_mem (List.mem_append_right _ (List.mem_of_getElem? (i := 364) (by decide +kernel))) rfl
theorem k_366 : Cond.instanceMethod yX1_signRead ∈ zall := zall_mem (List.mem_append_right _ (List.mem_of_getElem? (i := 366) (by decide +kernel))) rfl
theorem k_367 : Cond.code yX1_signRead M_X1_signRead.2.1 M_X1_signRead.2.2.1 M_X1_signRead.2.2.2.1 ∈ zall := zall_mem (List.mem_append_right _ (List.mem_of_getElem? (i := 367) (by decide +kernel))) rfl
theorem k_368 : Cond.methodLink RX1 87 yX1_numberRead ∈ zall := zall_mem (List.mem_append_right _ (List.mem_of_getElem? (i := 368) (by decide +kernel))) rfl
theorem k_370 : Cond.instanceMethod yX1_numberRead ∈ zall := zall_mem (List.mem_append_right _ (List.mem_of_getElem? (i := 370) (by decide +kernel))) rfl
theorem k_371 : Cond.code yX1_numberRead M_X1_numberRead.2.1 M_X1_numberRead.2.2.1 M_X1_numberRead.2.2.2.1 ∈ zall := zall_mem (List.mem_append_right _ (List.mem_of_getElem? (i := 371) (by decide +kernel))) rfl
theorem k_372 : Cond.methodLink RX1 94 yX9_add ∈ zall := zall_mem (List.mem_append_right _ (List.mem_of_getElem? (i := 372) (by decide +kernel))) rfl
theorem k_373 : Cond.methodLink RX1 91 yX1_shapeRead ∈ zall := zall_mem (List.mem_append_right _ (List.mem_of_getElem? (i := 373) (by decide +kernel))) rfl
theorem k_375 : Cond.instanceMethod yX1_shapeRead ∈ zall := zall_mem (List.mem_append_right _ (List.mem_of_getElem? (i := 375) (by decide +kernel))) rfl
theorem k_376 : Cond.code yX1_shapeRead M_X1_shapeRead.2.1 M_X1_shapeRead.2.2.1 M_X1_shapeRead.2.2.2.1 ∈ zall := zall_mem (List.mem_append_right _ (List.mem_of_getElem? (i := 376) (by decide +kernel))) rfl
theorem k_377 : Cond.methodLink RX1 70 yJ0_isEmpty_aae02 ∈ zall := zall_mem (List.mem_append_right _ (List.mem_of_getElem? (i := 377) (by decide +kernel))) rfl
theorem k_378 : Cond.instanceMethod yJ0_isEmpty_aae02 ∈ zall := zall_mem (List.mem_append_right _ (List.mem_of_getElem? (i := 378) (by decide +kernel))) rfl
theorem k_379 : Cond.selects yJ0_isEmpty_aae02.cls yJ0_isEmpty_aae02 yJ0_isEmpty_aae02 ∈ zall := zall_mem (List.mem_append_right _ (List.mem_of_getElem? (i := 379) (by decide +kernel))) rfl
theorem k_380 : Cond.code yJ0_isEmpty_aae02 M_J0_isEmpty_aae02.2.1 M_J0_isEmpty_aae02.2.2.1 M_J0_isEmpty_aae02.2.2.2.1 ∈ zall := zall_mem (List.mem_append_right _ (List.mem_of_getElem? (i := 380) (by decide +kernel))) rfl
theorem k_381 : Cond.methodLink RX1 31 yX1_statementsTo ∈ zall := zall_mem (List.mem_append_right _ (List.mem_of_getElem? (i := 381) (by decide +kernel))) rfl
theorem k_383 : Cond.instanceMethod yX1_statementsTo ∈ zall := zall_mem (List.mem_append_right _ (List.mem_of_getElem? (i := 383) (by decide +kernel))) rfl
theorem k_384 : Cond.code yX1_statementsTo M_X1_statementsTo.2.1 M_X1_statementsTo.2.2.1 M_X1_statementsTo.2.2.2.1 ∈ zall := zall_mem (List.mem_append_right _ (List.mem_of_getElem? (i := 384) (by decide +kernel))) rfl
theorem k_385 : Cond.methodLink RX1 49 yX1_statementCame ∈ zall := zall_mem (List.mem_append_right _ (List.mem_of_getElem? (i := 385) (by decide +kernel))) rfl
theorem k_387 : Cond.instanceMethod yX1_statementCame ∈ zall := zall_mem (List.mem_append_right _ (List.mem_of_getElem? (i := 387) (by decide +kernel))) rfl
theorem k_388 : Cond.code yX1_statementCame M_X1_statementCame.2.1 M_X1_statementCame.2.2.1 M_X1_statementCame.2.2.2.1 ∈ zall := zall_mem (List.mem_append_right _ (List.mem_of_getElem? (i := 388) (by decide +kernel))) rfl
theorem k_389 : Cond.methodLink RX1 98 yX1_forCame ∈ zall := zall_mem (List.mem_append_right _ (List.mem_of_getElem? (i := 389) (by decide +kernel))) rfl
theorem k_391 : Cond.instanceMethod yX1_forCame ∈ zall := zall_mem (List.mem_append_right _ (List.mem_of_getElem? (i := 391) (by decide +kernel))) rfl
theorem k_392 : Cond.code yX1_forCame M_X1_forCame.2.1 M_X1_forCame.2.2.1 M_X1_forCame.2.2.2.1 ∈ zall := zall_mem (List.mem_append_right _ (List.mem_of_getElem? (i := 392) (by decide +kernel))) rfl
theorem k_393 : Cond.methodLink RX1 117 yX1_within ∈ zall := zall_mem (List.mem_append_right _ (List.mem_of_getElem? (i := 393) (by decide +kernel))) rfl
theorem k_395 : Cond.instanceMethod yX1_within ∈ zall := zall_mem (List.mem_append_right _ (List.mem_of_getElem? (i := 395) (by decide +kernel))) rfl
theorem k_396 : Cond.code yX1_within M_X1_within.2.1 M_X1_within.2.2.1 M_X1_within.2.2.2.1 ∈ zall := zall_mem (List.mem_append_right _ (List.mem_of_getElem? (i := 396) (by decide +kernel))) rfl
theorem k_397 : Cond.methodLink RX1 121 yX1_number ∈ zall := zall_mem (List.mem_append_right _ (List.mem_of_getElem? (i := 397) (by decide +kernel))) rfl
theorem k_399 : Cond.instanceMethod yX1_number ∈ zall := zall_mem (List.mem_append_right _ (List.mem_of_getElem? (i := 399) (by decide +kernel))) rfl
theorem k_400 : Cond.code yX1_number M_X1_number.2.1 M_X1_number.2.2.1 M_X1_number.2.2.2.1 ∈ zall := zall_mem (List.mem_append_right _ (List.mem_of_getElem? (i := 400) (by decide +kernel))) rfl
theorem k_401 : Cond.methodLink RX1 102 yX1_partCame ∈ zall := zall_mem (List.mem_append_right _ (List.mem_of_getElem? (i := 401) (by decide +kernel))) rfl
theorem k_403 : Cond.instanceMethod yX1_partCame ∈ zall := zall_mem (List.mem_append_right _ (List.mem_of_getElem? (i := 403) (by decide +kernel))) rfl
theorem k_404 : Cond.code yX1_partCame M_X1_partCame.2.1 M_X1_partCame.2.2.1 M_X1_partCame.2.2.2.1 ∈ zall := zall_mem (List.mem_append_right _ (List.mem_of_getElem? (i := 404) (by decide +kernel))) rfl
theorem k_405 : Cond.methodLink RX1 132 yX1_lineCame ∈ zall := zall_mem (List.mem_append_right _ (List.mem_of_getElem? (i := 405) (by decide +kernel))) rfl
theorem k_407 : Cond.instanceMethod yX1_lineCame ∈ zall := zall_mem (List.mem_append_right _ (List.mem_of_getElem? (i := 407) (by decide +kernel))) rfl
theorem k_408 : Cond.code yX1_lineCame M_X1_lineCame.2.1 M_X1_lineCame.2.2.1 M_X1_lineCame.2.2.2.1 ∈ zall := zall_mem (List.mem_append_right _ (List.mem_of_getElem? (i := 408) (by decide +kernel))) rfl
theorem k_409 : Cond.methodLink RX1 140 yX9_put ∈ zall := zall_mem (List.mem_append_right _ (List.mem_of_getElem? (i := 409) (by decide +kernel))) rfl
theorem k_410 : Cond.methodLink RX1 105 yX1_houseCame ∈ zall := zall_mem (List.mem_append_right _ (List.mem_of_getElem? (i := 410) (by decide +kernel))) rfl
theorem k_412 : Cond.instanceMethod yX1_houseCame ∈ zall := zall_mem (List.mem_append_right _ (List.mem_of_getElem? (i := 412) (by decide +kernel))) rfl
theorem k_413 : Cond.code yX1_houseCame M_X1_houseCame.2.1 M_X1_houseCame.2.2.1 M_X1_houseCame.2.2.2.1 ∈ zall := zall_mem (List.mem_append_right _ (List.mem_of_getElem? (i := 413) (by decide +kernel))) rfl
theorem k_414 : Cond.methodLink RX1 136 yX9_has ∈ zall := zall_mem (List.mem_append_right _ (List.mem_of_getElem? (i := 414) (by decide +kernel))) rfl
theorem k_415 : Cond.instanceMethod yX9_has ∈ zall := zall_mem (List.mem_append_right _ (List.mem_of_getElem? (i := 415) (by decide +kernel))) rfl
theorem k_416 : Cond.selects yX9_has.cls yX9_has yX9_has ∈ zall := zall_mem (List.mem_append_right _ (List.mem_of_getElem? (i := 416) (by decide +kernel))) rfl
theorem k_417 : Cond.code yX9_has M_X9_has.2.1 M_X9_has.2.2.1 M_X9_has.2.2.2.1 ∈ zall := zall_mem (List.mem_append_right _ (List.mem_of_getElem? (i := 417) (by decide +kernel))) rfl
theorem k_418 : Cond.methodLink RX1 108 yX1_tinCame ∈ zall := zall_mem (List.mem_append_right _ (List.mem_of_getElem? (i := 418) (by decide +kernel))) rfl
theorem k_420 : Cond.instanceMethod yX1_tinCame ∈ zall := zall_mem (List.mem_append_right _ (List.mem_of_getElem? (i := 420) (by decide +kernel))) rfl
theorem k_421 : Cond.code yX1_tinCame M_X1_tinCame.2.1 M_X1_tinCame.2.2.1 M_X1_tinCame.2.2.2.1 ∈ zall := zall_mem (List.mem_append_right _ (List.mem_of_getElem? (i := 421) (by decide +kernel))) rfl
theorem k_422 : Cond.methodLink RX1 111 yX1_standInCame ∈ zall := zall_mem (List.mem_append_right _ (List.mem_of_getElem? (i := 422) (by decide +kernel))) rfl
theorem k_424 : Cond.instanceMethod yX1_standInCame ∈ zall := zall_mem (List.mem_append_right _ (List.mem_of_getElem? (i := 424) (by decide +kernel))) rfl
theorem k_425 : Cond.code yX1_standInCame M_X1_standInCame.2.1 M_X1_standInCame.2.2.1 M_X1_standInCame.2.2.2.1 ∈ zall := zall_mem (List.mem_append_right _ (List.mem_of_getElem? (i := 425) (by decide +kernel))) rfl
theorem k_426 : Cond.methodLink RX1 150 yX1_standsInAlready ∈ zall := zall_mem (List.mem_append_right _ (List.mem_of_getElem? (i := 426) (by decide +kernel))) rfl
theorem k_427 : Cond.static yX1_standsInAlready ∈ zall := zall_mem (List.mem_append_right _ (List.mem_of_getElem? (i := 427) (by decide +kernel))) rfl
theorem k_428 : Cond.code yX1_standsInAlready M_X1_standsInAlready.2.1 M_X1_standsInAlready.2.2.1 M_X1_standsInAlready.2.2.2.1 ∈ zall := zall_mem (List.mem_append_right _ (List.mem_of_getElem? (i := 428) (by decide +kernel))) rfl
theorem k_429 : Cond.methodLink RX1 114 yX1_cupsCame ∈ zall := zall_mem (List.mem_append_right _ (List.mem_of_getElem? (i := 429) (by decide +kernel))) rfl
theorem k_431 : Cond.instanceMethod yX1_cupsCame ∈ zall := zall_mem (List.mem_append_right _ (List.mem_of_getElem? (i := 431) (by decide +kernel))) rfl
theorem k_432 : Cond.code yX1_cupsCame M_X1_cupsCame.2.1 M_X1_cupsCame.2.2.1 M_X1_cupsCame.2.2.2.1 ∈ zall := zall_mem (List.mem_append_right _ (List.mem_of_getElem? (i := 432) (by decide +kernel))) rfl
theorem k_438 : Cond.methodLink RX11 111 yX11_noPart ∈ zall := zall_mem (List.mem_append_right _ (List.mem_of_getElem? (i := 438) (by decide +kernel))) rfl
theorem k_440 : Cond.instanceMethod yX11_noPart ∈ zall := zall_mem (List.mem_append_right _ (List.mem_of_getElem? (i := 440) (by decide +kernel))) rfl
theorem k_441 : Cond.code yX11_noPart M_X11_noPart.2.1 M_X11_noPart.2.2.1 M_X11_noPart.2.2.2.1 ∈ zall := zall_mem (List.mem_append_right _ (List.mem_of_getElem? (i := 441) (by decide +kernel))) rfl
theorem k_442 : Cond.methodLink RX11 191 yX11_noSuch ∈ zall := zall_mem (List.mem_append_right _ (List.mem_of_getElem? (i := 442) (by decide +kernel))) rfl
theorem k_443 : Cond.static yX11_noSuch ∈ zall := zall_mem (List.mem_append_right _ (List.mem_of_getElem? (i := 443) (by decide +kernel))) rfl
theorem k_444 : Cond.code yX11_noSuch M_X11_noSuch.2.1 M_X11_noSuch.2.2.1 M_X11_noSuch.2.2.2.1 ∈ zall := zall_mem (List.mem_append_right _ (List.mem_of_getElem? (i := 444) (by decide +kernel))) rfl
theorem k_445 : Cond.methodLink RX11 352 yX9_has ∈ zall := zall_mem (List.mem_append_right _ (List.mem_of_getElem? (i := 445) (by decide +kernel))) rfl
theorem k_446 : Cond.methodLink RX11 114 yX11_noChoice ∈ zall := zall_mem (List.mem_append_right _ (List.mem_of_getElem? (i := 446) (by decide +kernel))) rfl
theorem k_447 : Cond.static yX11_noChoice ∈ zall := zall_mem (List.mem_append_right _ (List.mem_of_getElem? (i := 447) (by decide +kernel))) rfl
theorem k_448 : Cond.code yX11_noChoice M_X11_noChoice.2.1 M_X11_noChoice.2.2.1 M_X11_noChoice.2.2.2.1 ∈ zall := zall_mem (List.mem_append_right _ (List.mem_of_getElem? (i := 448) (by decide +kernel))) rfl
theorem k_449 : Cond.methodLink RX11 117 yX3_takenNow ∈ zall := zall_mem (List.mem_append_right _ (List.mem_of_getElem? (i := 449) (by decide +kernel))) rfl
theorem k_450 : Cond.instanceMethod yX3_takenNow ∈ zall := zall_mem (List.mem_append_right _ (List.mem_of_getElem? (i := 450) (by decide +kernel))) rfl
theorem k_451 : Cond.selects yX3_takenNow.cls yX3_takenNow yX3_takenNow ∈ zall := zall_mem (List.mem_append_right _ (List.mem_of_getElem? (i := 451) (by decide +kernel))) rfl
theorem k_452 : Cond.code yX3_takenNow M_X3_takenNow.2.1 M_X3_takenNow.2.2.1 M_X3_takenNow.2.2.2.1 ∈ zall := zall_mem (List.mem_append_right _ (List.mem_of_getElem? (i := 452) (by decide +kernel))) rfl
theorem k_453 : Cond.methodLink RX3 80 yX3_taken ∈ zall := zall_mem (List.mem_append_right _ (List.mem_of_getElem? (i := 453) (by decide +kernel))) rfl
theorem k_454 : Cond.instanceMethod yX3_taken ∈ zall := zall_mem (List.mem_append_right _ (List.mem_of_getElem? (i := 454) (by decide +kernel))) rfl
theorem k_455 : Cond.selects yX3_taken.cls yX3_taken yX3_taken ∈ zall := zall_mem (List.mem_append_right _ (List.mem_of_getElem? (i := 455) (by decide +kernel))) rfl
theorem k_456 : Cond.code yX3_taken M_X3_taken.2.1 M_X3_taken.2.2.1 M_X3_taken.2.2.2.1 ∈ zall := zall_mem (List.mem_append_right _ (List.mem_of_getElem? (i := 456) (by decide +kernel))) rfl
theorem k_457 : Cond.methodLink RX3 59 yX9_at ∈ zall := zall_mem (List.mem_append_right _ (List.mem_of_getElem? (i := 457) (by decide +kernel))) rfl
theorem k_458 : Cond.methodLink RX3 63 yX8_nearest ∈ zall := zall_mem (List.mem_append_right _ (List.mem_of_getElem? (i := 458) (by decide +kernel))) rfl
theorem k_459 : Cond.static yX8_nearest ∈ zall := zall_mem (List.mem_append_right _ (List.mem_of_getElem? (i := 459) (by decide +kernel))) rfl
theorem k_460 : Cond.code yX8_nearest M_X8_nearest.2.1 M_X8_nearest.2.2.1 M_X8_nearest.2.2.2.1 ∈ zall := zall_mem (List.mem_append_right _ (List.mem_of_getElem? (i := 460) (by decide +kernel))) rfl
theorem k_461 : Cond.methodLink RX3 68 Lib.Math.max.name ∈ zall := zall_mem (List.mem_append_right _ (List.mem_of_getElem? (i := 461) (by decide +kernel))) rfl
theorem k_462 : Cond.methodLink RX3 73 yX8_roundedUp ∈ zall := zall_mem (List.mem_append_right _ (List.mem_of_getElem? (i := 462) (by decide +kernel))) rfl
theorem k_463 : Cond.static yX8_roundedUp ∈ zall := zall_mem (List.mem_append_right _ (List.mem_of_getElem? (i := 463) (by decide +kernel))) rfl
theorem k_464 : Cond.code yX8_roundedUp M_X8_roundedUp.2.1 M_X8_roundedUp.2.2.1 M_X8_roundedUp.2.2.2.1 ∈ zall := zall_mem (List.mem_append_right _ (List.mem_of_getElem? (i := 464) (by decide +kernel))) rfl
theorem k_465 : Cond.methodLink RX3 76 Lib.Math.abs.name ∈ zall := zall_mem (List.mem_append_right _ (List.mem_of_getElem? (i := 465) (by decide +kernel))) rfl
theorem k_466 : Cond.static Lib.Math.abs.name ∈ zall := zall_mem (List.mem_append_right _ (List.mem_of_getElem? (i := 466) (by decide +kernel))) rfl
theorem k_467 : Cond.code Lib.Math.abs.name Lib.Math.abs.code 1 (some .int) ∈ zall := zall_mem (List.mem_append_right _ (List.mem_of_getElem? (i := 467) (by decide +kernel))) rfl
theorem k_468 : Cond.methodLink RX11 120 yX3_left ∈ zall := zall_mem (List.mem_append_right _ (List.mem_of_getElem? (i := 468) (by decide +kernel))) rfl
theorem k_469 : Cond.instanceMethod yX3_left ∈ zall := zall_mem (List.mem_append_right _ (List.mem_of_getElem? (i := 469) (by decide +kernel))) rfl
theorem k_470 : Cond.selects yX3_left.cls yX3_left yX3_left ∈ zall := zall_mem (List.mem_append_right _ (List.mem_of_getElem? (i := 470) (by decide +kernel))) rfl
theorem k_471 : Cond.code yX3_left M_X3_left.2.1 M_X3_left.2.2.1 M_X3_left.2.2.2.1 ∈ zall := zall_mem (List.mem_append_right _ (List.mem_of_getElem? (i := 471) (by decide +kernel))) rfl
theorem k_472 : Cond.methodLink RX3 93 yX3_takenNow ∈ zall := zall_mem (List.mem_append_right _ (List.mem_of_getElem? (i := 472) (by decide +kernel))) rfl
theorem k_477 : Cond.methodLink RX11 129 yX11_refused__ ∈ zall := zall_mem (List.mem_append_right _ (List.mem_of_getElem? (i := 477) (by decide +kernel))) rfl
theorem k_479 : Cond.instanceMethod yX11_refused__ ∈ zall := zall_mem (List.mem_append_right _ (List.mem_of_getElem? (i := 479) (by decide +kernel))) rfl
theorem k_480 : Cond.code yX11_refused__ M_X11_refused__.2.1 M_X11_refused__.2.2.1 M_X11_refused__.2.2.2.1 ∈ zall := zall_mem (List.mem_append_right _ (List.mem_of_getElem? (i := 480) (by decide +kernel))) rfl
theorem k_481 : Cond.methodLink RX11 139 yX9_dropFirst ∈ zall := zall_mem (List.mem_append_right _ (List.mem_of_getElem? (i := 481) (by decide +kernel))) rfl
theorem k_482 : Cond.instanceMethod yX9_dropFirst ∈ zall := zall_mem (List.mem_append_right _ (List.mem_of_getElem? (i := 482) (by decide +kernel))) rfl
theorem k_483 : Cond.selects yX9_dropFirst.cls yX9_dropFirst yX9_dropFirst ∈ zall := zall_mem (List.mem_append_right _ (List.mem_of_getElem? (i := 483) (by decide +kernel))) rfl
theorem k_484 : Cond.code yX9_dropFirst M_X9_dropFirst.2.1 M_X9_dropFirst.2.2.1 M_X9_dropFirst.2.2.2.1 ∈ zall := zall_mem (List.mem_append_right _ (List.mem_of_getElem? (i := 484) (by decide +kernel))) rfl
theorem k_485 : Cond.methodLink RX9 31 yX9_at ∈ zall := zall_mem (List.mem_append_right _ (List.mem_of_getElem? (i := 485) (by decide +kernel))) rfl
theorem k_486 : Cond.methodLink RX9 34 yX9_put ∈ zall := zall_mem (List.mem_append_right _ (List.mem_of_getElem? (i := 486) (by decide +kernel))) rfl
theorem k_487 : Cond.methodLink RX9 38 yX9_dropLast ∈ zall := zall_mem (List.mem_append_right _ (List.mem_of_getElem? (i := 487) (by decide +kernel))) rfl
theorem k_488 : Cond.instanceMethod yX9_dropLast ∈ zall := zall_mem (List.mem_append_right _ (List.mem_of_getElem? (i := 488) (by decide +kernel))) rfl
theorem k_489 : Cond.selects yX9_dropLast.cls yX9_dropLast yX9_dropLast ∈ zall := zall_mem (List.mem_append_right _ (List.mem_of_getElem? (i := 489) (by decide +kernel))) rfl
theorem k_490 : Cond.code yX9_dropLast M_X9_dropLast.2.1 M_X9_dropLast.2.2.1 M_X9_dropLast.2.2.2.1 ∈ zall := zall_mem (List.mem_append_right _ (List.mem_of_getElem? (i := 490) (by decide +kernel))) rfl
theorem k_495 : Cond.methodLink RX11 142 yX11_partBecomes ∈ zall := zall_mem (List.mem_append_right _ (List.mem_of_getElem? (i := 495) (by decide +kernel))) rfl
theorem k_497 : Cond.instanceMethod yX11_partBecomes ∈ zall := zall_mem (List.mem_append_right _ (List.mem_of_getElem? (i := 497) (by decide +kernel))) rfl
theorem k_498 : Cond.code yX11_partBecomes M_X11_partBecomes.2.1 M_X11_partBecomes.2.2.1 M_X11_partBecomes.2.2.2.1 ∈ zall := zall_mem (List.mem_append_right _ (List.mem_of_getElem? (i := 498) (by decide +kernel))) rfl
theorem k_499 : Cond.methodLink RX11 221 yX9_exchange ∈ zall := zall_mem (List.mem_append_right _ (List.mem_of_getElem? (i := 499) (by decide +kernel))) rfl
theorem k_500 : Cond.instanceMethod yX9_exchange ∈ zall := zall_mem (List.mem_append_right _ (List.mem_of_getElem? (i := 500) (by decide +kernel))) rfl
theorem k_501 : Cond.selects yX9_exchange.cls yX9_exchange yX9_exchange ∈ zall := zall_mem (List.mem_append_right _ (List.mem_of_getElem? (i := 501) (by decide +kernel))) rfl
theorem k_502 : Cond.code yX9_exchange M_X9_exchange.2.1 M_X9_exchange.2.2.1 M_X9_exchange.2.2.2.1 ∈ zall := zall_mem (List.mem_append_right _ (List.mem_of_getElem? (i := 502) (by decide +kernel))) rfl
theorem k_511 : Cond.constantLong RX11 152 (4000000000000000000) ∈ zall := zall_mem (List.mem_append_right _ (List.mem_of_getElem? (i := 511) (by decide +kernel))) rfl
theorem k_512 : Cond.methodLink RX11 157 yX8_inLeastTerms ∈ zall := zall_mem (List.mem_append_right _ (List.mem_of_getElem? (i := 512) (by decide +kernel))) rfl
theorem k_513 : Cond.static yX8_inLeastTerms ∈ zall := zall_mem (List.mem_append_right _ (List.mem_of_getElem? (i := 513) (by decide +kernel))) rfl
theorem k_514 : Cond.code yX8_inLeastTerms M_X8_inLeastTerms.2.1 M_X8_inLeastTerms.2.2.1 M_X8_inLeastTerms.2.2.2.1 ∈ zall := zall_mem (List.mem_append_right _ (List.mem_of_getElem? (i := 514) (by decide +kernel))) rfl
theorem k_515 : Cond.methodLink RX8 7 yX8_commonDivisor ∈ zall := zall_mem (List.mem_append_right _ (List.mem_of_getElem? (i := 515) (by decide +kernel))) rfl
theorem k_516 : Cond.static yX8_commonDivisor ∈ zall := zall_mem (List.mem_append_right _ (List.mem_of_getElem? (i := 516) (by decide +kernel))) rfl
theorem k_517 : Cond.code yX8_commonDivisor M_X8_commonDivisor.2.1 M_X8_commonDivisor.2.2.1 M_X8_commonDivisor.2.2.2.1 ∈ zall := zall_mem (List.mem_append_right _ (List.mem_of_getElem? (i := 517) (by decide +kernel))) rfl
theorem k_518 : Cond.methodLink RX8 16 yX8_rest ∈ zall := zall_mem (List.mem_append_right _ (List.mem_of_getElem? (i := 518) (by decide +kernel))) rfl
theorem k_519 : Cond.static yX8_rest ∈ zall := zall_mem (List.mem_append_right _ (List.mem_of_getElem? (i := 519) (by decide +kernel))) rfl
theorem k_520 : Cond.code yX8_rest M_X8_rest.2.1 M_X8_rest.2.2.1 M_X8_rest.2.2.2.1 ∈ zall := zall_mem (List.mem_append_right _ (List.mem_of_getElem? (i := 520) (by decide +kernel))) rfl
theorem k_521 : Cond.methodLink RX8 13 yX8_cut ∈ zall := zall_mem (List.mem_append_right _ (List.mem_of_getElem? (i := 521) (by decide +kernel))) rfl
theorem k_522 : Cond.static yX8_cut ∈ zall := zall_mem (List.mem_append_right _ (List.mem_of_getElem? (i := 522) (by decide +kernel))) rfl
theorem k_523 : Cond.code yX8_cut M_X8_cut.2.1 M_X8_cut.2.2.1 M_X8_cut.2.2.2.1 ∈ zall := zall_mem (List.mem_append_right _ (List.mem_of_getElem? (i := 523) (by decide +kernel))) rfl
theorem k_528 : Cond.methodLink RX11 162 yX3_allOff ∈ zall := zall_mem (List.mem_append_right _ (List.mem_of_getElem? (i := 528) (by decide +kernel))) rfl
theorem k_529 : Cond.instanceMethod yX3_allOff ∈ zall := zall_mem (List.mem_append_right _ (List.mem_of_getElem? (i := 529) (by decide +kernel))) rfl
theorem k_530 : Cond.selects yX3_allOff.cls yX3_allOff yX3_allOff ∈ zall := zall_mem (List.mem_append_right _ (List.mem_of_getElem? (i := 530) (by decide +kernel))) rfl
theorem k_531 : Cond.code yX3_allOff M_X3_allOff.2.1 M_X3_allOff.2.2.1 M_X3_allOff.2.2.2.1 ∈ zall := zall_mem (List.mem_append_right _ (List.mem_of_getElem? (i := 531) (by decide +kernel))) rfl
theorem k_532 : Cond.methodLink RX3 55 yX9_size ∈ zall := zall_mem (List.mem_append_right _ (List.mem_of_getElem? (i := 532) (by decide +kernel))) rfl
theorem k_533 : Cond.methodLink RX3 87 yX3_offAtCost ∈ zall := zall_mem (List.mem_append_right _ (List.mem_of_getElem? (i := 533) (by decide +kernel))) rfl
theorem k_534 : Cond.instanceMethod yX3_offAtCost ∈ zall := zall_mem (List.mem_append_right _ (List.mem_of_getElem? (i := 534) (by decide +kernel))) rfl
theorem k_535 : Cond.selects yX3_offAtCost.cls yX3_offAtCost yX3_offAtCost ∈ zall := zall_mem (List.mem_append_right _ (List.mem_of_getElem? (i := 535) (by decide +kernel))) rfl
theorem k_536 : Cond.code yX3_offAtCost M_X3_offAtCost.2.1 M_X3_offAtCost.2.2.1 M_X3_offAtCost.2.2.2.1 ∈ zall := zall_mem (List.mem_append_right _ (List.mem_of_getElem? (i := 536) (by decide +kernel))) rfl
theorem k_537 : Cond.methodLink RX3 84 yX3_offBy ∈ zall := zall_mem (List.mem_append_right _ (List.mem_of_getElem? (i := 537) (by decide +kernel))) rfl
theorem k_538 : Cond.instanceMethod yX3_offBy ∈ zall := zall_mem (List.mem_append_right _ (List.mem_of_getElem? (i := 538) (by decide +kernel))) rfl
theorem k_539 : Cond.selects yX3_offBy.cls yX3_offBy yX3_offBy ∈ zall := zall_mem (List.mem_append_right _ (List.mem_of_getElem? (i := 539) (by decide +kernel))) rfl
theorem k_540 : Cond.code yX3_offBy M_X3_offBy.2.1 M_X3_offBy.2.2.1 M_X3_offBy.2.2.2.1 ∈ zall := zall_mem (List.mem_append_right _ (List.mem_of_getElem? (i := 540) (by decide +kernel))) rfl
theorem k_541 : Cond.methodLink RX11 165 yX3_offAtCost ∈ zall := zall_mem (List.mem_append_right _ (List.mem_of_getElem? (i := 541) (by decide +kernel))) rfl
theorem k_546 : Cond.methodLink RX11 172 yX6_leastOff ∈ zall := zall_mem (List.mem_append_right _ (List.mem_of_getElem? (i := 546) (by decide +kernel))) rfl
theorem k_547 : Cond.static yX6_leastOff ∈ zall := zall_mem (List.mem_append_right _ (List.mem_of_getElem? (i := 547) (by decide +kernel))) rfl
theorem k_548 : Cond.code yX6_leastOff M_X6_leastOff.2.1 M_X6_leastOff.2.2.1 M_X6_leastOff.2.2.2.1 ∈ zall := zall_mem (List.mem_append_right _ (List.mem_of_getElem? (i := 548) (by decide +kernel))) rfl
theorem k_549 : Cond.methodLink RX6 9 yX3_allOff ∈ zall := zall_mem (List.mem_append_right _ (List.mem_of_getElem? (i := 549) (by decide +kernel))) rfl
theorem k_554 : Cond.methodLink RX11 178 yX6_comesOut ∈ zall := zall_mem (List.mem_append_right _ (List.mem_of_getElem? (i := 554) (by decide +kernel))) rfl
theorem k_555 : Cond.static yX6_comesOut ∈ zall := zall_mem (List.mem_append_right _ (List.mem_of_getElem? (i := 555) (by decide +kernel))) rfl
theorem k_556 : Cond.code yX6_comesOut M_X6_comesOut.2.1 M_X6_comesOut.2.2.1 M_X6_comesOut.2.2.2.1 ∈ zall := zall_mem (List.mem_append_right _ (List.mem_of_getElem? (i := 556) (by decide +kernel))) rfl
theorem k_557 : Cond.methodLink RX6 15 yX6_noneIsOff ∈ zall := zall_mem (List.mem_append_right _ (List.mem_of_getElem? (i := 557) (by decide +kernel))) rfl
theorem k_558 : Cond.static yX6_noneIsOff ∈ zall := zall_mem (List.mem_append_right _ (List.mem_of_getElem? (i := 558) (by decide +kernel))) rfl
theorem k_559 : Cond.code yX6_noneIsOff M_X6_noneIsOff.2.1 M_X6_noneIsOff.2.2.1 M_X6_noneIsOff.2.2.2.1 ∈ zall := zall_mem (List.mem_append_right _ (List.mem_of_getElem? (i := 559) (by decide +kernel))) rfl
theorem k_560 : Cond.methodLink RX6 25 yX9_size ∈ zall := zall_mem (List.mem_append_right _ (List.mem_of_getElem? (i := 560) (by decide +kernel))) rfl
theorem k_561 : Cond.methodLink RX6 35 yX3_offBy ∈ zall := zall_mem (List.mem_append_right _ (List.mem_of_getElem? (i := 561) (by decide +kernel))) rfl
theorem k_566 : Cond.methodLink RX11 182 yX6_bestScale ∈ zall := zall_mem (List.mem_append_right _ (List.mem_of_getElem? (i := 566) (by decide +kernel))) rfl
theorem k_567 : Cond.static yX6_bestScale ∈ zall := zall_mem (List.mem_append_right _ (List.mem_of_getElem? (i := 567) (by decide +kernel))) rfl
theorem k_568 : Cond.code yX6_bestScale M_X6_bestScale.2.1 M_X6_bestScale.2.2.1 M_X6_bestScale.2.2.2.1 ∈ zall := zall_mem (List.mem_append_right _ (List.mem_of_getElem? (i := 568) (by decide +kernel))) rfl
theorem k_569 : Cond.methodLink RX6 39 yX3_greatestOff ∈ zall := zall_mem (List.mem_append_right _ (List.mem_of_getElem? (i := 569) (by decide +kernel))) rfl
theorem k_570 : Cond.instanceMethod yX3_greatestOff ∈ zall := zall_mem (List.mem_append_right _ (List.mem_of_getElem? (i := 570) (by decide +kernel))) rfl
theorem k_571 : Cond.selects yX3_greatestOff.cls yX3_greatestOff yX3_greatestOff ∈ zall := zall_mem (List.mem_append_right _ (List.mem_of_getElem? (i := 571) (by decide +kernel))) rfl
theorem k_572 : Cond.code yX3_greatestOff M_X3_greatestOff.2.1 M_X3_greatestOff.2.2.1 M_X3_greatestOff.2.2.2.1 ∈ zall := zall_mem (List.mem_append_right _ (List.mem_of_getElem? (i := 572) (by decide +kernel))) rfl
theorem k_573 : Cond.methodLink RX11 185 yX3_greatestOff ∈ zall := zall_mem (List.mem_append_right _ (List.mem_of_getElem? (i := 573) (by decide +kernel))) rfl
theorem k_578 : Cond.methodLink RX11 195 yX10_area ∈ zall := zall_mem (List.mem_append_right _ (List.mem_of_getElem? (i := 578) (by decide +kernel))) rfl
theorem k_579 : Cond.static yX10_area ∈ zall := zall_mem (List.mem_append_right _ (List.mem_of_getElem? (i := 579) (by decide +kernel))) rfl
theorem k_580 : Cond.code yX10_area M_X10_area.2.1 M_X10_area.2.2.1 M_X10_area.2.2.2.1 ∈ zall := zall_mem (List.mem_append_right _ (List.mem_of_getElem? (i := 580) (by decide +kernel))) rfl
theorem k_581 : Cond.methodLink RX10 15 yX9_at ∈ zall := zall_mem (List.mem_append_right _ (List.mem_of_getElem? (i := 581) (by decide +kernel))) rfl
theorem k_582 : Cond.methodLink RX11 200 yX10_minutesIn ∈ zall := zall_mem (List.mem_append_right _ (List.mem_of_getElem? (i := 582) (by decide +kernel))) rfl
theorem k_583 : Cond.static yX10_minutesIn ∈ zall := zall_mem (List.mem_append_right _ (List.mem_of_getElem? (i := 583) (by decide +kernel))) rfl
theorem k_584 : Cond.code yX10_minutesIn M_X10_minutesIn.2.1 M_X10_minutesIn.2.2.1 M_X10_minutesIn.2.2.2.1 ∈ zall := zall_mem (List.mem_append_right _ (List.mem_of_getElem? (i := 584) (by decide +kernel))) rfl
theorem k_585 : Cond.methodLink RX10 28 yX10_area ∈ zall := zall_mem (List.mem_append_right _ (List.mem_of_getElem? (i := 585) (by decide +kernel))) rfl
theorem k_586 : Cond.methodLink RX10 37 yX8_nearest ∈ zall := zall_mem (List.mem_append_right _ (List.mem_of_getElem? (i := 586) (by decide +kernel))) rfl
theorem k_587 : Cond.methodLink RX10 42 Lib.Math.max.name ∈ zall := zall_mem (List.mem_append_right _ (List.mem_of_getElem? (i := 587) (by decide +kernel))) rfl
theorem k_588 : Cond.methodLink RX10 47 Lib.Math.min.name ∈ zall := zall_mem (List.mem_append_right _ (List.mem_of_getElem? (i := 588) (by decide +kernel))) rfl
theorem k_597 : Cond.methodLink RX11 203 yX10_nearestTin ∈ zall := zall_mem (List.mem_append_right _ (List.mem_of_getElem? (i := 597) (by decide +kernel))) rfl
theorem k_598 : Cond.static yX10_nearestTin ∈ zall := zall_mem (List.mem_append_right _ (List.mem_of_getElem? (i := 598) (by decide +kernel))) rfl
theorem k_599 : Cond.code yX10_nearestTin M_X10_nearestTin.2.1 M_X10_nearestTin.2.2.1 M_X10_nearestTin.2.2.2.1 ∈ zall := zall_mem (List.mem_append_right _ (List.mem_of_getElem? (i := 599) (by decide +kernel))) rfl
theorem k_600 : Cond.methodLink RX10 50 yX9_size ∈ zall := zall_mem (List.mem_append_right _ (List.mem_of_getElem? (i := 600) (by decide +kernel))) rfl
theorem k_601 : Cond.methodLink RX10 54 yX10_isNearer ∈ zall := zall_mem (List.mem_append_right _ (List.mem_of_getElem? (i := 601) (by decide +kernel))) rfl
theorem k_602 : Cond.static yX10_isNearer ∈ zall := zall_mem (List.mem_append_right _ (List.mem_of_getElem? (i := 602) (by decide +kernel))) rfl
theorem k_603 : Cond.code yX10_isNearer M_X10_isNearer.2.1 M_X10_isNearer.2.2.1 M_X10_isNearer.2.2.2.1 ∈ zall := zall_mem (List.mem_append_right _ (List.mem_of_getElem? (i := 603) (by decide +kernel))) rfl
theorem k_604 : Cond.methodLink RX10 58 yX10_depthApart ∈ zall := zall_mem (List.mem_append_right _ (List.mem_of_getElem? (i := 604) (by decide +kernel))) rfl
theorem k_605 : Cond.static yX10_depthApart ∈ zall := zall_mem (List.mem_append_right _ (List.mem_of_getElem? (i := 605) (by decide +kernel))) rfl
theorem k_606 : Cond.code yX10_depthApart M_X10_depthApart.2.1 M_X10_depthApart.2.2.1 M_X10_depthApart.2.2.2.1 ∈ zall := zall_mem (List.mem_append_right _ (List.mem_of_getElem? (i := 606) (by decide +kernel))) rfl
theorem k_607 : Cond.methodLink RX10 62 Lib.Math.abs.name ∈ zall := zall_mem (List.mem_append_right _ (List.mem_of_getElem? (i := 607) (by decide +kernel))) rfl
theorem k_612 : Cond.methodLink RX11 206 yX6_mostFed ∈ zall := zall_mem (List.mem_append_right _ (List.mem_of_getElem? (i := 612) (by decide +kernel))) rfl
theorem k_613 : Cond.static yX6_mostFed ∈ zall := zall_mem (List.mem_append_right _ (List.mem_of_getElem? (i := 613) (by decide +kernel))) rfl
theorem k_614 : Cond.code yX6_mostFed M_X6_mostFed.2.1 M_X6_mostFed.2.2.1 M_X6_mostFed.2.2.2.1 ∈ zall := zall_mem (List.mem_append_right _ (List.mem_of_getElem? (i := 614) (by decide +kernel))) rfl
theorem k_615 : Cond.methodLink RX6 43 yX3_feeds ∈ zall := zall_mem (List.mem_append_right _ (List.mem_of_getElem? (i := 615) (by decide +kernel))) rfl
theorem k_616 : Cond.instanceMethod yX3_feeds ∈ zall := zall_mem (List.mem_append_right _ (List.mem_of_getElem? (i := 616) (by decide +kernel))) rfl
theorem k_617 : Cond.selects yX3_feeds.cls yX3_feeds yX3_feeds ∈ zall := zall_mem (List.mem_append_right _ (List.mem_of_getElem? (i := 617) (by decide +kernel))) rfl
theorem k_618 : Cond.code yX3_feeds M_X3_feeds.2.1 M_X3_feeds.2.2.1 M_X3_feeds.2.2.2.1 ∈ zall := zall_mem (List.mem_append_right _ (List.mem_of_getElem? (i := 618) (by decide +kernel))) rfl
theorem k_619 : Cond.methodLink RX3 90 yX3_takenFor ∈ zall := zall_mem (List.mem_append_right _ (List.mem_of_getElem? (i := 619) (by decide +kernel))) rfl
theorem k_620 : Cond.instanceMethod yX3_takenFor ∈ zall := zall_mem (List.mem_append_right _ (List.mem_of_getElem? (i := 620) (by decide +kernel))) rfl
theorem k_621 : Cond.selects yX3_takenFor.cls yX3_takenFor yX3_takenFor ∈ zall := zall_mem (List.mem_append_right _ (List.mem_of_getElem? (i := 621) (by decide +kernel))) rfl
theorem k_622 : Cond.code yX3_takenFor M_X3_takenFor.2.1 M_X3_takenFor.2.2.1 M_X3_takenFor.2.2.2.1 ∈ zall := zall_mem (List.mem_append_right _ (List.mem_of_getElem? (i := 622) (by decide +kernel))) rfl
theorem k_627 : Cond.methodLink RX11 209 yX7_lackingParts ∈ zall := zall_mem (List.mem_append_right _ (List.mem_of_getElem? (i := 627) (by decide +kernel))) rfl
theorem k_628 : Cond.static yX7_lackingParts ∈ zall := zall_mem (List.mem_append_right _ (List.mem_of_getElem? (i := 628) (by decide +kernel))) rfl
theorem k_629 : Cond.code yX7_lackingParts M_X7_lackingParts.2.1 M_X7_lackingParts.2.2.1 M_X7_lackingParts.2.2.2.1 ∈ zall := zall_mem (List.mem_append_right _ (List.mem_of_getElem? (i := 629) (by decide +kernel))) rfl
theorem k_630 : Cond.methodLink RX7 25 yX9_size ∈ zall := zall_mem (List.mem_append_right _ (List.mem_of_getElem? (i := 630) (by decide +kernel))) rfl
theorem k_631 : Cond.methodLink RX7 33 yX7_wholesLacking ∈ zall := zall_mem (List.mem_append_right _ (List.mem_of_getElem? (i := 631) (by decide +kernel))) rfl
theorem k_632 : Cond.static yX7_wholesLacking ∈ zall := zall_mem (List.mem_append_right _ (List.mem_of_getElem? (i := 632) (by decide +kernel))) rfl
theorem k_633 : Cond.code yX7_wholesLacking M_X7_wholesLacking.2.1 M_X7_wholesLacking.2.2.1 M_X7_wholesLacking.2.2.2.1 ∈ zall := zall_mem (List.mem_append_right _ (List.mem_of_getElem? (i := 633) (by decide +kernel))) rfl
theorem k_634 : Cond.methodLink RX7 37 yX3_takenFor ∈ zall := zall_mem (List.mem_append_right _ (List.mem_of_getElem? (i := 634) (by decide +kernel))) rfl
theorem k_635 : Cond.methodLink RX7 41 yX9_at ∈ zall := zall_mem (List.mem_append_right _ (List.mem_of_getElem? (i := 635) (by decide +kernel))) rfl
theorem k_636 : Cond.methodLink RX7 44 yX8_roundedUp ∈ zall := zall_mem (List.mem_append_right _ (List.mem_of_getElem? (i := 636) (by decide +kernel))) rfl
theorem k_645 : Cond.methodLink RX11 215 yX7_leastLoss ∈ zall := zall_mem (List.mem_append_right _ (List.mem_of_getElem? (i := 645) (by decide +kernel))) rfl
theorem k_646 : Cond.instanceMethod yX7_leastLoss ∈ zall := zall_mem (List.mem_append_right _ (List.mem_of_getElem? (i := 646) (by decide +kernel))) rfl
theorem k_647 : Cond.selects yX7_leastLoss.cls yX7_leastLoss yX7_leastLoss ∈ zall := zall_mem (List.mem_append_right _ (List.mem_of_getElem? (i := 647) (by decide +kernel))) rfl
theorem k_648 : Cond.code yX7_leastLoss M_X7_leastLoss.2.1 M_X7_leastLoss.2.2.1 M_X7_leastLoss.2.2.2.1 ∈ zall := zall_mem (List.mem_append_right _ (List.mem_of_getElem? (i := 648) (by decide +kernel))) rfl
theorem k_649 : Cond.constant RX7 49 (1000000) ∈ zall := zall_mem (List.mem_append_right _ (List.mem_of_getElem? (i := 649) (by decide +kernel))) rfl
theorem k_650 : Cond.methodLink RX7 50 yX9_reset ∈ zall := zall_mem (List.mem_append_right _ (List.mem_of_getElem? (i := 650) (by decide +kernel))) rfl
theorem k_651 : Cond.methodLink RX7 53 yX9_put ∈ zall := zall_mem (List.mem_append_right _ (List.mem_of_getElem? (i := 651) (by decide +kernel))) rfl
theorem k_652 : Cond.methodLink RX7 60 yX7_letStandIn ∈ zall := zall_mem (List.mem_append_right _ (List.mem_of_getElem? (i := 652) (by decide +kernel))) rfl
theorem k_654 : Cond.instanceMethod yX7_letStandIn ∈ zall := zall_mem (List.mem_append_right _ (List.mem_of_getElem? (i := 654) (by decide +kernel))) rfl
theorem k_655 : Cond.code yX7_letStandIn M_X7_letStandIn.2.1 M_X7_letStandIn.2.2.1 M_X7_letStandIn.2.2.2.1 ∈ zall := zall_mem (List.mem_append_right _ (List.mem_of_getElem? (i := 655) (by decide +kernel))) rfl
theorem k_656 : Cond.methodLink RX7 64 yX7_timesThatItLets ∈ zall := zall_mem (List.mem_append_right _ (List.mem_of_getElem? (i := 656) (by decide +kernel))) rfl
theorem k_657 : Cond.static yX7_timesThatItLets ∈ zall := zall_mem (List.mem_append_right _ (List.mem_of_getElem? (i := 657) (by decide +kernel))) rfl
theorem k_658 : Cond.code yX7_timesThatItLets M_X7_timesThatItLets.2.1 M_X7_timesThatItLets.2.2.1 M_X7_timesThatItLets.2.2.2.1 ∈ zall := zall_mem (List.mem_append_right _ (List.mem_of_getElem? (i := 658) (by decide +kernel))) rfl
theorem k_659 : Cond.methodLink RX7 79 yX3_takenNow ∈ zall := zall_mem (List.mem_append_right _ (List.mem_of_getElem? (i := 659) (by decide +kernel))) rfl
theorem k_660 : Cond.methodLink RX7 76 Lib.Math.max.name ∈ zall := zall_mem (List.mem_append_right _ (List.mem_of_getElem? (i := 660) (by decide +kernel))) rfl
theorem k_661 : Cond.methodLink RX7 83 yX8_cut ∈ zall := zall_mem (List.mem_append_right _ (List.mem_of_getElem? (i := 661) (by decide +kernel))) rfl
theorem k_662 : Cond.methodLink RX7 68 Lib.Math.min.name ∈ zall := zall_mem (List.mem_append_right _ (List.mem_of_getElem? (i := 662) (by decide +kernel))) rfl
theorem k_663 : Cond.methodLink RX7 73 yX7_letMake ∈ zall := zall_mem (List.mem_append_right _ (List.mem_of_getElem? (i := 663) (by decide +kernel))) rfl
theorem k_665 : Cond.instanceMethod yX7_letMake ∈ zall := zall_mem (List.mem_append_right _ (List.mem_of_getElem? (i := 665) (by decide +kernel))) rfl
theorem k_666 : Cond.code yX7_letMake M_X7_letMake.2.1 M_X7_letMake.2.2.1 M_X7_letMake.2.2.2.1 ∈ zall := zall_mem (List.mem_append_right _ (List.mem_of_getElem? (i := 666) (by decide +kernel))) rfl
theorem k_675 : Cond.methodLink RX11 224 yX5_fewestTo ∈ zall := zall_mem (List.mem_append_right _ (List.mem_of_getElem? (i := 675) (by decide +kernel))) rfl
theorem k_676 : Cond.instanceMethod yX5_fewestTo ∈ zall := zall_mem (List.mem_append_right _ (List.mem_of_getElem? (i := 676) (by decide +kernel))) rfl
theorem k_677 : Cond.selects yX5_fewestTo.cls yX5_fewestTo yX5_fewestTo ∈ zall := zall_mem (List.mem_append_right _ (List.mem_of_getElem? (i := 677) (by decide +kernel))) rfl
theorem k_678 : Cond.code yX5_fewestTo M_X5_fewestTo.2.1 M_X5_fewestTo.2.2.1 M_X5_fewestTo.2.2.2.1 ∈ zall := zall_mem (List.mem_append_right _ (List.mem_of_getElem? (i := 678) (by decide +kernel))) rfl
theorem k_679 : Cond.methodLink RX5 23 yX5_seekAll ∈ zall := zall_mem (List.mem_append_right _ (List.mem_of_getElem? (i := 679) (by decide +kernel))) rfl
theorem k_681 : Cond.instanceMethod yX5_seekAll ∈ zall := zall_mem (List.mem_append_right _ (List.mem_of_getElem? (i := 681) (by decide +kernel))) rfl
theorem k_682 : Cond.code yX5_seekAll M_X5_seekAll.2.1 M_X5_seekAll.2.2.1 M_X5_seekAll.2.2.2.1 ∈ zall := zall_mem (List.mem_append_right _ (List.mem_of_getElem? (i := 682) (by decide +kernel))) rfl
theorem k_683 : Cond.methodLink RX5 41 yX9_reset ∈ zall := zall_mem (List.mem_append_right _ (List.mem_of_getElem? (i := 683) (by decide +kernel))) rfl
theorem k_684 : Cond.methodLink RX5 44 yX5_comes ∈ zall := zall_mem (List.mem_append_right _ (List.mem_of_getElem? (i := 684) (by decide +kernel))) rfl
theorem k_686 : Cond.instanceMethod yX5_comes ∈ zall := zall_mem (List.mem_append_right _ (List.mem_of_getElem? (i := 686) (by decide +kernel))) rfl
theorem k_687 : Cond.code yX5_comes M_X5_comes.2.1 M_X5_comes.2.2.1 M_X5_comes.2.2.2.1 ∈ zall := zall_mem (List.mem_append_right _ (List.mem_of_getElem? (i := 687) (by decide +kernel))) rfl
theorem k_688 : Cond.methodLink RX5 37 yX9_at ∈ zall := zall_mem (List.mem_append_right _ (List.mem_of_getElem? (i := 688) (by decide +kernel))) rfl
theorem k_689 : Cond.methodLink RX5 64 yX9_put ∈ zall := zall_mem (List.mem_append_right _ (List.mem_of_getElem? (i := 689) (by decide +kernel))) rfl
theorem k_690 : Cond.methodLink RX5 67 yX9_add ∈ zall := zall_mem (List.mem_append_right _ (List.mem_of_getElem? (i := 690) (by decide +kernel))) rfl
theorem k_691 : Cond.methodLink RX5 48 yX9_size ∈ zall := zall_mem (List.mem_append_right _ (List.mem_of_getElem? (i := 691) (by decide +kernel))) rfl
theorem k_692 : Cond.methodLink RX5 52 yX5_goOnFrom ∈ zall := zall_mem (List.mem_append_right _ (List.mem_of_getElem? (i := 692) (by decide +kernel))) rfl
theorem k_694 : Cond.instanceMethod yX5_goOnFrom ∈ zall := zall_mem (List.mem_append_right _ (List.mem_of_getElem? (i := 694) (by decide +kernel))) rfl
theorem k_695 : Cond.code yX5_goOnFrom M_X5_goOnFrom.2.1 M_X5_goOnFrom.2.2.1 M_X5_goOnFrom.2.2.2.1 ∈ zall := zall_mem (List.mem_append_right _ (List.mem_of_getElem? (i := 695) (by decide +kernel))) rfl
theorem k_696 : Cond.methodLink RX5 56 yX5_levelOf ∈ zall := zall_mem (List.mem_append_right _ (List.mem_of_getElem? (i := 696) (by decide +kernel))) rfl
theorem k_697 : Cond.static yX5_levelOf ∈ zall := zall_mem (List.mem_append_right _ (List.mem_of_getElem? (i := 697) (by decide +kernel))) rfl
theorem k_698 : Cond.code yX5_levelOf M_X5_levelOf.2.1 M_X5_levelOf.2.2.1 M_X5_levelOf.2.2.2.1 ∈ zall := zall_mem (List.mem_append_right _ (List.mem_of_getElem? (i := 698) (by decide +kernel))) rfl
theorem k_699 : Cond.methodLink RX5 34 yX5_unit ∈ zall := zall_mem (List.mem_append_right _ (List.mem_of_getElem? (i := 699) (by decide +kernel))) rfl
theorem k_700 : Cond.static yX5_unit ∈ zall := zall_mem (List.mem_append_right _ (List.mem_of_getElem? (i := 700) (by decide +kernel))) rfl
theorem k_701 : Cond.code yX5_unit M_X5_unit.2.1 M_X5_unit.2.2.1 M_X5_unit.2.2.2.1 ∈ zall := zall_mem (List.mem_append_right _ (List.mem_of_getElem? (i := 701) (by decide +kernel))) rfl
theorem k_702 : Cond.methodLink RX5 70 yX8_cut ∈ zall := zall_mem (List.mem_append_right _ (List.mem_of_getElem? (i := 702) (by decide +kernel))) rfl
theorem k_703 : Cond.methodLink RX5 59 Lib.Math.min.name ∈ zall := zall_mem (List.mem_append_right _ (List.mem_of_getElem? (i := 703) (by decide +kernel))) rfl
theorem k_704 : Cond.methodLink RX5 27 yX5_firstWith ∈ zall := zall_mem (List.mem_append_right _ (List.mem_of_getElem? (i := 704) (by decide +kernel))) rfl
theorem k_706 : Cond.instanceMethod yX5_firstWith ∈ zall := zall_mem (List.mem_append_right _ (List.mem_of_getElem? (i := 706) (by decide +kernel))) rfl
theorem k_707 : Cond.code yX5_firstWith M_X5_firstWith.2.1 M_X5_firstWith.2.2.1 M_X5_firstWith.2.2.2.1 ∈ zall := zall_mem (List.mem_append_right _ (List.mem_of_getElem? (i := 707) (by decide +kernel))) rfl
theorem k_708 : Cond.methodLink RX5 31 yX5_stepsTo ∈ zall := zall_mem (List.mem_append_right _ (List.mem_of_getElem? (i := 708) (by decide +kernel))) rfl
theorem k_710 : Cond.instanceMethod yX5_stepsTo ∈ zall := zall_mem (List.mem_append_right _ (List.mem_of_getElem? (i := 710) (by decide +kernel))) rfl
theorem k_711 : Cond.code yX5_stepsTo M_X5_stepsTo.2.1 M_X5_stepsTo.2.2.1 M_X5_stepsTo.2.2.2.1 ∈ zall := zall_mem (List.mem_append_right _ (List.mem_of_getElem? (i := 711) (by decide +kernel))) rfl
theorem k_716 : Cond.methodLink RX11 227 yX11_each ∈ zall := zall_mem (List.mem_append_right _ (List.mem_of_getElem? (i := 716) (by decide +kernel))) rfl
theorem k_717 : Cond.static yX11_each ∈ zall := zall_mem (List.mem_append_right _ (List.mem_of_getElem? (i := 717) (by decide +kernel))) rfl
theorem k_718 : Cond.code yX11_each M_X11_each.2.1 M_X11_each.2.2.1 M_X11_each.2.2.2.1 ∈ zall := zall_mem (List.mem_append_right _ (List.mem_of_getElem? (i := 718) (by decide +kernel))) rfl
theorem k_719 : Cond.methodLink RX11 230 yX5_fewestToAll ∈ zall := zall_mem (List.mem_append_right _ (List.mem_of_getElem? (i := 719) (by decide +kernel))) rfl
theorem k_720 : Cond.instanceMethod yX5_fewestToAll ∈ zall := zall_mem (List.mem_append_right _ (List.mem_of_getElem? (i := 720) (by decide +kernel))) rfl
theorem k_721 : Cond.selects yX5_fewestToAll.cls yX5_fewestToAll yX5_fewestToAll ∈ zall := zall_mem (List.mem_append_right _ (List.mem_of_getElem? (i := 721) (by decide +kernel))) rfl
theorem k_722 : Cond.code yX5_fewestToAll M_X5_fewestToAll.2.1 M_X5_fewestToAll.2.2.1 M_X5_fewestToAll.2.2.2.1 ∈ zall := zall_mem (List.mem_append_right _ (List.mem_of_getElem? (i := 722) (by decide +kernel))) rfl
theorem k_727 : Cond.methodLink RX11 234 yX6_numberFor ∈ zall := zall_mem (List.mem_append_right _ (List.mem_of_getElem? (i := 727) (by decide +kernel))) rfl
theorem k_728 : Cond.static yX6_numberFor ∈ zall := zall_mem (List.mem_append_right _ (List.mem_of_getElem? (i := 728) (by decide +kernel))) rfl
theorem k_729 : Cond.code yX6_numberFor M_X6_numberFor.2.1 M_X6_numberFor.2.2.1 M_X6_numberFor.2.2.2.1 ∈ zall := zall_mem (List.mem_append_right _ (List.mem_of_getElem? (i := 729) (by decide +kernel))) rfl
theorem k_730 : Cond.methodLink RX6 47 yX9_at ∈ zall := zall_mem (List.mem_append_right _ (List.mem_of_getElem? (i := 730) (by decide +kernel))) rfl
theorem k_731 : Cond.methodLink RX6 50 yX8_roundedUp ∈ zall := zall_mem (List.mem_append_right _ (List.mem_of_getElem? (i := 731) (by decide +kernel))) rfl
theorem k_732 : Cond.methodLink RX6 55 Lib.Math.max.name ∈ zall := zall_mem (List.mem_append_right _ (List.mem_of_getElem? (i := 732) (by decide +kernel))) rfl
theorem k_737 : Cond.methodLink RX11 237 yX11_noPartOf ∈ zall := zall_mem (List.mem_append_right _ (List.mem_of_getElem? (i := 737) (by decide +kernel))) rfl
theorem k_739 : Cond.instanceMethod yX11_noPartOf ∈ zall := zall_mem (List.mem_append_right _ (List.mem_of_getElem? (i := 739) (by decide +kernel))) rfl
theorem k_740 : Cond.code yX11_noPartOf M_X11_noPartOf.2.1 M_X11_noPartOf.2.2.1 M_X11_noPartOf.2.2.2.1 ∈ zall := zall_mem (List.mem_append_right _ (List.mem_of_getElem? (i := 740) (by decide +kernel))) rfl
theorem k_741 : Cond.methodLink RX11 240 yX6_moreOf ∈ zall := zall_mem (List.mem_append_right _ (List.mem_of_getElem? (i := 741) (by decide +kernel))) rfl
theorem k_742 : Cond.static yX6_moreOf ∈ zall := zall_mem (List.mem_append_right _ (List.mem_of_getElem? (i := 742) (by decide +kernel))) rfl
theorem k_743 : Cond.code yX6_moreOf M_X6_moreOf.2.1 M_X6_moreOf.2.2.1 M_X6_moreOf.2.2.2.1 ∈ zall := zall_mem (List.mem_append_right _ (List.mem_of_getElem? (i := 743) (by decide +kernel))) rfl
theorem k_744 : Cond.methodLink RX6 60 yX6_numberFor ∈ zall := zall_mem (List.mem_append_right _ (List.mem_of_getElem? (i := 744) (by decide +kernel))) rfl
theorem k_745 : Cond.methodLink RX6 64 yX3_takenNow ∈ zall := zall_mem (List.mem_append_right _ (List.mem_of_getElem? (i := 745) (by decide +kernel))) rfl
theorem k_750 : Cond.methodLink RX11 244 yX6_lotsFor ∈ zall := zall_mem (List.mem_append_right _ (List.mem_of_getElem? (i := 750) (by decide +kernel))) rfl
theorem k_751 : Cond.static yX6_lotsFor ∈ zall := zall_mem (List.mem_append_right _ (List.mem_of_getElem? (i := 751) (by decide +kernel))) rfl
theorem k_752 : Cond.code yX6_lotsFor M_X6_lotsFor.2.1 M_X6_lotsFor.2.2.1 M_X6_lotsFor.2.2.2.1 ∈ zall := zall_mem (List.mem_append_right _ (List.mem_of_getElem? (i := 752) (by decide +kernel))) rfl
theorem k_753 : Cond.constant RX6 67 (1000000000) ∈ zall := zall_mem (List.mem_append_right _ (List.mem_of_getElem? (i := 753) (by decide +kernel))) rfl
theorem k_758 : Cond.methodLink RX11 247 yX7_moreGuests ∈ zall := zall_mem (List.mem_append_right _ (List.mem_of_getElem? (i := 758) (by decide +kernel))) rfl
theorem k_759 : Cond.static yX7_moreGuests ∈ zall := zall_mem (List.mem_append_right _ (List.mem_of_getElem? (i := 759) (by decide +kernel))) rfl
theorem k_760 : Cond.code yX7_moreGuests M_X7_moreGuests.2.1 M_X7_moreGuests.2.2.1 M_X7_moreGuests.2.2.2.1 ∈ zall := zall_mem (List.mem_append_right _ (List.mem_of_getElem? (i := 760) (by decide +kernel))) rfl
theorem k_761 : Cond.methodLink RX7 89 yX7_leftFeeds ∈ zall := zall_mem (List.mem_append_right _ (List.mem_of_getElem? (i := 761) (by decide +kernel))) rfl
theorem k_762 : Cond.static yX7_leftFeeds ∈ zall := zall_mem (List.mem_append_right _ (List.mem_of_getElem? (i := 762) (by decide +kernel))) rfl
theorem k_763 : Cond.code yX7_leftFeeds M_X7_leftFeeds.2.1 M_X7_leftFeeds.2.2.1 M_X7_leftFeeds.2.2.2.1 ∈ zall := zall_mem (List.mem_append_right _ (List.mem_of_getElem? (i := 763) (by decide +kernel))) rfl
theorem k_764 : Cond.methodLink RX7 93 yX3_left ∈ zall := zall_mem (List.mem_append_right _ (List.mem_of_getElem? (i := 764) (by decide +kernel))) rfl
theorem k_773 : Cond.methodLink RX11 250 yX11_rowNotForParts ∈ zall := zall_mem (List.mem_append_right _ (List.mem_of_getElem? (i := 773) (by decide +kernel))) rfl
theorem k_775 : Cond.instanceMethod yX11_rowNotForParts ∈ zall := zall_mem (List.mem_append_right _ (List.mem_of_getElem? (i := 775) (by decide +kernel))) rfl
theorem k_776 : Cond.code yX11_rowNotForParts M_X11_rowNotForParts.2.1 M_X11_rowNotForParts.2.2.1 M_X11_rowNotForParts.2.2.2.1 ∈ zall := zall_mem (List.mem_append_right _ (List.mem_of_getElem? (i := 776) (by decide +kernel))) rfl
theorem k_777 : Cond.methodLink RX11 253 yX2_numbersSo ∈ zall := zall_mem (List.mem_append_right _ (List.mem_of_getElem? (i := 777) (by decide +kernel))) rfl
theorem k_778 : Cond.static yX2_numbersSo ∈ zall := zall_mem (List.mem_append_right _ (List.mem_of_getElem? (i := 778) (by decide +kernel))) rfl
theorem k_779 : Cond.code yX2_numbersSo M_X2_numbersSo.2.1 M_X2_numbersSo.2.2.1 M_X2_numbersSo.2.2.2.1 ∈ zall := zall_mem (List.mem_append_right _ (List.mem_of_getElem? (i := 779) (by decide +kernel))) rfl
theorem k_780 : Cond.methodLink RX2 9 yX2_allSo ∈ zall := zall_mem (List.mem_append_right _ (List.mem_of_getElem? (i := 780) (by decide +kernel))) rfl
theorem k_781 : Cond.static yX2_allSo ∈ zall := zall_mem (List.mem_append_right _ (List.mem_of_getElem? (i := 781) (by decide +kernel))) rfl
theorem k_782 : Cond.code yX2_allSo M_X2_allSo.2.1 M_X2_allSo.2.2.1 M_X2_allSo.2.2.2.1 ∈ zall := zall_mem (List.mem_append_right _ (List.mem_of_getElem? (i := 782) (by decide +kernel))) rfl
theorem k_783 : Cond.methodLink RX2 21 yX9_size ∈ zall := zall_mem (List.mem_append_right _ (List.mem_of_getElem? (i := 783) (by decide +kernel))) rfl
theorem k_784 : Cond.methodLink RX2 27 yX2_isSo ∈ zall := zall_mem (List.mem_append_right _ (List.mem_of_getElem? (i := 784) (by decide +kernel))) rfl
theorem k_785 : Cond.static yX2_isSo ∈ zall := zall_mem (List.mem_append_right _ (List.mem_of_getElem? (i := 785) (by decide +kernel))) rfl
theorem k_786 : Cond.code yX2_isSo M_X2_isSo.2.1 M_X2_isSo.2.2.1 M_X2_isSo.2.2.2.1 ∈ zall := zall_mem (List.mem_append_right _ (List.mem_of_getElem? (i := 786) (by decide +kernel))) rfl
theorem k_787 : Cond.methodLink RX2 31 yX3_takenFor ∈ zall := zall_mem (List.mem_append_right _ (List.mem_of_getElem? (i := 787) (by decide +kernel))) rfl
theorem k_788 : Cond.methodLink RX2 35 yX9_at ∈ zall := zall_mem (List.mem_append_right _ (List.mem_of_getElem? (i := 788) (by decide +kernel))) rfl
theorem k_789 : Cond.methodLink RX11 259 yX2_halvedParts ∈ zall := zall_mem (List.mem_append_right _ (List.mem_of_getElem? (i := 789) (by decide +kernel))) rfl
theorem k_790 : Cond.static yX2_halvedParts ∈ zall := zall_mem (List.mem_append_right _ (List.mem_of_getElem? (i := 790) (by decide +kernel))) rfl
theorem k_791 : Cond.code yX2_halvedParts M_X2_halvedParts.2.1 M_X2_halvedParts.2.2.1 M_X2_halvedParts.2.2.2.1 ∈ zall := zall_mem (List.mem_append_right _ (List.mem_of_getElem? (i := 791) (by decide +kernel))) rfl
theorem k_792 : Cond.methodLink RX2 42 yX2_isHalved ∈ zall := zall_mem (List.mem_append_right _ (List.mem_of_getElem? (i := 792) (by decide +kernel))) rfl
theorem k_793 : Cond.static yX2_isHalved ∈ zall := zall_mem (List.mem_append_right _ (List.mem_of_getElem? (i := 793) (by decide +kernel))) rfl
theorem k_794 : Cond.code yX2_isHalved M_X2_isHalved.2.1 M_X2_isHalved.2.2.1 M_X2_isHalved.2.2.2.1 ∈ zall := zall_mem (List.mem_append_right _ (List.mem_of_getElem? (i := 794) (by decide +kernel))) rfl
theorem k_795 : Cond.methodLink RX11 262 yX2_amountParts ∈ zall := zall_mem (List.mem_append_right _ (List.mem_of_getElem? (i := 795) (by decide +kernel))) rfl
theorem k_796 : Cond.static yX2_amountParts ∈ zall := zall_mem (List.mem_append_right _ (List.mem_of_getElem? (i := 796) (by decide +kernel))) rfl
theorem k_797 : Cond.code yX2_amountParts M_X2_amountParts.2.1 M_X2_amountParts.2.2.1 M_X2_amountParts.2.2.2.1 ∈ zall := zall_mem (List.mem_append_right _ (List.mem_of_getElem? (i := 797) (by decide +kernel))) rfl
theorem k_798 : Cond.methodLink RX2 45 yX2_isAmount ∈ zall := zall_mem (List.mem_append_right _ (List.mem_of_getElem? (i := 798) (by decide +kernel))) rfl
theorem k_799 : Cond.static yX2_isAmount ∈ zall := zall_mem (List.mem_append_right _ (List.mem_of_getElem? (i := 799) (by decide +kernel))) rfl
theorem k_800 : Cond.code yX2_isAmount M_X2_isAmount.2.1 M_X2_isAmount.2.2.1 M_X2_isAmount.2.2.2.1 ∈ zall := zall_mem (List.mem_append_right _ (List.mem_of_getElem? (i := 800) (by decide +kernel))) rfl
theorem k_805 : Cond.methodLink RX11 265 yX2_firstNeither ∈ zall := zall_mem (List.mem_append_right _ (List.mem_of_getElem? (i := 805) (by decide +kernel))) rfl
theorem k_806 : Cond.static yX2_firstNeither ∈ zall := zall_mem (List.mem_append_right _ (List.mem_of_getElem? (i := 806) (by decide +kernel))) rfl
theorem k_807 : Cond.code yX2_firstNeither M_X2_firstNeither.2.1 M_X2_firstNeither.2.2.1 M_X2_firstNeither.2.2.2.1 ∈ zall := zall_mem (List.mem_append_right _ (List.mem_of_getElem? (i := 807) (by decide +kernel))) rfl
theorem k_816 : Cond.methodLink RX11 268 yX6_bakingsFed ∈ zall := zall_mem (List.mem_append_right _ (List.mem_of_getElem? (i := 816) (by decide +kernel))) rfl
theorem k_817 : Cond.static yX6_bakingsFed ∈ zall := zall_mem (List.mem_append_right _ (List.mem_of_getElem? (i := 817) (by decide +kernel))) rfl
theorem k_818 : Cond.code yX6_bakingsFed M_X6_bakingsFed.2.1 M_X6_bakingsFed.2.2.1 M_X6_bakingsFed.2.2.2.1 ∈ zall := zall_mem (List.mem_append_right _ (List.mem_of_getElem? (i := 818) (by decide +kernel))) rfl
theorem k_819 : Cond.methodLink RX6 68 yX6_nextSeed ∈ zall := zall_mem (List.mem_append_right _ (List.mem_of_getElem? (i := 819) (by decide +kernel))) rfl
theorem k_820 : Cond.static yX6_nextSeed ∈ zall := zall_mem (List.mem_append_right _ (List.mem_of_getElem? (i := 820) (by decide +kernel))) rfl
theorem k_821 : Cond.code yX6_nextSeed M_X6_nextSeed.2.1 M_X6_nextSeed.2.2.1 M_X6_nextSeed.2.2.2.1 ∈ zall := zall_mem (List.mem_append_right _ (List.mem_of_getElem? (i := 821) (by decide +kernel))) rfl
theorem k_822 : Cond.constant RX6 74 (1103515245) ∈ zall := zall_mem (List.mem_append_right _ (List.mem_of_getElem? (i := 822) (by decide +kernel))) rfl
theorem k_823 : Cond.methodLink RX6 71 yX6_guestsBy ∈ zall := zall_mem (List.mem_append_right _ (List.mem_of_getElem? (i := 823) (by decide +kernel))) rfl
theorem k_824 : Cond.static yX6_guestsBy ∈ zall := zall_mem (List.mem_append_right _ (List.mem_of_getElem? (i := 824) (by decide +kernel))) rfl
theorem k_825 : Cond.code yX6_guestsBy M_X6_guestsBy.2.1 M_X6_guestsBy.2.2.1 M_X6_guestsBy.2.2.2.1 ∈ zall := zall_mem (List.mem_append_right _ (List.mem_of_getElem? (i := 825) (by decide +kernel))) rfl
theorem k_826 : Cond.constant RX6 75 (2147483647) ∈ zall := zall_mem (List.mem_append_right _ (List.mem_of_getElem? (i := 826) (by decide +kernel))) rfl
theorem k_827 : Cond.constant RX6 76 (65536) ∈ zall := zall_mem (List.mem_append_right _ (List.mem_of_getElem? (i := 827) (by decide +kernel))) rfl
theorem k_828 : Cond.methodLink RX11 271 yX6_bakingsOff ∈ zall := zall_mem (List.mem_append_right _ (List.mem_of_getElem? (i := 828) (by decide +kernel))) rfl
theorem k_829 : Cond.static yX6_bakingsOff ∈ zall := zall_mem (List.mem_append_right _ (List.mem_of_getElem? (i := 829) (by decide +kernel))) rfl
theorem k_830 : Cond.code yX6_bakingsOff M_X6_bakingsOff.2.1 M_X6_bakingsOff.2.2.1 M_X6_bakingsOff.2.2.2.1 ∈ zall := zall_mem (List.mem_append_right _ (List.mem_of_getElem? (i := 830) (by decide +kernel))) rfl
theorem k_835 : Cond.methodLink RX11 274 yX9_dropLast ∈ zall := zall_mem (List.mem_append_right _ (List.mem_of_getElem? (i := 835) (by decide +kernel))) rfl
theorem k_844 : Cond.methodLink RX11 277 yX7_penceFor ∈ zall := zall_mem (List.mem_append_right _ (List.mem_of_getElem? (i := 844) (by decide +kernel))) rfl
theorem k_845 : Cond.static yX7_penceFor ∈ zall := zall_mem (List.mem_append_right _ (List.mem_of_getElem? (i := 845) (by decide +kernel))) rfl
theorem k_846 : Cond.code yX7_penceFor M_X7_penceFor.2.1 M_X7_penceFor.2.2.1 M_X7_penceFor.2.2.2.1 ∈ zall := zall_mem (List.mem_append_right _ (List.mem_of_getElem? (i := 846) (by decide +kernel))) rfl
theorem k_851 : Cond.methodLink RX11 280 yX7_leastPence ∈ zall := zall_mem (List.mem_append_right _ (List.mem_of_getElem? (i := 851) (by decide +kernel))) rfl
theorem k_852 : Cond.static yX7_leastPence ∈ zall := zall_mem (List.mem_append_right _ (List.mem_of_getElem? (i := 852) (by decide +kernel))) rfl
theorem k_853 : Cond.code yX7_leastPence M_X7_leastPence.2.1 M_X7_leastPence.2.2.1 M_X7_leastPence.2.2.2.1 ∈ zall := zall_mem (List.mem_append_right _ (List.mem_of_getElem? (i := 853) (by decide +kernel))) rfl
theorem k_854 : Cond.methodLink RX7 86 yX7_penceFor ∈ zall := zall_mem (List.mem_append_right _ (List.mem_of_getElem? (i := 854) (by decide +kernel))) rfl
theorem k_863 : Cond.methodLink RX11 286 yX0_weighing ∈ zall := zall_mem (List.mem_append_right _ (List.mem_of_getElem? (i := 863) (by decide +kernel))) rfl
theorem k_864 : Cond.instanceMethod yX0_weighing ∈ zall := zall_mem (List.mem_append_right _ (List.mem_of_getElem? (i := 864) (by decide +kernel))) rfl
theorem k_865 : Cond.selects yX0_weighing.cls yX0_weighing yX0_weighing ∈ zall := zall_mem (List.mem_append_right _ (List.mem_of_getElem? (i := 865) (by decide +kernel))) rfl
theorem k_866 : Cond.code yX0_weighing M_X0_weighing.2.1 M_X0_weighing.2.2.1 M_X0_weighing.2.2.2.1 ∈ zall := zall_mem (List.mem_append_right _ (List.mem_of_getElem? (i := 866) (by decide +kernel))) rfl
theorem k_867 : Cond.methodLink RX0 20 yX0_seekAll ∈ zall := zall_mem (List.mem_append_right _ (List.mem_of_getElem? (i := 867) (by decide +kernel))) rfl
theorem k_869 : Cond.instanceMethod yX0_seekAll ∈ zall := zall_mem (List.mem_append_right _ (List.mem_of_getElem? (i := 869) (by decide +kernel))) rfl
theorem k_870 : Cond.code yX0_seekAll M_X0_seekAll.2.1 M_X0_seekAll.2.2.1 M_X0_seekAll.2.2.2.1 ∈ zall := zall_mem (List.mem_append_right _ (List.mem_of_getElem? (i := 870) (by decide +kernel))) rfl
theorem k_871 : Cond.methodLink RX0 28 yX9_reset ∈ zall := zall_mem (List.mem_append_right _ (List.mem_of_getElem? (i := 871) (by decide +kernel))) rfl
theorem k_872 : Cond.methodLink RX0 31 yX9_size ∈ zall := zall_mem (List.mem_append_right _ (List.mem_of_getElem? (i := 872) (by decide +kernel))) rfl
theorem k_873 : Cond.methodLink RX0 35 yX0_seen ∈ zall := zall_mem (List.mem_append_right _ (List.mem_of_getElem? (i := 873) (by decide +kernel))) rfl
theorem k_875 : Cond.instanceMethod yX0_seen ∈ zall := zall_mem (List.mem_append_right _ (List.mem_of_getElem? (i := 875) (by decide +kernel))) rfl
theorem k_876 : Cond.code yX0_seen M_X0_seen.2.1 M_X0_seen.2.2.1 M_X0_seen.2.2.2.1 ∈ zall := zall_mem (List.mem_append_right _ (List.mem_of_getElem? (i := 876) (by decide +kernel))) rfl
theorem k_877 : Cond.methodLink RX0 39 yX0_weightOf ∈ zall := zall_mem (List.mem_append_right _ (List.mem_of_getElem? (i := 877) (by decide +kernel))) rfl
theorem k_878 : Cond.static yX0_weightOf ∈ zall := zall_mem (List.mem_append_right _ (List.mem_of_getElem? (i := 878) (by decide +kernel))) rfl
theorem k_879 : Cond.code yX0_weightOf M_X0_weightOf.2.1 M_X0_weightOf.2.2.1 M_X0_weightOf.2.2.2.1 ∈ zall := zall_mem (List.mem_append_right _ (List.mem_of_getElem? (i := 879) (by decide +kernel))) rfl
theorem k_880 : Cond.methodLink RX0 24 yX9_at ∈ zall := zall_mem (List.mem_append_right _ (List.mem_of_getElem? (i := 880) (by decide +kernel))) rfl
theorem k_881 : Cond.methodLink RX0 43 yJ6_bitCount_0f7a4 ∈ zall := zall_mem (List.mem_append_right _ (List.mem_of_getElem? (i := 881) (by decide +kernel))) rfl
theorem k_882 : Cond.static yJ6_bitCount_0f7a4 ∈ zall := zall_mem (List.mem_append_right _ (List.mem_of_getElem? (i := 882) (by decide +kernel))) rfl
theorem k_883 : Cond.code yJ6_bitCount_0f7a4 M_J6_bitCount_0f7a4.2.1 M_J6_bitCount_0f7a4.2.2.1 M_J6_bitCount_0f7a4.2.2.2.1 ∈ zall := zall_mem (List.mem_append_right _ (List.mem_of_getElem? (i := 883) (by decide +kernel))) rfl
theorem k_887 : Cond.methodLink RX0 49 yX9_put ∈ zall := zall_mem (List.mem_append_right _ (List.mem_of_getElem? (i := 887) (by decide +kernel))) rfl
theorem k_892 : Cond.methodLink RX11 290 yX0_weighable ∈ zall := zall_mem (List.mem_append_right _ (List.mem_of_getElem? (i := 892) (by decide +kernel))) rfl
theorem k_893 : Cond.instanceMethod yX0_weighable ∈ zall := zall_mem (List.mem_append_right _ (List.mem_of_getElem? (i := 893) (by decide +kernel))) rfl
theorem k_894 : Cond.selects yX0_weighable.cls yX0_weighable yX0_weighable ∈ zall := zall_mem (List.mem_append_right _ (List.mem_of_getElem? (i := 894) (by decide +kernel))) rfl
theorem k_895 : Cond.code yX0_weighable M_X0_weighable.2.1 M_X0_weighable.2.2.1 M_X0_weighable.2.2.2.1 ∈ zall := zall_mem (List.mem_append_right _ (List.mem_of_getElem? (i := 895) (by decide +kernel))) rfl
theorem k_900 : Cond.methodLink RX11 293 yX4_oneBehindTheOther ∈ zall := zall_mem (List.mem_append_right _ (List.mem_of_getElem? (i := 900) (by decide +kernel))) rfl
theorem k_901 : Cond.instanceMethod yX4_oneBehindTheOther ∈ zall := zall_mem (List.mem_append_right _ (List.mem_of_getElem? (i := 901) (by decide +kernel))) rfl
theorem k_902 : Cond.selects yX4_oneBehindTheOther.cls yX4_oneBehindTheOther yX4_oneBehindTheOther ∈ zall := zall_mem (List.mem_append_right _ (List.mem_of_getElem? (i := 902) (by decide +kernel))) rfl
theorem k_903 : Cond.code yX4_oneBehindTheOther M_X4_oneBehindTheOther.2.1 M_X4_oneBehindTheOther.2.2.1 M_X4_oneBehindTheOther.2.2.2.1 ∈ zall := zall_mem (List.mem_append_right _ (List.mem_of_getElem? (i := 903) (by decide +kernel))) rfl
theorem k_904 : Cond.methodLink RX4 18 yX9_reset ∈ zall := zall_mem (List.mem_append_right _ (List.mem_of_getElem? (i := 904) (by decide +kernel))) rfl
theorem k_905 : Cond.methodLink RX4 21 yX9_size ∈ zall := zall_mem (List.mem_append_right _ (List.mem_of_getElem? (i := 905) (by decide +kernel))) rfl
theorem k_906 : Cond.methodLink RX4 25 yX4_freeFirst ∈ zall := zall_mem (List.mem_append_right _ (List.mem_of_getElem? (i := 906) (by decide +kernel))) rfl
theorem k_908 : Cond.instanceMethod yX4_freeFirst ∈ zall := zall_mem (List.mem_append_right _ (List.mem_of_getElem? (i := 908) (by decide +kernel))) rfl
theorem k_909 : Cond.code yX4_freeFirst M_X4_freeFirst.2.1 M_X4_freeFirst.2.2.1 M_X4_freeFirst.2.2.2.1 ∈ zall := zall_mem (List.mem_append_right _ (List.mem_of_getElem? (i := 909) (by decide +kernel))) rfl
theorem k_910 : Cond.methodLink RX4 28 yX9_at ∈ zall := zall_mem (List.mem_append_right _ (List.mem_of_getElem? (i := 910) (by decide +kernel))) rfl
theorem k_911 : Cond.methodLink RX4 32 yX4_putOn ∈ zall := zall_mem (List.mem_append_right _ (List.mem_of_getElem? (i := 911) (by decide +kernel))) rfl
theorem k_913 : Cond.instanceMethod yX4_putOn ∈ zall := zall_mem (List.mem_append_right _ (List.mem_of_getElem? (i := 913) (by decide +kernel))) rfl
theorem k_914 : Cond.code yX4_putOn M_X4_putOn.2.1 M_X4_putOn.2.2.1 M_X4_putOn.2.2.2.1 ∈ zall := zall_mem (List.mem_append_right _ (List.mem_of_getElem? (i := 914) (by decide +kernel))) rfl
theorem k_915 : Cond.methodLink RX4 49 yX9_put ∈ zall := zall_mem (List.mem_append_right _ (List.mem_of_getElem? (i := 915) (by decide +kernel))) rfl
theorem k_916 : Cond.methodLink RX4 35 yX4_allDone ∈ zall := zall_mem (List.mem_append_right _ (List.mem_of_getElem? (i := 916) (by decide +kernel))) rfl
theorem k_918 : Cond.instanceMethod yX4_allDone ∈ zall := zall_mem (List.mem_append_right _ (List.mem_of_getElem? (i := 918) (by decide +kernel))) rfl
theorem k_919 : Cond.code yX4_allDone M_X4_allDone.2.1 M_X4_allDone.2.2.1 M_X4_allDone.2.2.2.1 ∈ zall := zall_mem (List.mem_append_right _ (List.mem_of_getElem? (i := 919) (by decide +kernel))) rfl
theorem k_920 : Cond.methodLink RX4 53 Lib.Math.max.name ∈ zall := zall_mem (List.mem_append_right _ (List.mem_of_getElem? (i := 920) (by decide +kernel))) rfl
theorem k_921 : Cond.methodLink RX11 296 yX4_soonest ∈ zall := zall_mem (List.mem_append_right _ (List.mem_of_getElem? (i := 921) (by decide +kernel))) rfl
theorem k_922 : Cond.instanceMethod yX4_soonest ∈ zall := zall_mem (List.mem_append_right _ (List.mem_of_getElem? (i := 922) (by decide +kernel))) rfl
theorem k_923 : Cond.selects yX4_soonest.cls yX4_soonest yX4_soonest ∈ zall := zall_mem (List.mem_append_right _ (List.mem_of_getElem? (i := 923) (by decide +kernel))) rfl
theorem k_924 : Cond.code yX4_soonest M_X4_soonest.2.1 M_X4_soonest.2.2.1 M_X4_soonest.2.2.2.1 ∈ zall := zall_mem (List.mem_append_right _ (List.mem_of_getElem? (i := 924) (by decide +kernel))) rfl
theorem k_925 : Cond.methodLink RX4 38 yX4_oneBehindTheOther ∈ zall := zall_mem (List.mem_append_right _ (List.mem_of_getElem? (i := 925) (by decide +kernel))) rfl
theorem k_926 : Cond.methodLink RX4 42 yX4_waysOf ∈ zall := zall_mem (List.mem_append_right _ (List.mem_of_getElem? (i := 926) (by decide +kernel))) rfl
theorem k_927 : Cond.static yX4_waysOf ∈ zall := zall_mem (List.mem_append_right _ (List.mem_of_getElem? (i := 927) (by decide +kernel))) rfl
theorem k_928 : Cond.code yX4_waysOf M_X4_waysOf.2.1 M_X4_waysOf.2.2.1 M_X4_waysOf.2.2.2.1 ∈ zall := zall_mem (List.mem_append_right _ (List.mem_of_getElem? (i := 928) (by decide +kernel))) rfl
theorem k_929 : Cond.methodLink RX4 45 yX4_nextWay ∈ zall := zall_mem (List.mem_append_right _ (List.mem_of_getElem? (i := 929) (by decide +kernel))) rfl
theorem k_931 : Cond.instanceMethod yX4_nextWay ∈ zall := zall_mem (List.mem_append_right _ (List.mem_of_getElem? (i := 931) (by decide +kernel))) rfl
theorem k_932 : Cond.code yX4_nextWay M_X4_nextWay.2.1 M_X4_nextWay.2.2.1 M_X4_nextWay.2.2.2.1 ∈ zall := zall_mem (List.mem_append_right _ (List.mem_of_getElem? (i := 932) (by decide +kernel))) rfl
theorem k_941 : Cond.methodLink RX11 300 yX6_bothRecipes ∈ zall := zall_mem (List.mem_append_right _ (List.mem_of_getElem? (i := 941) (by decide +kernel))) rfl
theorem k_942 : Cond.static yX6_bothRecipes ∈ zall := zall_mem (List.mem_append_right _ (List.mem_of_getElem? (i := 942) (by decide +kernel))) rfl
theorem k_943 : Cond.code yX6_bothRecipes M_X6_bothRecipes.2.1 M_X6_bothRecipes.2.2.1 M_X6_bothRecipes.2.2.2.1 ∈ zall := zall_mem (List.mem_append_right _ (List.mem_of_getElem? (i := 943) (by decide +kernel))) rfl
theorem k_944 : Cond.methodLink RX6 77 yX6_bothFit ∈ zall := zall_mem (List.mem_append_right _ (List.mem_of_getElem? (i := 944) (by decide +kernel))) rfl
theorem k_945 : Cond.static yX6_bothFit ∈ zall := zall_mem (List.mem_append_right _ (List.mem_of_getElem? (i := 945) (by decide +kernel))) rfl
theorem k_946 : Cond.code yX6_bothFit M_X6_bothFit.2.1 M_X6_bothFit.2.2.1 M_X6_bothFit.2.2.2.1 ∈ zall := zall_mem (List.mem_append_right _ (List.mem_of_getElem? (i := 946) (by decide +kernel))) rfl
theorem k_951 : Cond.methodLink RX11 303 yX11_notTwoParts ∈ zall := zall_mem (List.mem_append_right _ (List.mem_of_getElem? (i := 951) (by decide +kernel))) rfl
theorem k_953 : Cond.instanceMethod yX11_notTwoParts ∈ zall := zall_mem (List.mem_append_right _ (List.mem_of_getElem? (i := 953) (by decide +kernel))) rfl
theorem k_954 : Cond.code yX11_notTwoParts M_X11_notTwoParts.2.1 M_X11_notTwoParts.2.2.1 M_X11_notTwoParts.2.2.2.1 ∈ zall := zall_mem (List.mem_append_right _ (List.mem_of_getElem? (i := 954) (by decide +kernel))) rfl
theorem k_955 : Cond.methodLink RX11 306 yX8_nearest ∈ zall := zall_mem (List.mem_append_right _ (List.mem_of_getElem? (i := 955) (by decide +kernel))) rfl
theorem k_960 : Cond.methodLink RX11 309 yX6_worstForgotten ∈ zall := zall_mem (List.mem_append_right _ (List.mem_of_getElem? (i := 960) (by decide +kernel))) rfl
theorem k_961 : Cond.static yX6_worstForgotten ∈ zall := zall_mem (List.mem_append_right _ (List.mem_of_getElem? (i := 961) (by decide +kernel))) rfl
theorem k_962 : Cond.code yX6_worstForgotten M_X6_worstForgotten.2.1 M_X6_worstForgotten.2.2.1 M_X6_worstForgotten.2.2.2.1 ∈ zall := zall_mem (List.mem_append_right _ (List.mem_of_getElem? (i := 962) (by decide +kernel))) rfl
theorem k_967 : Cond.methodLink RX11 312 yX10_nearestPair ∈ zall := zall_mem (List.mem_append_right _ (List.mem_of_getElem? (i := 967) (by decide +kernel))) rfl
theorem k_968 : Cond.static yX10_nearestPair ∈ zall := zall_mem (List.mem_append_right _ (List.mem_of_getElem? (i := 968) (by decide +kernel))) rfl
theorem k_969 : Cond.code yX10_nearestPair M_X10_nearestPair.2.1 M_X10_nearestPair.2.2.1 M_X10_nearestPair.2.2.2.1 ∈ zall := zall_mem (List.mem_append_right _ (List.mem_of_getElem? (i := 969) (by decide +kernel))) rfl
theorem k_970 : Cond.constant RX10 66 (1000000000) ∈ zall := zall_mem (List.mem_append_right _ (List.mem_of_getElem? (i := 970) (by decide +kernel))) rfl
theorem k_975 : Cond.methodLink RX11 315 yX5_stepOf ∈ zall := zall_mem (List.mem_append_right _ (List.mem_of_getElem? (i := 975) (by decide +kernel))) rfl
theorem k_976 : Cond.instanceMethod yX5_stepOf ∈ zall := zall_mem (List.mem_append_right _ (List.mem_of_getElem? (i := 976) (by decide +kernel))) rfl
theorem k_977 : Cond.selects yX5_stepOf.cls yX5_stepOf yX5_stepOf ∈ zall := zall_mem (List.mem_append_right _ (List.mem_of_getElem? (i := 977) (by decide +kernel))) rfl
theorem k_978 : Cond.code yX5_stepOf M_X5_stepOf.2.1 M_X5_stepOf.2.2.1 M_X5_stepOf.2.2.2.1 ∈ zall := zall_mem (List.mem_append_right _ (List.mem_of_getElem? (i := 978) (by decide +kernel))) rfl
theorem k_987 : Cond.methodLink RX11 325 yX7_worthiestSet ∈ zall := zall_mem (List.mem_append_right _ (List.mem_of_getElem? (i := 987) (by decide +kernel))) rfl
theorem k_988 : Cond.static yX7_worthiestSet ∈ zall := zall_mem (List.mem_append_right _ (List.mem_of_getElem? (i := 988) (by decide +kernel))) rfl
theorem k_989 : Cond.code yX7_worthiestSet M_X7_worthiestSet.2.1 M_X7_worthiestSet.2.2.1 M_X7_worthiestSet.2.2.2.1 ∈ zall := zall_mem (List.mem_append_right _ (List.mem_of_getElem? (i := 989) (by decide +kernel))) rfl
theorem k_990 : Cond.methodLink RX7 102 yX7_worthOf ∈ zall := zall_mem (List.mem_append_right _ (List.mem_of_getElem? (i := 990) (by decide +kernel))) rfl
theorem k_991 : Cond.static yX7_worthOf ∈ zall := zall_mem (List.mem_append_right _ (List.mem_of_getElem? (i := 991) (by decide +kernel))) rfl
theorem k_992 : Cond.code yX7_worthOf M_X7_worthOf.2.1 M_X7_worthOf.2.2.1 M_X7_worthOf.2.2.2.1 ∈ zall := zall_mem (List.mem_append_right _ (List.mem_of_getElem? (i := 992) (by decide +kernel))) rfl
theorem k_993 : Cond.methodLink RX7 105 yX7_leftIsEnough ∈ zall := zall_mem (List.mem_append_right _ (List.mem_of_getElem? (i := 993) (by decide +kernel))) rfl
theorem k_994 : Cond.static yX7_leftIsEnough ∈ zall := zall_mem (List.mem_append_right _ (List.mem_of_getElem? (i := 994) (by decide +kernel))) rfl
theorem k_995 : Cond.code yX7_leftIsEnough M_X7_leftIsEnough.2.1 M_X7_leftIsEnough.2.2.1 M_X7_leftIsEnough.2.2.2.1 ∈ zall := zall_mem (List.mem_append_right _ (List.mem_of_getElem? (i := 995) (by decide +kernel))) rfl
theorem k_996 : Cond.methodLink RX7 108 yX7_twelfthsOf ∈ zall := zall_mem (List.mem_append_right _ (List.mem_of_getElem? (i := 996) (by decide +kernel))) rfl
theorem k_997 : Cond.static yX7_twelfthsOf ∈ zall := zall_mem (List.mem_append_right _ (List.mem_of_getElem? (i := 997) (by decide +kernel))) rfl
theorem k_998 : Cond.code yX7_twelfthsOf M_X7_twelfthsOf.2.1 M_X7_twelfthsOf.2.2.1 M_X7_twelfthsOf.2.2.2.1 ∈ zall := zall_mem (List.mem_append_right _ (List.mem_of_getElem? (i := 998) (by decide +kernel))) rfl
theorem k_999 : Cond.methodLink RX11 328 yX7_worthOf ∈ zall := zall_mem (List.mem_append_right _ (List.mem_of_getElem? (i := 999) (by decide +kernel))) rfl
theorem k_1004 : Cond.methodLink RX11 331 yX9_holds ∈ zall := zall_mem (List.mem_append_right _ (List.mem_of_getElem? (i := 1004) (by decide +kernel))) rfl
theorem k_1005 : Cond.instanceMethod yX9_holds ∈ zall := zall_mem (List.mem_append_right _ (List.mem_of_getElem? (i := 1005) (by decide +kernel))) rfl
theorem k_1006 : Cond.selects yX9_holds.cls yX9_holds yX9_holds ∈ zall := zall_mem (List.mem_append_right _ (List.mem_of_getElem? (i := 1006) (by decide +kernel))) rfl
theorem k_1007 : Cond.code yX9_holds M_X9_holds.2.1 M_X9_holds.2.2.1 M_X9_holds.2.2.2.1 ∈ zall := zall_mem (List.mem_append_right _ (List.mem_of_getElem? (i := 1007) (by decide +kernel))) rfl
theorem k_1008 : Cond.methodLink RX11 335 yX4_groupOfFirst ∈ zall := zall_mem (List.mem_append_right _ (List.mem_of_getElem? (i := 1008) (by decide +kernel))) rfl
theorem k_1009 : Cond.static yX4_groupOfFirst ∈ zall := zall_mem (List.mem_append_right _ (List.mem_of_getElem? (i := 1009) (by decide +kernel))) rfl
theorem k_1010 : Cond.code yX4_groupOfFirst M_X4_groupOfFirst.2.1 M_X4_groupOfFirst.2.2.1 M_X4_groupOfFirst.2.2.2.1 ∈ zall := zall_mem (List.mem_append_right _ (List.mem_of_getElem? (i := 1010) (by decide +kernel))) rfl
theorem k_1011 : Cond.methodLink RX4 58 yX4_groupsApart ∈ zall := zall_mem (List.mem_append_right _ (List.mem_of_getElem? (i := 1011) (by decide +kernel))) rfl
theorem k_1012 : Cond.static yX4_groupsApart ∈ zall := zall_mem (List.mem_append_right _ (List.mem_of_getElem? (i := 1012) (by decide +kernel))) rfl
theorem k_1013 : Cond.code yX4_groupsApart M_X4_groupsApart.2.1 M_X4_groupsApart.2.2.1 M_X4_groupsApart.2.2.2.1 ∈ zall := zall_mem (List.mem_append_right _ (List.mem_of_getElem? (i := 1013) (by decide +kernel))) rfl
theorem k_1014 : Cond.methodLink RX4 61 Lib.Math.abs.name ∈ zall := zall_mem (List.mem_append_right _ (List.mem_of_getElem? (i := 1014) (by decide +kernel))) rfl
theorem k_1015 : Cond.methodLink RX11 338 yX4_groupsApart ∈ zall := zall_mem (List.mem_append_right _ (List.mem_of_getElem? (i := 1015) (by decide +kernel))) rfl
theorem k_1028 : Cond.methodLink RX11 341 yX3_allHouse ∈ zall := zall_mem (List.mem_append_right _ (List.mem_of_getElem? (i := 1028) (by decide +kernel))) rfl
theorem k_1029 : Cond.instanceMethod yX3_allHouse ∈ zall := zall_mem (List.mem_append_right _ (List.mem_of_getElem? (i := 1029) (by decide +kernel))) rfl
theorem k_1030 : Cond.selects yX3_allHouse.cls yX3_allHouse yX3_allHouse ∈ zall := zall_mem (List.mem_append_right _ (List.mem_of_getElem? (i := 1030) (by decide +kernel))) rfl
theorem k_1031 : Cond.code yX3_allHouse M_X3_allHouse.2.1 M_X3_allHouse.2.2.1 M_X3_allHouse.2.2.2.1 ∈ zall := zall_mem (List.mem_append_right _ (List.mem_of_getElem? (i := 1031) (by decide +kernel))) rfl
theorem k_1038 : Cond.fieldLink RX12 7 RX12 "forMany" "I" ∈ zall := zall_mem (List.mem_append_right _ (List.mem_of_getElem? (i := 1038) (by decide +kernel))) rfl
theorem k_1039 : Cond.fieldLink RX12 13 RX12 "guests0" "I" ∈ zall := zall_mem (List.mem_append_right _ (List.mem_of_getElem? (i := 1039) (by decide +kernel))) rfl
theorem k_1040 : Cond.fieldLink RX12 114 RX12 "parts" "I" ∈ zall := zall_mem (List.mem_append_right _ (List.mem_of_getElem? (i := 1040) (by decide +kernel))) rfl
theorem k_1041 : Cond.fieldLink RX12 194 RX12 "tins" "I" ∈ zall := zall_mem (List.mem_append_right _ (List.mem_of_getElem? (i := 1041) (by decide +kernel))) rfl
theorem k_1042 : Cond.fieldLink RX12 197 RX12 "standIns" "I" ∈ zall := zall_mem (List.mem_append_right _ (List.mem_of_getElem? (i := 1042) (by decide +kernel))) rfl
theorem k_1043 : Cond.fieldLink RX12 16 RX12 "volume" "I" ∈ zall := zall_mem (List.mem_append_right _ (List.mem_of_getElem? (i := 1043) (by decide +kernel))) rfl
theorem k_1044 : Cond.fieldLink RX12 19 RX12 "time" "I" ∈ zall := zall_mem (List.mem_append_right _ (List.mem_of_getElem? (i := 1044) (by decide +kernel))) rfl
theorem k_1045 : Cond.fieldLink RX12 22 RX12 "kinds" "[I" ∈ zall := zall_mem (List.mem_append_right _ (List.mem_of_getElem? (i := 1045) (by decide +kernel))) rfl
theorem k_1046 : Cond.fieldLink RX12 26 RX12 "steps0" "[I" ∈ zall := zall_mem (List.mem_append_right _ (List.mem_of_getElem? (i := 1046) (by decide +kernel))) rfl
theorem k_1047 : Cond.fieldLink RX12 29 RX12 "costs" "[I" ∈ zall := zall_mem (List.mem_append_right _ (List.mem_of_getElem? (i := 1047) (by decide +kernel))) rfl
theorem k_1048 : Cond.fieldLink RX12 32 RX12 "amounts" "[I" ∈ zall := zall_mem (List.mem_append_right _ (List.mem_of_getElem? (i := 1048) (by decide +kernel))) rfl
theorem k_1049 : Cond.fieldLink RX12 35 RX12 "houses" "[I" ∈ zall := zall_mem (List.mem_append_right _ (List.mem_of_getElem? (i := 1049) (by decide +kernel))) rfl
theorem k_1050 : Cond.fieldLink RX12 38 RX12 "squares" "[I" ∈ zall := zall_mem (List.mem_append_right _ (List.mem_of_getElem? (i := 1050) (by decide +kernel))) rfl
theorem k_1051 : Cond.fieldLink RX12 41 RX12 "sizes" "[I" ∈ zall := zall_mem (List.mem_append_right _ (List.mem_of_getElem? (i := 1051) (by decide +kernel))) rfl
theorem k_1052 : Cond.fieldLink RX12 44 RX12 "stands" "[I" ∈ zall := zall_mem (List.mem_append_right _ (List.mem_of_getElem? (i := 1052) (by decide +kernel))) rfl
theorem k_1053 : Cond.fieldLink RX12 47 RX12 "cups" "[I" ∈ zall := zall_mem (List.mem_append_right _ (List.mem_of_getElem? (i := 1053) (by decide +kernel))) rfl
theorem k_1054 : Cond.fieldLink RX12 111 RX12 "thrown" "I" ∈ zall := zall_mem (List.mem_append_right _ (List.mem_of_getElem? (i := 1054) (by decide +kernel))) rfl
theorem k_1055 : Cond.fieldLink RX12 50 RX12 "refusals" "[I" ∈ zall := zall_mem (List.mem_append_right _ (List.mem_of_getElem? (i := 1055) (by decide +kernel))) rfl
theorem k_1056 : Cond.fieldLink RX12 53 RX12 "letters" "[I" ∈ zall := zall_mem (List.mem_append_right _ (List.mem_of_getElem? (i := 1056) (by decide +kernel))) rfl
theorem k_1057 : Cond.fieldLink RX12 151 RX12 "letterMany" "I" ∈ zall := zall_mem (List.mem_append_right _ (List.mem_of_getElem? (i := 1057) (by decide +kernel))) rfl
theorem k_1058 : Cond.fieldLink RX12 154 RX12 "at" "I" ∈ zall := zall_mem (List.mem_append_right _ (List.mem_of_getElem? (i := 1058) (by decide +kernel))) rfl
theorem k_1059 : Cond.fieldLink RX12 157 RX12 "isBad" "Z" ∈ zall := zall_mem (List.mem_append_right _ (List.mem_of_getElem? (i := 1059) (by decide +kernel))) rfl
theorem k_1060 : Cond.fieldLink RX12 172 RX12 "statements" "I" ∈ zall := zall_mem (List.mem_append_right _ (List.mem_of_getElem? (i := 1060) (by decide +kernel))) rfl
theorem k_1061 : Cond.fieldLink RX12 56 RX12 "placeIn" "[I" ∈ zall := zall_mem (List.mem_append_right _ (List.mem_of_getElem? (i := 1061) (by decide +kernel))) rfl
theorem k_1062 : Cond.fieldLink RX12 59 RX12 "letterOf" "[I" ∈ zall := zall_mem (List.mem_append_right _ (List.mem_of_getElem? (i := 1062) (by decide +kernel))) rfl
theorem k_1063 : Cond.fieldLink RX12 62 RX12 "told" "[I" ∈ zall := zall_mem (List.mem_append_right _ (List.mem_of_getElem? (i := 1063) (by decide +kernel))) rfl
theorem k_1064 : Cond.fieldLink RX12 65 RX12 "kept" "[I" ∈ zall := zall_mem (List.mem_append_right _ (List.mem_of_getElem? (i := 1064) (by decide +kernel))) rfl
theorem k_1065 : Cond.fieldLink RX12 68 RX12 "imaged" "[I" ∈ zall := zall_mem (List.mem_append_right _ (List.mem_of_getElem? (i := 1065) (by decide +kernel))) rfl
theorem k_1066 : Cond.fieldLink RX12 254 RX12 "hasImage" "Z" ∈ zall := zall_mem (List.mem_append_right _ (List.mem_of_getElem? (i := 1066) (by decide +kernel))) rfl
theorem k_1067 : Cond.fieldLink RX12 242 RX12 "place0" "I" ∈ zall := zall_mem (List.mem_append_right _ (List.mem_of_getElem? (i := 1067) (by decide +kernel))) rfl
theorem k_1068 : Cond.fieldLink RX12 236 RX12 "isTaking" "Z" ∈ zall := zall_mem (List.mem_append_right _ (List.mem_of_getElem? (i := 1068) (by decide +kernel))) rfl
theorem k_1069 : Cond.fieldLink RX12 239 RX12 "keptIn" "[I" ∈ zall := zall_mem (List.mem_append_right _ (List.mem_of_getElem? (i := 1069) (by decide +kernel))) rfl
theorem k_1070 : Cond.fieldLink RX12 71 RX12 "backs" "[I" ∈ zall := zall_mem (List.mem_append_right _ (List.mem_of_getElem? (i := 1070) (by decide +kernel))) rfl
theorem k_1071 : Cond.fieldLink RX12 233 RX12 "turned" "I" ∈ zall := zall_mem (List.mem_append_right _ (List.mem_of_getElem? (i := 1071) (by decide +kernel))) rfl
theorem k_1072 : Cond.fieldLink RX12 74 RX12 "losses" "[I" ∈ zall := zall_mem (List.mem_append_right _ (List.mem_of_getElem? (i := 1072) (by decide +kernel))) rfl
theorem k_1073 : Cond.fieldLink RX12 77 RX12 "stepsTo" "[I" ∈ zall := zall_mem (List.mem_append_right _ (List.mem_of_getElem? (i := 1073) (by decide +kernel))) rfl
theorem k_1074 : Cond.fieldLink RX12 80 RX12 "queue" "[I" ∈ zall := zall_mem (List.mem_append_right _ (List.mem_of_getElem? (i := 1074) (by decide +kernel))) rfl
theorem k_1075 : Cond.fieldLink RX12 310 RX12 "queued" "I" ∈ zall := zall_mem (List.mem_append_right _ (List.mem_of_getElem? (i := 1075) (by decide +kernel))) rfl
theorem k_1076 : Cond.fieldLink RX12 83 RX12 "prices" "[I" ∈ zall := zall_mem (List.mem_append_right _ (List.mem_of_getElem? (i := 1076) (by decide +kernel))) rfl
theorem k_1077 : Cond.fieldLink RX12 86 RX12 "alsos" "[I" ∈ zall := zall_mem (List.mem_append_right _ (List.mem_of_getElem? (i := 1077) (by decide +kernel))) rfl
theorem k_1078 : Cond.fieldLink RX12 89 RX12 "weights" "[I" ∈ zall := zall_mem (List.mem_append_right _ (List.mem_of_getElem? (i := 1078) (by decide +kernel))) rfl
theorem k_1079 : Cond.fieldLink RX12 248 RX12 "weightMany" "I" ∈ zall := zall_mem (List.mem_append_right _ (List.mem_of_getElem? (i := 1079) (by decide +kernel))) rfl
theorem k_1080 : Cond.fieldLink RX12 92 RX12 "isWeighed" "[Z" ∈ zall := zall_mem (List.mem_append_right _ (List.mem_of_getElem? (i := 1080) (by decide +kernel))) rfl
theorem k_1081 : Cond.fieldLink RX12 96 RX12 "shelves" "[I" ∈ zall := zall_mem (List.mem_append_right _ (List.mem_of_getElem? (i := 1081) (by decide +kernel))) rfl
theorem k_1082 : Cond.fieldLink RX12 99 RX12 "cameFrom" "[I" ∈ zall := zall_mem (List.mem_append_right _ (List.mem_of_getElem? (i := 1082) (by decide +kernel))) rfl
theorem k_1083 : Cond.fieldLink RX12 102 RX12 "cameBy" "[I" ∈ zall := zall_mem (List.mem_append_right _ (List.mem_of_getElem? (i := 1083) (by decide +kernel))) rfl
theorem k_1084 : Cond.fieldLink RX12 105 RX12 "dishOf" "[I" ∈ zall := zall_mem (List.mem_append_right _ (List.mem_of_getElem? (i := 1084) (by decide +kernel))) rfl
theorem k_1085 : Cond.fieldLink RX12 251 RX12 "dishes" "I" ∈ zall := zall_mem (List.mem_append_right _ (List.mem_of_getElem? (i := 1085) (by decide +kernel))) rfl
theorem k_1086 : Cond.fieldLink RX12 108 RX12 "row" "[I" ∈ zall := zall_mem (List.mem_append_right _ (List.mem_of_getElem? (i := 1086) (by decide +kernel))) rfl
theorem k_1087 : Cond.fieldLink RX12 351 RX12 "rowMany" "I" ∈ zall := zall_mem (List.mem_append_right _ (List.mem_of_getElem? (i := 1087) (by decide +kernel))) rfl
theorem k_1194 : Cond.methodLink RX12 148 yX12_refuse ∈ zall := zall_mem (List.mem_append_right _ (List.mem_of_getElem? (i := 1194) (by decide +kernel))) rfl
theorem k_1196 : Cond.instanceMethod yX12_refuse ∈ zall := zall_mem (List.mem_append_right _ (List.mem_of_getElem? (i := 1196) (by decide +kernel))) rfl
theorem k_1197 : Cond.code yX12_refuse M_X12_refuse.2.1 M_X12_refuse.2.2.1 M_X12_refuse.2.2.2.1 ∈ zall := zall_mem (List.mem_append_right _ (List.mem_of_getElem? (i := 1197) (by decide +kernel))) rfl
theorem k_1202 : Cond.methodLink RX12 223 yX12_readStatement ∈ zall := zall_mem (List.mem_append_right _ (List.mem_of_getElem? (i := 1202) (by decide +kernel))) rfl
theorem k_1204 : Cond.instanceMethod yX12_readStatement ∈ zall := zall_mem (List.mem_append_right _ (List.mem_of_getElem? (i := 1204) (by decide +kernel))) rfl
theorem k_1205 : Cond.code yX12_readStatement M_X12_readStatement.2.1 M_X12_readStatement.2.2.1 M_X12_readStatement.2.2.2.1 ∈ zall := zall_mem (List.mem_append_right _ (List.mem_of_getElem? (i := 1205) (by decide +kernel))) rfl
theorem k_1206 : Cond.methodLink RX12 161 yX12_here ∈ zall := zall_mem (List.mem_append_right _ (List.mem_of_getElem? (i := 1206) (by decide +kernel))) rfl
theorem k_1208 : Cond.instanceMethod yX12_here ∈ zall := zall_mem (List.mem_append_right _ (List.mem_of_getElem? (i := 1208) (by decide +kernel))) rfl
theorem k_1209 : Cond.code yX12_here M_X12_here.2.1 M_X12_here.2.2.1 M_X12_here.2.2.2.1 ∈ zall := zall_mem (List.mem_append_right _ (List.mem_of_getElem? (i := 1209) (by decide +kernel))) rfl
theorem k_1210 : Cond.methodLink RX12 175 yX12_readOneOrTwo ∈ zall := zall_mem (List.mem_append_right _ (List.mem_of_getElem? (i := 1210) (by decide +kernel))) rfl
theorem k_1212 : Cond.instanceMethod yX12_readOneOrTwo ∈ zall := zall_mem (List.mem_append_right _ (List.mem_of_getElem? (i := 1212) (by decide +kernel))) rfl
theorem k_1213 : Cond.code yX12_readOneOrTwo M_X12_readOneOrTwo.2.1 M_X12_readOneOrTwo.2.2.1 M_X12_readOneOrTwo.2.2.2.1 ∈ zall := zall_mem (List.mem_append_right _ (List.mem_of_getElem? (i := 1213) (by decide +kernel))) rfl
theorem k_1214 : Cond.methodLink RX12 169 yX12_readDigit ∈ zall := zall_mem (List.mem_append_right _ (List.mem_of_getElem? (i := 1214) (by decide +kernel))) rfl
theorem k_1216 : Cond.instanceMethod yX12_readDigit ∈ zall := zall_mem (List.mem_append_right _ (List.mem_of_getElem? (i := 1216) (by decide +kernel))) rfl
theorem k_1217 : Cond.code yX12_readDigit M_X12_readDigit.2.1 M_X12_readDigit.2.2.1 M_X12_readDigit.2.2.2.1 ∈ zall := zall_mem (List.mem_append_right _ (List.mem_of_getElem? (i := 1217) (by decide +kernel))) rfl
theorem k_1218 : Cond.constantLong RX12 165 (48) ∈ zall := zall_mem (List.mem_append_right _ (List.mem_of_getElem? (i := 1218) (by decide +kernel))) rfl
theorem k_1219 : Cond.constantLong RX12 167 (57) ∈ zall := zall_mem (List.mem_append_right _ (List.mem_of_getElem? (i := 1219) (by decide +kernel))) rfl
theorem k_1220 : Cond.methodLink RX12 117 yX12_in ∈ zall := zall_mem (List.mem_append_right _ (List.mem_of_getElem? (i := 1220) (by decide +kernel))) rfl
theorem k_1221 : Cond.static yX12_in ∈ zall := zall_mem (List.mem_append_right _ (List.mem_of_getElem? (i := 1221) (by decide +kernel))) rfl
theorem k_1222 : Cond.code yX12_in M_X12_in.2.1 M_X12_in.2.2.1 M_X12_in.2.2.2.1 ∈ zall := zall_mem (List.mem_append_right _ (List.mem_of_getElem? (i := 1222) (by decide +kernel))) rfl
theorem k_1223 : Cond.methodLink RX12 178 yX12_readMany ∈ zall := zall_mem (List.mem_append_right _ (List.mem_of_getElem? (i := 1223) (by decide +kernel))) rfl
theorem k_1225 : Cond.instanceMethod yX12_readMany ∈ zall := zall_mem (List.mem_append_right _ (List.mem_of_getElem? (i := 1225) (by decide +kernel))) rfl
theorem k_1226 : Cond.code yX12_readMany M_X12_readMany.2.1 M_X12_readMany.2.2.1 M_X12_readMany.2.2.2.1 ∈ zall := zall_mem (List.mem_append_right _ (List.mem_of_getElem? (i := 1226) (by decide +kernel))) rfl
theorem k_1227 : Cond.methodLink RX12 182 yX12_take ∈ zall := zall_mem (List.mem_append_right _ (List.mem_of_getElem? (i := 1227) (by decide +kernel))) rfl
theorem k_1229 : Cond.instanceMethod yX12_take ∈ zall := zall_mem (List.mem_append_right _ (List.mem_of_getElem? (i := 1229) (by decide +kernel))) rfl
theorem k_1230 : Cond.code yX12_take M_X12_take.2.1 M_X12_take.2.2.1 M_X12_take.2.2.2.1 ∈ zall := zall_mem (List.mem_append_right _ (List.mem_of_getElem? (i := 1230) (by decide +kernel))) rfl
theorem k_1231 : Cond.methodLink RX12 186 yX12_readShape ∈ zall := zall_mem (List.mem_append_right _ (List.mem_of_getElem? (i := 1231) (by decide +kernel))) rfl
theorem k_1233 : Cond.instanceMethod yX12_readShape ∈ zall := zall_mem (List.mem_append_right _ (List.mem_of_getElem? (i := 1233) (by decide +kernel))) rfl
theorem k_1234 : Cond.code yX12_readShape M_X12_readShape.2.1 M_X12_readShape.2.2.1 M_X12_readShape.2.2.2.1 ∈ zall := zall_mem (List.mem_append_right _ (List.mem_of_getElem? (i := 1234) (by decide +kernel))) rfl
theorem k_1235 : Cond.methodLink RX12 189 yX12_readTwo ∈ zall := zall_mem (List.mem_append_right _ (List.mem_of_getElem? (i := 1235) (by decide +kernel))) rfl
theorem k_1237 : Cond.instanceMethod yX12_readTwo ∈ zall := zall_mem (List.mem_append_right _ (List.mem_of_getElem? (i := 1237) (by decide +kernel))) rfl
theorem k_1238 : Cond.code yX12_readTwo M_X12_readTwo.2.1 M_X12_readTwo.2.2.1 M_X12_readTwo.2.2.2.1 ∈ zall := zall_mem (List.mem_append_right _ (List.mem_of_getElem? (i := 1238) (by decide +kernel))) rfl
theorem k_1239 : Cond.methodLink RX12 226 yX12_carryAll ∈ zall := zall_mem (List.mem_append_right _ (List.mem_of_getElem? (i := 1239) (by decide +kernel))) rfl
theorem k_1241 : Cond.instanceMethod yX12_carryAll ∈ zall := zall_mem (List.mem_append_right _ (List.mem_of_getElem? (i := 1241) (by decide +kernel))) rfl
theorem k_1242 : Cond.code yX12_carryAll M_X12_carryAll.2.1 M_X12_carryAll.2.2.1 M_X12_carryAll.2.2.2.1 ∈ zall := zall_mem (List.mem_append_right _ (List.mem_of_getElem? (i := 1242) (by decide +kernel))) rfl
theorem k_1243 : Cond.methodLink RX12 245 yX12_carry ∈ zall := zall_mem (List.mem_append_right _ (List.mem_of_getElem? (i := 1243) (by decide +kernel))) rfl
theorem k_1245 : Cond.instanceMethod yX12_carry ∈ zall := zall_mem (List.mem_append_right _ (List.mem_of_getElem? (i := 1245) (by decide +kernel))) rfl
theorem k_1246 : Cond.code yX12_carry M_X12_carry.2.1 M_X12_carry.2.2.1 M_X12_carry.2.2.2.1 ∈ zall := zall_mem (List.mem_append_right _ (List.mem_of_getElem? (i := 1246) (by decide +kernel))) rfl
theorem k_1247 : Cond.methodLink RX12 230 yX12_comes ∈ zall := zall_mem (List.mem_append_right _ (List.mem_of_getElem? (i := 1247) (by decide +kernel))) rfl
theorem k_1249 : Cond.instanceMethod yX12_comes ∈ zall := zall_mem (List.mem_append_right _ (List.mem_of_getElem? (i := 1249) (by decide +kernel))) rfl
theorem k_1250 : Cond.code yX12_comes M_X12_comes.2.1 M_X12_comes.2.2.1 M_X12_comes.2.2.2.1 ∈ zall := zall_mem (List.mem_append_right _ (List.mem_of_getElem? (i := 1250) (by decide +kernel))) rfl
theorem k_1251 : Cond.constantLong RX12 208 (24) ∈ zall := zall_mem (List.mem_append_right _ (List.mem_of_getElem? (i := 1251) (by decide +kernel))) rfl
theorem k_1252 : Cond.methodLink RX12 210 yX12_partComes ∈ zall := zall_mem (List.mem_append_right _ (List.mem_of_getElem? (i := 1252) (by decide +kernel))) rfl
theorem k_1254 : Cond.instanceMethod yX12_partComes ∈ zall := zall_mem (List.mem_append_right _ (List.mem_of_getElem? (i := 1254) (by decide +kernel))) rfl
theorem k_1255 : Cond.code yX12_partComes M_X12_partComes.2.1 M_X12_partComes.2.2.1 M_X12_partComes.2.2.2.1 ∈ zall := zall_mem (List.mem_append_right _ (List.mem_of_getElem? (i := 1255) (by decide +kernel))) rfl
theorem k_1256 : Cond.methodLink RX12 200 yX12_isPart ∈ zall := zall_mem (List.mem_append_right _ (List.mem_of_getElem? (i := 1256) (by decide +kernel))) rfl
theorem k_1258 : Cond.instanceMethod yX12_isPart ∈ zall := zall_mem (List.mem_append_right _ (List.mem_of_getElem? (i := 1258) (by decide +kernel))) rfl
theorem k_1259 : Cond.code yX12_isPart M_X12_isPart.2.1 M_X12_isPart.2.2.1 M_X12_isPart.2.2.2.1 ∈ zall := zall_mem (List.mem_append_right _ (List.mem_of_getElem? (i := 1259) (by decide +kernel))) rfl
theorem k_1260 : Cond.methodLink RX12 213 yX12_tinComes ∈ zall := zall_mem (List.mem_append_right _ (List.mem_of_getElem? (i := 1260) (by decide +kernel))) rfl
theorem k_1262 : Cond.instanceMethod yX12_tinComes ∈ zall := zall_mem (List.mem_append_right _ (List.mem_of_getElem? (i := 1262) (by decide +kernel))) rfl
theorem k_1263 : Cond.code yX12_tinComes M_X12_tinComes.2.1 M_X12_tinComes.2.2.1 M_X12_tinComes.2.2.2.1 ∈ zall := zall_mem (List.mem_append_right _ (List.mem_of_getElem? (i := 1263) (by decide +kernel))) rfl
theorem k_1264 : Cond.constantLong RX12 192 (30) ∈ zall := zall_mem (List.mem_append_right _ (List.mem_of_getElem? (i := 1264) (by decide +kernel))) rfl
theorem k_1265 : Cond.methodLink RX12 216 yX12_standInComes ∈ zall := zall_mem (List.mem_append_right _ (List.mem_of_getElem? (i := 1265) (by decide +kernel))) rfl
theorem k_1267 : Cond.instanceMethod yX12_standInComes ∈ zall := zall_mem (List.mem_append_right _ (List.mem_of_getElem? (i := 1267) (by decide +kernel))) rfl
theorem k_1268 : Cond.code yX12_standInComes M_X12_standInComes.2.1 M_X12_standInComes.2.2.1 M_X12_standInComes.2.2.2.1 ∈ zall := zall_mem (List.mem_append_right _ (List.mem_of_getElem? (i := 1268) (by decide +kernel))) rfl
theorem k_1269 : Cond.methodLink RX12 204 yX12_hasStandIn ∈ zall := zall_mem (List.mem_append_right _ (List.mem_of_getElem? (i := 1269) (by decide +kernel))) rfl
theorem k_1271 : Cond.instanceMethod yX12_hasStandIn ∈ zall := zall_mem (List.mem_append_right _ (List.mem_of_getElem? (i := 1271) (by decide +kernel))) rfl
theorem k_1272 : Cond.code yX12_hasStandIn M_X12_hasStandIn.2.1 M_X12_hasStandIn.2.2.1 M_X12_hasStandIn.2.2.2.1 ∈ zall := zall_mem (List.mem_append_right _ (List.mem_of_getElem? (i := 1272) (by decide +kernel))) rfl
theorem k_1273 : Cond.methodLink RX12 219 yX12_cupsCome ∈ zall := zall_mem (List.mem_append_right _ (List.mem_of_getElem? (i := 1273) (by decide +kernel))) rfl
theorem k_1275 : Cond.instanceMethod yX12_cupsCome ∈ zall := zall_mem (List.mem_append_right _ (List.mem_of_getElem? (i := 1275) (by decide +kernel))) rfl
theorem k_1276 : Cond.code yX12_cupsCome M_X12_cupsCome.2.1 M_X12_cupsCome.2.2.1 M_X12_cupsCome.2.2.2.1 ∈ zall := zall_mem (List.mem_append_right _ (List.mem_of_getElem? (i := 1276) (by decide +kernel))) rfl
theorem k_1289 : Cond.constantLong RX12 257 (6) ∈ zall := zall_mem (List.mem_append_right _ (List.mem_of_getElem? (i := 1289) (by decide +kernel))) rfl
theorem k_1290 : Cond.methodLink RX12 145 yX12_takenFor ∈ zall := zall_mem (List.mem_append_right _ (List.mem_of_getElem? (i := 1290) (by decide +kernel))) rfl
theorem k_1292 : Cond.instanceMethod yX12_takenFor ∈ zall := zall_mem (List.mem_append_right _ (List.mem_of_getElem? (i := 1292) (by decide +kernel))) rfl
theorem k_1293 : Cond.code yX12_takenFor M_X12_takenFor.2.1 M_X12_takenFor.2.2.1 M_X12_takenFor.2.2.2.1 ∈ zall := zall_mem (List.mem_append_right _ (List.mem_of_getElem? (i := 1293) (by decide +kernel))) rfl
theorem k_1294 : Cond.methodLink RX12 135 yX12_takenBy ∈ zall := zall_mem (List.mem_append_right _ (List.mem_of_getElem? (i := 1294) (by decide +kernel))) rfl
theorem k_1296 : Cond.instanceMethod yX12_takenBy ∈ zall := zall_mem (List.mem_append_right _ (List.mem_of_getElem? (i := 1296) (by decide +kernel))) rfl
theorem k_1297 : Cond.code yX12_takenBy M_X12_takenBy.2.1 M_X12_takenBy.2.2.1 M_X12_takenBy.2.2.2.1 ∈ zall := zall_mem (List.mem_append_right _ (List.mem_of_getElem? (i := 1297) (by decide +kernel))) rfl
theorem k_1298 : Cond.methodLink RX12 121 yX12_nearest ∈ zall := zall_mem (List.mem_append_right _ (List.mem_of_getElem? (i := 1298) (by decide +kernel))) rfl
theorem k_1299 : Cond.static yX12_nearest ∈ zall := zall_mem (List.mem_append_right _ (List.mem_of_getElem? (i := 1299) (by decide +kernel))) rfl
theorem k_1300 : Cond.code yX12_nearest M_X12_nearest.2.1 M_X12_nearest.2.2.1 M_X12_nearest.2.2.2.1 ∈ zall := zall_mem (List.mem_append_right _ (List.mem_of_getElem? (i := 1300) (by decide +kernel))) rfl
theorem k_1301 : Cond.methodLink RX12 125 yX12_wholeOf ∈ zall := zall_mem (List.mem_append_right _ (List.mem_of_getElem? (i := 1301) (by decide +kernel))) rfl
theorem k_1302 : Cond.static yX12_wholeOf ∈ zall := zall_mem (List.mem_append_right _ (List.mem_of_getElem? (i := 1302) (by decide +kernel))) rfl
theorem k_1303 : Cond.code yX12_wholeOf M_X12_wholeOf.2.1 M_X12_wholeOf.2.2.1 M_X12_wholeOf.2.2.2.1 ∈ zall := zall_mem (List.mem_append_right _ (List.mem_of_getElem? (i := 1303) (by decide +kernel))) rfl
theorem k_1304 : Cond.methodLink RX12 128 yX12_up ∈ zall := zall_mem (List.mem_append_right _ (List.mem_of_getElem? (i := 1304) (by decide +kernel))) rfl
theorem k_1305 : Cond.static yX12_up ∈ zall := zall_mem (List.mem_append_right _ (List.mem_of_getElem? (i := 1305) (by decide +kernel))) rfl
theorem k_1306 : Cond.code yX12_up M_X12_up.2.1 M_X12_up.2.2.1 M_X12_up.2.2.2.1 ∈ zall := zall_mem (List.mem_append_right _ (List.mem_of_getElem? (i := 1306) (by decide +kernel))) rfl
theorem k_1307 : Cond.methodLink RX12 131 yX12_plainly ∈ zall := zall_mem (List.mem_append_right _ (List.mem_of_getElem? (i := 1307) (by decide +kernel))) rfl
theorem k_1308 : Cond.static yX12_plainly ∈ zall := zall_mem (List.mem_append_right _ (List.mem_of_getElem? (i := 1308) (by decide +kernel))) rfl
theorem k_1309 : Cond.code yX12_plainly M_X12_plainly.2.1 M_X12_plainly.2.2.1 M_X12_plainly.2.2.2.1 ∈ zall := zall_mem (List.mem_append_right _ (List.mem_of_getElem? (i := 1309) (by decide +kernel))) rfl
theorem k_1310 : Cond.methodLink RX12 259 yX12_leftOf ∈ zall := zall_mem (List.mem_append_right _ (List.mem_of_getElem? (i := 1310) (by decide +kernel))) rfl
theorem k_1312 : Cond.instanceMethod yX12_leftOf ∈ zall := zall_mem (List.mem_append_right _ (List.mem_of_getElem? (i := 1312) (by decide +kernel))) rfl
theorem k_1313 : Cond.code yX12_leftOf M_X12_leftOf.2.1 M_X12_leftOf.2.2.1 M_X12_leftOf.2.2.2.1 ∈ zall := zall_mem (List.mem_append_right _ (List.mem_of_getElem? (i := 1313) (by decide +kernel))) rfl
theorem k_1318 : Cond.methodLink RX12 262 yX12_wrongNumber ∈ zall := zall_mem (List.mem_append_right _ (List.mem_of_getElem? (i := 1318) (by decide +kernel))) rfl
theorem k_1319 : Cond.static yX12_wrongNumber ∈ zall := zall_mem (List.mem_append_right _ (List.mem_of_getElem? (i := 1319) (by decide +kernel))) rfl
theorem k_1320 : Cond.code yX12_wrongNumber M_X12_wrongNumber.2.1 M_X12_wrongNumber.2.2.1 M_X12_wrongNumber.2.2.2.1 ∈ zall := zall_mem (List.mem_append_right _ (List.mem_of_getElem? (i := 1320) (by decide +kernel))) rfl
theorem k_1321 : Cond.methodLink RX12 265 yX12_keepGuests ∈ zall := zall_mem (List.mem_append_right _ (List.mem_of_getElem? (i := 1321) (by decide +kernel))) rfl
theorem k_1323 : Cond.instanceMethod yX12_keepGuests ∈ zall := zall_mem (List.mem_append_right _ (List.mem_of_getElem? (i := 1323) (by decide +kernel))) rfl
theorem k_1324 : Cond.code yX12_keepGuests M_X12_keepGuests.2.1 M_X12_keepGuests.2.2.1 M_X12_keepGuests.2.2.2.1 ∈ zall := zall_mem (List.mem_append_right _ (List.mem_of_getElem? (i := 1324) (by decide +kernel))) rfl
theorem k_1341 : Cond.constantLong RX12 268 (4000000000000000000) ∈ zall := zall_mem (List.mem_append_right _ (List.mem_of_getElem? (i := 1341) (by decide +kernel))) rfl
theorem k_1342 : Cond.methodLink RX12 270 yX12_partOf ∈ zall := zall_mem (List.mem_append_right _ (List.mem_of_getElem? (i := 1342) (by decide +kernel))) rfl
theorem k_1343 : Cond.static yX12_partOf ∈ zall := zall_mem (List.mem_append_right _ (List.mem_of_getElem? (i := 1343) (by decide +kernel))) rfl
theorem k_1344 : Cond.code yX12_partOf M_X12_partOf.2.1 M_X12_partOf.2.2.1 M_X12_partOf.2.2.2.1 ∈ zall := zall_mem (List.mem_append_right _ (List.mem_of_getElem? (i := 1344) (by decide +kernel))) rfl
theorem k_1345 : Cond.methodLink RX12 142 yX12_divisor ∈ zall := zall_mem (List.mem_append_right _ (List.mem_of_getElem? (i := 1345) (by decide +kernel))) rfl
theorem k_1346 : Cond.static yX12_divisor ∈ zall := zall_mem (List.mem_append_right _ (List.mem_of_getElem? (i := 1346) (by decide +kernel))) rfl
theorem k_1347 : Cond.code yX12_divisor M_X12_divisor.2.1 M_X12_divisor.2.2.1 M_X12_divisor.2.2.2.1 ∈ zall := zall_mem (List.mem_append_right _ (List.mem_of_getElem? (i := 1347) (by decide +kernel))) rfl
theorem k_1352 : Cond.methodLink RX12 273 yX12_offOf ∈ zall := zall_mem (List.mem_append_right _ (List.mem_of_getElem? (i := 1352) (by decide +kernel))) rfl
theorem k_1354 : Cond.instanceMethod yX12_offOf ∈ zall := zall_mem (List.mem_append_right _ (List.mem_of_getElem? (i := 1354) (by decide +kernel))) rfl
theorem k_1355 : Cond.code yX12_offOf M_X12_offOf.2.1 M_X12_offOf.2.2.1 M_X12_offOf.2.2.2.1 ∈ zall := zall_mem (List.mem_append_right _ (List.mem_of_getElem? (i := 1355) (by decide +kernel))) rfl
theorem k_1356 : Cond.methodLink RX12 139 yX12_offBy ∈ zall := zall_mem (List.mem_append_right _ (List.mem_of_getElem? (i := 1356) (by decide +kernel))) rfl
theorem k_1358 : Cond.instanceMethod yX12_offBy ∈ zall := zall_mem (List.mem_append_right _ (List.mem_of_getElem? (i := 1358) (by decide +kernel))) rfl
theorem k_1359 : Cond.code yX12_offBy M_X12_offBy.2.1 M_X12_offBy.2.2.1 M_X12_offBy.2.2.2.1 ∈ zall := zall_mem (List.mem_append_right _ (List.mem_of_getElem? (i := 1359) (by decide +kernel))) rfl
theorem k_1368 : Cond.methodLink RX12 276 yX12_isOut ∈ zall := zall_mem (List.mem_append_right _ (List.mem_of_getElem? (i := 1368) (by decide +kernel))) rfl
theorem k_1370 : Cond.instanceMethod yX12_isOut ∈ zall := zall_mem (List.mem_append_right _ (List.mem_of_getElem? (i := 1370) (by decide +kernel))) rfl
theorem k_1371 : Cond.code yX12_isOut M_X12_isOut.2.1 M_X12_isOut.2.2.1 M_X12_isOut.2.2.2.1 ∈ zall := zall_mem (List.mem_append_right _ (List.mem_of_getElem? (i := 1371) (by decide +kernel))) rfl
theorem k_1376 : Cond.constantLong RX12 279 (2) ∈ zall := zall_mem (List.mem_append_right _ (List.mem_of_getElem? (i := 1376) (by decide +kernel))) rfl
theorem k_1377 : Cond.methodLink RX12 281 yX12_greatestOff ∈ zall := zall_mem (List.mem_append_right _ (List.mem_of_getElem? (i := 1377) (by decide +kernel))) rfl
theorem k_1379 : Cond.instanceMethod yX12_greatestOff ∈ zall := zall_mem (List.mem_append_right _ (List.mem_of_getElem? (i := 1379) (by decide +kernel))) rfl
theorem k_1380 : Cond.code yX12_greatestOff M_X12_greatestOff.2.1 M_X12_greatestOff.2.2.1 M_X12_greatestOff.2.2.2.1 ∈ zall := zall_mem (List.mem_append_right _ (List.mem_of_getElem? (i := 1380) (by decide +kernel))) rfl
theorem k_1385 : Cond.methodLink RX12 287 yX12_isTin ∈ zall := zall_mem (List.mem_append_right _ (List.mem_of_getElem? (i := 1385) (by decide +kernel))) rfl
theorem k_1387 : Cond.instanceMethod yX12_isTin ∈ zall := zall_mem (List.mem_append_right _ (List.mem_of_getElem? (i := 1387) (by decide +kernel))) rfl
theorem k_1388 : Cond.code yX12_isTin M_X12_isTin.2.1 M_X12_isTin.2.2.1 M_X12_isTin.2.2.2.1 ∈ zall := zall_mem (List.mem_append_right _ (List.mem_of_getElem? (i := 1388) (by decide +kernel))) rfl
theorem k_1389 : Cond.constantLong RX12 290 (3) ∈ zall := zall_mem (List.mem_append_right _ (List.mem_of_getElem? (i := 1389) (by decide +kernel))) rfl
theorem k_1390 : Cond.methodLink RX12 284 yX12_areaOf ∈ zall := zall_mem (List.mem_append_right _ (List.mem_of_getElem? (i := 1390) (by decide +kernel))) rfl
theorem k_1392 : Cond.instanceMethod yX12_areaOf ∈ zall := zall_mem (List.mem_append_right _ (List.mem_of_getElem? (i := 1392) (by decide +kernel))) rfl
theorem k_1393 : Cond.code yX12_areaOf M_X12_areaOf.2.1 M_X12_areaOf.2.2.1 M_X12_areaOf.2.2.2.1 ∈ zall := zall_mem (List.mem_append_right _ (List.mem_of_getElem? (i := 1393) (by decide +kernel))) rfl
theorem k_1394 : Cond.methodLink RX12 292 yX12_longIn ∈ zall := zall_mem (List.mem_append_right _ (List.mem_of_getElem? (i := 1394) (by decide +kernel))) rfl
theorem k_1396 : Cond.instanceMethod yX12_longIn ∈ zall := zall_mem (List.mem_append_right _ (List.mem_of_getElem? (i := 1396) (by decide +kernel))) rfl
theorem k_1397 : Cond.code yX12_longIn M_X12_longIn.2.1 M_X12_longIn.2.2.1 M_X12_longIn.2.2.2.1 ∈ zall := zall_mem (List.mem_append_right _ (List.mem_of_getElem? (i := 1397) (by decide +kernel))) rfl
theorem k_1410 : Cond.methodLink RX12 295 yX12_isEnough ∈ zall := zall_mem (List.mem_append_right _ (List.mem_of_getElem? (i := 1410) (by decide +kernel))) rfl
theorem k_1412 : Cond.instanceMethod yX12_isEnough ∈ zall := zall_mem (List.mem_append_right _ (List.mem_of_getElem? (i := 1412) (by decide +kernel))) rfl
theorem k_1413 : Cond.code yX12_isEnough M_X12_isEnough.2.1 M_X12_isEnough.2.2.1 M_X12_isEnough.2.2.2.1 ∈ zall := zall_mem (List.mem_append_right _ (List.mem_of_getElem? (i := 1413) (by decide +kernel))) rfl
theorem k_1418 : Cond.methodLink RX12 298 yX12_lackOf ∈ zall := zall_mem (List.mem_append_right _ (List.mem_of_getElem? (i := 1418) (by decide +kernel))) rfl
theorem k_1420 : Cond.instanceMethod yX12_lackOf ∈ zall := zall_mem (List.mem_append_right _ (List.mem_of_getElem? (i := 1420) (by decide +kernel))) rfl
theorem k_1421 : Cond.code yX12_lackOf M_X12_lackOf.2.1 M_X12_lackOf.2.2.1 M_X12_lackOf.2.2.2.1 ∈ zall := zall_mem (List.mem_append_right _ (List.mem_of_getElem? (i := 1421) (by decide +kernel))) rfl
theorem k_1426 : Cond.constantLong RX12 301 (4) ∈ zall := zall_mem (List.mem_append_right _ (List.mem_of_getElem? (i := 1426) (by decide +kernel))) rfl
theorem k_1431 : Cond.constant RX12 303 (99999) ∈ zall := zall_mem (List.mem_append_right _ (List.mem_of_getElem? (i := 1431) (by decide +kernel))) rfl
theorem k_1432 : Cond.methodLink RX12 304 yX12_timesOf ∈ zall := zall_mem (List.mem_append_right _ (List.mem_of_getElem? (i := 1432) (by decide +kernel))) rfl
theorem k_1434 : Cond.instanceMethod yX12_timesOf ∈ zall := zall_mem (List.mem_append_right _ (List.mem_of_getElem? (i := 1434) (by decide +kernel))) rfl
theorem k_1435 : Cond.code yX12_timesOf M_X12_timesOf.2.1 M_X12_timesOf.2.2.1 M_X12_timesOf.2.2.2.1 ∈ zall := zall_mem (List.mem_append_right _ (List.mem_of_getElem? (i := 1435) (by decide +kernel))) rfl
theorem k_1436 : Cond.methodLink RX12 307 yX12_useOnce ∈ zall := zall_mem (List.mem_append_right _ (List.mem_of_getElem? (i := 1436) (by decide +kernel))) rfl
theorem k_1438 : Cond.instanceMethod yX12_useOnce ∈ zall := zall_mem (List.mem_append_right _ (List.mem_of_getElem? (i := 1438) (by decide +kernel))) rfl
theorem k_1439 : Cond.code yX12_useOnce M_X12_useOnce.2.1 M_X12_useOnce.2.2.1 M_X12_useOnce.2.2.2.1 ∈ zall := zall_mem (List.mem_append_right _ (List.mem_of_getElem? (i := 1439) (by decide +kernel))) rfl
theorem k_1448 : Cond.methodLink RX12 325 yX12_pourAll ∈ zall := zall_mem (List.mem_append_right _ (List.mem_of_getElem? (i := 1448) (by decide +kernel))) rfl
theorem k_1450 : Cond.instanceMethod yX12_pourAll ∈ zall := zall_mem (List.mem_append_right _ (List.mem_of_getElem? (i := 1450) (by decide +kernel))) rfl
theorem k_1451 : Cond.code yX12_pourAll M_X12_pourAll.2.1 M_X12_pourAll.2.2.1 M_X12_pourAll.2.2.2.1 ∈ zall := zall_mem (List.mem_append_right _ (List.mem_of_getElem? (i := 1451) (by decide +kernel))) rfl
theorem k_1452 : Cond.methodLink RX12 319 yX12_reach ∈ zall := zall_mem (List.mem_append_right _ (List.mem_of_getElem? (i := 1452) (by decide +kernel))) rfl
theorem k_1454 : Cond.instanceMethod yX12_reach ∈ zall := zall_mem (List.mem_append_right _ (List.mem_of_getElem? (i := 1454) (by decide +kernel))) rfl
theorem k_1455 : Cond.code yX12_reach M_X12_reach.2.1 M_X12_reach.2.2.1 M_X12_reach.2.2.2.1 ∈ zall := zall_mem (List.mem_append_right _ (List.mem_of_getElem? (i := 1455) (by decide +kernel))) rfl
theorem k_1456 : Cond.methodLink RX12 322 yX12_stepsFrom ∈ zall := zall_mem (List.mem_append_right _ (List.mem_of_getElem? (i := 1456) (by decide +kernel))) rfl
theorem k_1458 : Cond.instanceMethod yX12_stepsFrom ∈ zall := zall_mem (List.mem_append_right _ (List.mem_of_getElem? (i := 1458) (by decide +kernel))) rfl
theorem k_1459 : Cond.code yX12_stepsFrom M_X12_stepsFrom.2.1 M_X12_stepsFrom.2.2.1 M_X12_stepsFrom.2.2.2.1 ∈ zall := zall_mem (List.mem_append_right _ (List.mem_of_getElem? (i := 1459) (by decide +kernel))) rfl
theorem k_1460 : Cond.methodLink RX12 313 yX12_inCup ∈ zall := zall_mem (List.mem_append_right _ (List.mem_of_getElem? (i := 1460) (by decide +kernel))) rfl
theorem k_1461 : Cond.static yX12_inCup ∈ zall := zall_mem (List.mem_append_right _ (List.mem_of_getElem? (i := 1461) (by decide +kernel))) rfl
theorem k_1462 : Cond.code yX12_inCup M_X12_inCup.2.1 M_X12_inCup.2.2.1 M_X12_inCup.2.2.2.1 ∈ zall := zall_mem (List.mem_append_right _ (List.mem_of_getElem? (i := 1462) (by decide +kernel))) rfl
theorem k_1463 : Cond.methodLink RX12 316 yX12_weightOf ∈ zall := zall_mem (List.mem_append_right _ (List.mem_of_getElem? (i := 1463) (by decide +kernel))) rfl
theorem k_1464 : Cond.static yX12_weightOf ∈ zall := zall_mem (List.mem_append_right _ (List.mem_of_getElem? (i := 1464) (by decide +kernel))) rfl
theorem k_1465 : Cond.code yX12_weightOf M_X12_weightOf.2.1 M_X12_weightOf.2.2.1 M_X12_weightOf.2.2.2.1 ∈ zall := zall_mem (List.mem_append_right _ (List.mem_of_getElem? (i := 1465) (by decide +kernel))) rfl
theorem k_1474 : Cond.methodLink RX12 328 yX12_wrongMistake ∈ zall := zall_mem (List.mem_append_right _ (List.mem_of_getElem? (i := 1474) (by decide +kernel))) rfl
theorem k_1476 : Cond.instanceMethod yX12_wrongMistake ∈ zall := zall_mem (List.mem_append_right _ (List.mem_of_getElem? (i := 1476) (by decide +kernel))) rfl
theorem k_1477 : Cond.code yX12_wrongMistake M_X12_wrongMistake.2.1 M_X12_wrongMistake.2.2.1 M_X12_wrongMistake.2.2.2.1 ∈ zall := zall_mem (List.mem_append_right _ (List.mem_of_getElem? (i := 1477) (by decide +kernel))) rfl
theorem k_1478 : Cond.methodLink RX12 331 yX12_mistakeBy ∈ zall := zall_mem (List.mem_append_right _ (List.mem_of_getElem? (i := 1478) (by decide +kernel))) rfl
theorem k_1480 : Cond.instanceMethod yX12_mistakeBy ∈ zall := zall_mem (List.mem_append_right _ (List.mem_of_getElem? (i := 1480) (by decide +kernel))) rfl
theorem k_1481 : Cond.code yX12_mistakeBy M_X12_mistakeBy.2.1 M_X12_mistakeBy.2.2.1 M_X12_mistakeBy.2.2.2.1 ∈ zall := zall_mem (List.mem_append_right _ (List.mem_of_getElem? (i := 1481) (by decide +kernel))) rfl
theorem k_1506 : Cond.methodLink RX12 334 yX12_buyFor ∈ zall := zall_mem (List.mem_append_right _ (List.mem_of_getElem? (i := 1506) (by decide +kernel))) rfl
theorem k_1508 : Cond.instanceMethod yX12_buyFor ∈ zall := zall_mem (List.mem_append_right _ (List.mem_of_getElem? (i := 1508) (by decide +kernel))) rfl
theorem k_1509 : Cond.code yX12_buyFor M_X12_buyFor.2.1 M_X12_buyFor.2.2.1 M_X12_buyFor.2.2.2.1 ∈ zall := zall_mem (List.mem_append_right _ (List.mem_of_getElem? (i := 1509) (by decide +kernel))) rfl
theorem k_1522 : Cond.methodLink RX12 343 yX12_weighHow ∈ zall := zall_mem (List.mem_append_right _ (List.mem_of_getElem? (i := 1522) (by decide +kernel))) rfl
theorem k_1524 : Cond.instanceMethod yX12_weighHow ∈ zall := zall_mem (List.mem_append_right _ (List.mem_of_getElem? (i := 1524) (by decide +kernel))) rfl
theorem k_1525 : Cond.code yX12_weighHow M_X12_weighHow.2.1 M_X12_weighHow.2.2.1 M_X12_weighHow.2.2.2.1 ∈ zall := zall_mem (List.mem_append_right _ (List.mem_of_getElem? (i := 1525) (by decide +kernel))) rfl
theorem k_1526 : Cond.methodLink RX12 337 yX12_onesOf ∈ zall := zall_mem (List.mem_append_right _ (List.mem_of_getElem? (i := 1526) (by decide +kernel))) rfl
theorem k_1527 : Cond.static yX12_onesOf ∈ zall := zall_mem (List.mem_append_right _ (List.mem_of_getElem? (i := 1527) (by decide +kernel))) rfl
theorem k_1528 : Cond.code yX12_onesOf M_X12_onesOf.2.1 M_X12_onesOf.2.2.1 M_X12_onesOf.2.2.2.1 ∈ zall := zall_mem (List.mem_append_right _ (List.mem_of_getElem? (i := 1528) (by decide +kernel))) rfl
theorem k_1529 : Cond.methodLink RX12 340 yX12_weighedBy ∈ zall := zall_mem (List.mem_append_right _ (List.mem_of_getElem? (i := 1529) (by decide +kernel))) rfl
theorem k_1531 : Cond.instanceMethod yX12_weighedBy ∈ zall := zall_mem (List.mem_append_right _ (List.mem_of_getElem? (i := 1531) (by decide +kernel))) rfl
theorem k_1532 : Cond.code yX12_weighedBy M_X12_weighedBy.2.1 M_X12_weighedBy.2.2.1 M_X12_weighedBy.2.2.2.1 ∈ zall := zall_mem (List.mem_append_right _ (List.mem_of_getElem? (i := 1532) (by decide +kernel))) rfl
theorem k_1537 : Cond.constantLong RX12 346 (200) ∈ zall := zall_mem (List.mem_append_right _ (List.mem_of_getElem? (i := 1537) (by decide +kernel))) rfl
theorem k_1542 : Cond.methodLink RX12 360 yX12_inTurn ∈ zall := zall_mem (List.mem_append_right _ (List.mem_of_getElem? (i := 1542) (by decide +kernel))) rfl
theorem k_1544 : Cond.instanceMethod yX12_inTurn ∈ zall := zall_mem (List.mem_append_right _ (List.mem_of_getElem? (i := 1544) (by decide +kernel))) rfl
theorem k_1545 : Cond.code yX12_inTurn M_X12_inTurn.2.1 M_X12_inTurn.2.2.1 M_X12_inTurn.2.2.2.1 ∈ zall := zall_mem (List.mem_append_right _ (List.mem_of_getElem? (i := 1545) (by decide +kernel))) rfl
theorem k_1546 : Cond.methodLink RX12 348 yX12_emptyShelves ∈ zall := zall_mem (List.mem_append_right _ (List.mem_of_getElem? (i := 1546) (by decide +kernel))) rfl
theorem k_1548 : Cond.instanceMethod yX12_emptyShelves ∈ zall := zall_mem (List.mem_append_right _ (List.mem_of_getElem? (i := 1548) (by decide +kernel))) rfl
theorem k_1549 : Cond.code yX12_emptyShelves M_X12_emptyShelves.2.1 M_X12_emptyShelves.2.2.1 M_X12_emptyShelves.2.2.2.1 ∈ zall := zall_mem (List.mem_append_right _ (List.mem_of_getElem? (i := 1549) (by decide +kernel))) rfl
theorem k_1550 : Cond.methodLink RX12 354 yX12_latestShelf ∈ zall := zall_mem (List.mem_append_right _ (List.mem_of_getElem? (i := 1550) (by decide +kernel))) rfl
theorem k_1552 : Cond.instanceMethod yX12_latestShelf ∈ zall := zall_mem (List.mem_append_right _ (List.mem_of_getElem? (i := 1552) (by decide +kernel))) rfl
theorem k_1553 : Cond.code yX12_latestShelf M_X12_latestShelf.2.1 M_X12_latestShelf.2.2.1 M_X12_latestShelf.2.2.2.1 ∈ zall := zall_mem (List.mem_append_right _ (List.mem_of_getElem? (i := 1553) (by decide +kernel))) rfl
theorem k_1554 : Cond.methodLink RX12 363 yX12_soonestCode ∈ zall := zall_mem (List.mem_append_right _ (List.mem_of_getElem? (i := 1554) (by decide +kernel))) rfl
theorem k_1556 : Cond.instanceMethod yX12_soonestCode ∈ zall := zall_mem (List.mem_append_right _ (List.mem_of_getElem? (i := 1556) (by decide +kernel))) rfl
theorem k_1557 : Cond.code yX12_soonestCode M_X12_soonestCode.2.1 M_X12_soonestCode.2.2.1 M_X12_soonestCode.2.2.2.1 ∈ zall := zall_mem (List.mem_append_right _ (List.mem_of_getElem? (i := 1557) (by decide +kernel))) rfl
theorem k_1558 : Cond.methodLink RX12 357 yX12_doneBy ∈ zall := zall_mem (List.mem_append_right _ (List.mem_of_getElem? (i := 1558) (by decide +kernel))) rfl
theorem k_1560 : Cond.instanceMethod yX12_doneBy ∈ zall := zall_mem (List.mem_append_right _ (List.mem_of_getElem? (i := 1560) (by decide +kernel))) rfl
theorem k_1561 : Cond.code yX12_doneBy M_X12_doneBy.2.1 M_X12_doneBy.2.2.1 M_X12_doneBy.2.2.2.1 ∈ zall := zall_mem (List.mem_append_right _ (List.mem_of_getElem? (i := 1561) (by decide +kernel))) rfl
theorem k_1566 : Cond.methodLink RX12 366 yX12_areBoth ∈ zall := zall_mem (List.mem_append_right _ (List.mem_of_getElem? (i := 1566) (by decide +kernel))) rfl
theorem k_1568 : Cond.instanceMethod yX12_areBoth ∈ zall := zall_mem (List.mem_append_right _ (List.mem_of_getElem? (i := 1568) (by decide +kernel))) rfl
theorem k_1569 : Cond.code yX12_areBoth M_X12_areBoth.2.1 M_X12_areBoth.2.2.1 M_X12_areBoth.2.2.2.1 ∈ zall := zall_mem (List.mem_append_right _ (List.mem_of_getElem? (i := 1569) (by decide +kernel))) rfl
theorem k_1586 : Cond.methodLink RX12 373 yX12_stepsTold ∈ zall := zall_mem (List.mem_append_right _ (List.mem_of_getElem? (i := 1586) (by decide +kernel))) rfl
theorem k_1588 : Cond.instanceMethod yX12_stepsTold ∈ zall := zall_mem (List.mem_append_right _ (List.mem_of_getElem? (i := 1588) (by decide +kernel))) rfl
theorem k_1589 : Cond.code yX12_stepsTold M_X12_stepsTold.2.1 M_X12_stepsTold.2.2.1 M_X12_stepsTold.2.2.2.1 ∈ zall := zall_mem (List.mem_append_right _ (List.mem_of_getElem? (i := 1589) (by decide +kernel))) rfl
theorem k_1590 : Cond.methodLink RX12 369 yX12_reachBy ∈ zall := zall_mem (List.mem_append_right _ (List.mem_of_getElem? (i := 1590) (by decide +kernel))) rfl
theorem k_1592 : Cond.instanceMethod yX12_reachBy ∈ zall := zall_mem (List.mem_append_right _ (List.mem_of_getElem? (i := 1592) (by decide +kernel))) rfl
theorem k_1593 : Cond.code yX12_reachBy M_X12_reachBy.2.1 M_X12_reachBy.2.2.1 M_X12_reachBy.2.2.2.1 ∈ zall := zall_mem (List.mem_append_right _ (List.mem_of_getElem? (i := 1593) (by decide +kernel))) rfl
theorem k_1594 : Cond.methodLink RX12 376 yX12_stateWith ∈ zall := zall_mem (List.mem_append_right _ (List.mem_of_getElem? (i := 1594) (by decide +kernel))) rfl
theorem k_1596 : Cond.instanceMethod yX12_stateWith ∈ zall := zall_mem (List.mem_append_right _ (List.mem_of_getElem? (i := 1596) (by decide +kernel))) rfl
theorem k_1597 : Cond.code yX12_stateWith M_X12_stateWith.2.1 M_X12_stateWith.2.2.1 M_X12_stateWith.2.2.2.1 ∈ zall := zall_mem (List.mem_append_right _ (List.mem_of_getElem? (i := 1597) (by decide +kernel))) rfl
theorem k_1606 : Cond.methodLink RX12 379 yX12_worthOf ∈ zall := zall_mem (List.mem_append_right _ (List.mem_of_getElem? (i := 1606) (by decide +kernel))) rfl
theorem k_1608 : Cond.instanceMethod yX12_worthOf ∈ zall := zall_mem (List.mem_append_right _ (List.mem_of_getElem? (i := 1608) (by decide +kernel))) rfl
theorem k_1609 : Cond.code yX12_worthOf M_X12_worthOf.2.1 M_X12_worthOf.2.2.1 M_X12_worthOf.2.2.2.1 ∈ zall := zall_mem (List.mem_append_right _ (List.mem_of_getElem? (i := 1609) (by decide +kernel))) rfl
theorem k_1610 : Cond.methodLink RX12 382 yX12_isLeftFor ∈ zall := zall_mem (List.mem_append_right _ (List.mem_of_getElem? (i := 1610) (by decide +kernel))) rfl
theorem k_1612 : Cond.instanceMethod yX12_isLeftFor ∈ zall := zall_mem (List.mem_append_right _ (List.mem_of_getElem? (i := 1612) (by decide +kernel))) rfl
theorem k_1613 : Cond.code yX12_isLeftFor M_X12_isLeftFor.2.1 M_X12_isLeftFor.2.2.1 M_X12_isLeftFor.2.2.2.1 ∈ zall := zall_mem (List.mem_append_right _ (List.mem_of_getElem? (i := 1613) (by decide +kernel))) rfl
theorem k_1618 : Cond.methodLink RX12 385 yX12_areAllAbove ∈ zall := zall_mem (List.mem_append_right _ (List.mem_of_getElem? (i := 1618) (by decide +kernel))) rfl
theorem k_1620 : Cond.instanceMethod yX12_areAllAbove ∈ zall := zall_mem (List.mem_append_right _ (List.mem_of_getElem? (i := 1620) (by decide +kernel))) rfl
theorem k_1621 : Cond.code yX12_areAllAbove M_X12_areAllAbove.2.1 M_X12_areAllAbove.2.2.1 M_X12_areAllAbove.2.2.2.1 ∈ zall := zall_mem (List.mem_append_right _ (List.mem_of_getElem? (i := 1621) (by decide +kernel))) rfl
theorem k_1622 : Cond.methodLink RX12 389 yX12_apartBy ∈ zall := zall_mem (List.mem_append_right _ (List.mem_of_getElem? (i := 1622) (by decide +kernel))) rfl
theorem k_1624 : Cond.instanceMethod yX12_apartBy ∈ zall := zall_mem (List.mem_append_right _ (List.mem_of_getElem? (i := 1624) (by decide +kernel))) rfl
theorem k_1625 : Cond.code yX12_apartBy M_X12_apartBy.2.1 M_X12_apartBy.2.2.1 M_X12_apartBy.2.2.2.1 ∈ zall := zall_mem (List.mem_append_right _ (List.mem_of_getElem? (i := 1625) (by decide +kernel))) rfl
theorem k_1634 : Cond.methodLink RX12 392 yX12_isTaken ∈ zall := zall_mem (List.mem_append_right _ (List.mem_of_getElem? (i := 1634) (by decide +kernel))) rfl
theorem k_1636 : Cond.instanceMethod yX12_isTaken ∈ zall := zall_mem (List.mem_append_right _ (List.mem_of_getElem? (i := 1636) (by decide +kernel))) rfl
theorem k_1637 : Cond.code yX12_isTaken M_X12_isTaken.2.1 M_X12_isTaken.2.2.1 M_X12_isTaken.2.2.2.1 ∈ zall := zall_mem (List.mem_append_right _ (List.mem_of_getElem? (i := 1637) (by decide +kernel))) rfl
theorem k_1638 : Cond.methodLink RX12 395 yX12_readNumbers ∈ zall := zall_mem (List.mem_append_right _ (List.mem_of_getElem? (i := 1638) (by decide +kernel))) rfl
theorem k_1640 : Cond.instanceMethod yX12_readNumbers ∈ zall := zall_mem (List.mem_append_right _ (List.mem_of_getElem? (i := 1640) (by decide +kernel))) rfl
theorem k_1641 : Cond.code yX12_readNumbers M_X12_readNumbers.2.1 M_X12_readNumbers.2.2.1 M_X12_readNumbers.2.2.2.1 ∈ zall := zall_mem (List.mem_append_right _ (List.mem_of_getElem? (i := 1641) (by decide +kernel))) rfl
theorem k_1654 : Cond.constant RX12 398 (1103515245) ∈ zall := zall_mem (List.mem_append_right _ (List.mem_of_getElem? (i := 1654) (by decide +kernel))) rfl
theorem k_1655 : Cond.constant RX12 399 (2147483647) ∈ zall := zall_mem (List.mem_append_right _ (List.mem_of_getElem? (i := 1655) (by decide +kernel))) rfl
theorem k_1656 : Cond.constant RX12 400 (65536) ∈ zall := zall_mem (List.mem_append_right _ (List.mem_of_getElem? (i := 1656) (by decide +kernel))) rfl
theorem k_1661 : Cond.constantLong RX12 401 (20) ∈ zall := zall_mem (List.mem_append_right _ (List.mem_of_getElem? (i := 1661) (by decide +kernel))) rfl
theorem k_1662 : Cond.constantLong RX12 403 (22) ∈ zall := zall_mem (List.mem_append_right _ (List.mem_of_getElem? (i := 1662) (by decide +kernel))) rfl
theorem k_1663 : Cond.constantLong RX12 405 (11) ∈ zall := zall_mem (List.mem_append_right _ (List.mem_of_getElem? (i := 1663) (by decide +kernel))) rfl
theorem k_1664 : Cond.constantLong RX12 407 (16) ∈ zall := zall_mem (List.mem_append_right _ (List.mem_of_getElem? (i := 1664) (by decide +kernel))) rfl
theorem kp_0 : Cond.selects yX11_refused_.cls yX11_refused_ yX11_refused_ ∈ zall := zall_mem (List.mem_append_left _ (List.mem_of_getElem? (i := 0) (by decide +kernel))) rfl
theorem kp_1 : Cond.selects yX11_refused.cls yX11_refused yX11_refused ∈ zall := zall_mem (List.mem_append_left _ (List.mem_of_getElem? (i := 1) (by decide +kernel))) rfl
theorem kp_2 : Cond.selects yX1_hasForm.cls yX1_hasForm yX1_hasForm ∈ zall := zall_mem (List.mem_append_left _ (List.mem_of_getElem? (i := 2) (by decide +kernel))) rfl
theorem kp_3 : Cond.selects yX1_statementRead.cls yX1_statementRead yX1_statementRead ∈ zall := zall_mem (List.mem_append_left _ (List.mem_of_getElem? (i := 3) (by decide +kernel))) rfl
theorem kp_4 : Cond.selects yX1_signRead.cls yX1_signRead yX1_signRead ∈ zall := zall_mem (List.mem_append_left _ (List.mem_of_getElem? (i := 4) (by decide +kernel))) rfl
theorem kp_5 : Cond.selects yX1_numberRead.cls yX1_numberRead yX1_numberRead ∈ zall := zall_mem (List.mem_append_left _ (List.mem_of_getElem? (i := 5) (by decide +kernel))) rfl
theorem kp_6 : Cond.selects yX1_shapeRead.cls yX1_shapeRead yX1_shapeRead ∈ zall := zall_mem (List.mem_append_left _ (List.mem_of_getElem? (i := 6) (by decide +kernel))) rfl
theorem kp_7 : Cond.selects yX1_statementsTo.cls yX1_statementsTo yX1_statementsTo ∈ zall := zall_mem (List.mem_append_left _ (List.mem_of_getElem? (i := 7) (by decide +kernel))) rfl
theorem kp_8 : Cond.selects yX1_statementCame.cls yX1_statementCame yX1_statementCame ∈ zall := zall_mem (List.mem_append_left _ (List.mem_of_getElem? (i := 8) (by decide +kernel))) rfl
theorem kp_9 : Cond.selects yX1_forCame.cls yX1_forCame yX1_forCame ∈ zall := zall_mem (List.mem_append_left _ (List.mem_of_getElem? (i := 9) (by decide +kernel))) rfl
theorem kp_10 : Cond.selects yX1_within.cls yX1_within yX1_within ∈ zall := zall_mem (List.mem_append_left _ (List.mem_of_getElem? (i := 10) (by decide +kernel))) rfl
theorem kp_11 : Cond.selects yX1_number.cls yX1_number yX1_number ∈ zall := zall_mem (List.mem_append_left _ (List.mem_of_getElem? (i := 11) (by decide +kernel))) rfl
theorem kp_12 : Cond.selects yX1_partCame.cls yX1_partCame yX1_partCame ∈ zall := zall_mem (List.mem_append_left _ (List.mem_of_getElem? (i := 12) (by decide +kernel))) rfl
theorem kp_13 : Cond.selects yX1_lineCame.cls yX1_lineCame yX1_lineCame ∈ zall := zall_mem (List.mem_append_left _ (List.mem_of_getElem? (i := 13) (by decide +kernel))) rfl
theorem kp_14 : Cond.selects yX1_houseCame.cls yX1_houseCame yX1_houseCame ∈ zall := zall_mem (List.mem_append_left _ (List.mem_of_getElem? (i := 14) (by decide +kernel))) rfl
theorem kp_15 : Cond.selects yX1_tinCame.cls yX1_tinCame yX1_tinCame ∈ zall := zall_mem (List.mem_append_left _ (List.mem_of_getElem? (i := 15) (by decide +kernel))) rfl
theorem kp_16 : Cond.selects yX1_standInCame.cls yX1_standInCame yX1_standInCame ∈ zall := zall_mem (List.mem_append_left _ (List.mem_of_getElem? (i := 16) (by decide +kernel))) rfl
theorem kp_17 : Cond.selects yX1_cupsCame.cls yX1_cupsCame yX1_cupsCame ∈ zall := zall_mem (List.mem_append_left _ (List.mem_of_getElem? (i := 17) (by decide +kernel))) rfl
theorem kp_18 : Cond.selects yX11_noPart.cls yX11_noPart yX11_noPart ∈ zall := zall_mem (List.mem_append_left _ (List.mem_of_getElem? (i := 18) (by decide +kernel))) rfl
theorem kp_19 : Cond.selects yX11_refused__.cls yX11_refused__ yX11_refused__ ∈ zall := zall_mem (List.mem_append_left _ (List.mem_of_getElem? (i := 19) (by decide +kernel))) rfl
theorem kp_20 : Cond.selects yX11_partBecomes.cls yX11_partBecomes yX11_partBecomes ∈ zall := zall_mem (List.mem_append_left _ (List.mem_of_getElem? (i := 20) (by decide +kernel))) rfl
theorem kp_21 : Cond.selects yX7_letStandIn.cls yX7_letStandIn yX7_letStandIn ∈ zall := zall_mem (List.mem_append_left _ (List.mem_of_getElem? (i := 21) (by decide +kernel))) rfl
theorem kp_22 : Cond.selects yX7_letMake.cls yX7_letMake yX7_letMake ∈ zall := zall_mem (List.mem_append_left _ (List.mem_of_getElem? (i := 22) (by decide +kernel))) rfl
theorem kp_23 : Cond.selects yX5_seekAll.cls yX5_seekAll yX5_seekAll ∈ zall := zall_mem (List.mem_append_left _ (List.mem_of_getElem? (i := 23) (by decide +kernel))) rfl
theorem kp_24 : Cond.selects yX5_comes.cls yX5_comes yX5_comes ∈ zall := zall_mem (List.mem_append_left _ (List.mem_of_getElem? (i := 24) (by decide +kernel))) rfl
theorem kp_25 : Cond.selects yX5_goOnFrom.cls yX5_goOnFrom yX5_goOnFrom ∈ zall := zall_mem (List.mem_append_left _ (List.mem_of_getElem? (i := 25) (by decide +kernel))) rfl
theorem kp_26 : Cond.selects yX5_firstWith.cls yX5_firstWith yX5_firstWith ∈ zall := zall_mem (List.mem_append_left _ (List.mem_of_getElem? (i := 26) (by decide +kernel))) rfl
theorem kp_27 : Cond.selects yX5_stepsTo.cls yX5_stepsTo yX5_stepsTo ∈ zall := zall_mem (List.mem_append_left _ (List.mem_of_getElem? (i := 27) (by decide +kernel))) rfl
theorem kp_28 : Cond.selects yX11_noPartOf.cls yX11_noPartOf yX11_noPartOf ∈ zall := zall_mem (List.mem_append_left _ (List.mem_of_getElem? (i := 28) (by decide +kernel))) rfl
theorem kp_29 : Cond.selects yX11_rowNotForParts.cls yX11_rowNotForParts yX11_rowNotForParts ∈ zall := zall_mem (List.mem_append_left _ (List.mem_of_getElem? (i := 29) (by decide +kernel))) rfl
theorem kp_30 : Cond.selects yX0_seekAll.cls yX0_seekAll yX0_seekAll ∈ zall := zall_mem (List.mem_append_left _ (List.mem_of_getElem? (i := 30) (by decide +kernel))) rfl
theorem kp_31 : Cond.selects yX0_seen.cls yX0_seen yX0_seen ∈ zall := zall_mem (List.mem_append_left _ (List.mem_of_getElem? (i := 31) (by decide +kernel))) rfl
theorem kp_32 : Cond.selects yX4_freeFirst.cls yX4_freeFirst yX4_freeFirst ∈ zall := zall_mem (List.mem_append_left _ (List.mem_of_getElem? (i := 32) (by decide +kernel))) rfl
theorem kp_33 : Cond.selects yX4_putOn.cls yX4_putOn yX4_putOn ∈ zall := zall_mem (List.mem_append_left _ (List.mem_of_getElem? (i := 33) (by decide +kernel))) rfl
theorem kp_34 : Cond.selects yX4_allDone.cls yX4_allDone yX4_allDone ∈ zall := zall_mem (List.mem_append_left _ (List.mem_of_getElem? (i := 34) (by decide +kernel))) rfl
theorem kp_35 : Cond.selects yX4_nextWay.cls yX4_nextWay yX4_nextWay ∈ zall := zall_mem (List.mem_append_left _ (List.mem_of_getElem? (i := 35) (by decide +kernel))) rfl
theorem kp_36 : Cond.selects yX11_notTwoParts.cls yX11_notTwoParts yX11_notTwoParts ∈ zall := zall_mem (List.mem_append_left _ (List.mem_of_getElem? (i := 36) (by decide +kernel))) rfl
theorem kp_37 : Cond.selects yX12_refuse.cls yX12_refuse yX12_refuse ∈ zall := zall_mem (List.mem_append_left _ (List.mem_of_getElem? (i := 37) (by decide +kernel))) rfl
theorem kp_38 : Cond.selects yX12_readStatement.cls yX12_readStatement yX12_readStatement ∈ zall := zall_mem (List.mem_append_left _ (List.mem_of_getElem? (i := 38) (by decide +kernel))) rfl
theorem kp_39 : Cond.selects yX12_here.cls yX12_here yX12_here ∈ zall := zall_mem (List.mem_append_left _ (List.mem_of_getElem? (i := 39) (by decide +kernel))) rfl
theorem kp_40 : Cond.selects yX12_readOneOrTwo.cls yX12_readOneOrTwo yX12_readOneOrTwo ∈ zall := zall_mem (List.mem_append_left _ (List.mem_of_getElem? (i := 40) (by decide +kernel))) rfl
theorem kp_41 : Cond.selects yX12_readDigit.cls yX12_readDigit yX12_readDigit ∈ zall := zall_mem (List.mem_append_left _ (List.mem_of_getElem? (i := 41) (by decide +kernel))) rfl
theorem kp_42 : Cond.selects yX12_readMany.cls yX12_readMany yX12_readMany ∈ zall := zall_mem (List.mem_append_left _ (List.mem_of_getElem? (i := 42) (by decide +kernel))) rfl
theorem kp_43 : Cond.selects yX12_take.cls yX12_take yX12_take ∈ zall := zall_mem (List.mem_append_left _ (List.mem_of_getElem? (i := 43) (by decide +kernel))) rfl
theorem kp_44 : Cond.selects yX12_readShape.cls yX12_readShape yX12_readShape ∈ zall := zall_mem (List.mem_append_left _ (List.mem_of_getElem? (i := 44) (by decide +kernel))) rfl
theorem kp_45 : Cond.selects yX12_readTwo.cls yX12_readTwo yX12_readTwo ∈ zall := zall_mem (List.mem_append_left _ (List.mem_of_getElem? (i := 45) (by decide +kernel))) rfl
theorem kp_46 : Cond.selects yX12_carryAll.cls yX12_carryAll yX12_carryAll ∈ zall := zall_mem (List.mem_append_left _ (List.mem_of_getElem? (i := 46) (by decide +kernel))) rfl
theorem kp_47 : Cond.selects yX12_carry.cls yX12_carry yX12_carry ∈ zall := zall_mem (List.mem_append_left _ (List.mem_of_getElem? (i := 47) (by decide +kernel))) rfl
theorem kp_48 : Cond.selects yX12_comes.cls yX12_comes yX12_comes ∈ zall := zall_mem (List.mem_append_left _ (List.mem_of_getElem? (i := 48) (by decide +kernel))) rfl
theorem kp_49 : Cond.selects yX12_partComes.cls yX12_partComes yX12_partComes ∈ zall := zall_mem (List.mem_append_left _ (List.mem_of_getElem? (i := 49) (by decide +kernel))) rfl
theorem kp_50 : Cond.selects yX12_isPart.cls yX12_isPart yX12_isPart ∈ zall := zall_mem (List.mem_append_left _ (List.mem_of_getElem? (i := 50) (by decide +kernel))) rfl
theorem kp_51 : Cond.selects yX12_tinComes.cls yX12_tinComes yX12_tinComes ∈ zall := zall_mem (List.mem_append_left _ (List.mem_of_getElem? (i := 51) (by decide +kernel))) rfl
theorem kp_52 : Cond.selects yX12_standInComes.cls yX12_standInComes yX12_standInComes ∈ zall := zall_mem (List.mem_append_left _ (List.mem_of_getElem? (i := 52) (by decide +kernel))) rfl
theorem kp_53 : Cond.selects yX12_hasStandIn.cls yX12_hasStandIn yX12_hasStandIn ∈ zall := zall_mem (List.mem_append_left _ (List.mem_of_getElem? (i := 53) (by decide +kernel))) rfl
theorem kp_54 : Cond.selects yX12_cupsCome.cls yX12_cupsCome yX12_cupsCome ∈ zall := zall_mem (List.mem_append_left _ (List.mem_of_getElem? (i := 54) (by decide +kernel))) rfl
theorem kp_55 : Cond.selects yX12_takenFor.cls yX12_takenFor yX12_takenFor ∈ zall := zall_mem (List.mem_append_left _ (List.mem_of_getElem? (i := 55) (by decide +kernel))) rfl
theorem kp_56 : Cond.selects yX12_takenBy.cls yX12_takenBy yX12_takenBy ∈ zall := zall_mem (List.mem_append_left _ (List.mem_of_getElem? (i := 56) (by decide +kernel))) rfl
theorem kp_57 : Cond.selects yX12_leftOf.cls yX12_leftOf yX12_leftOf ∈ zall := zall_mem (List.mem_append_left _ (List.mem_of_getElem? (i := 57) (by decide +kernel))) rfl
theorem kp_58 : Cond.selects yX12_keepGuests.cls yX12_keepGuests yX12_keepGuests ∈ zall := zall_mem (List.mem_append_left _ (List.mem_of_getElem? (i := 58) (by decide +kernel))) rfl
theorem kp_59 : Cond.selects yX12_offOf.cls yX12_offOf yX12_offOf ∈ zall := zall_mem (List.mem_append_left _ (List.mem_of_getElem? (i := 59) (by decide +kernel))) rfl
theorem kp_60 : Cond.selects yX12_offBy.cls yX12_offBy yX12_offBy ∈ zall := zall_mem (List.mem_append_left _ (List.mem_of_getElem? (i := 60) (by decide +kernel))) rfl
theorem kp_61 : Cond.selects yX12_isOut.cls yX12_isOut yX12_isOut ∈ zall := zall_mem (List.mem_append_left _ (List.mem_of_getElem? (i := 61) (by decide +kernel))) rfl
theorem kp_62 : Cond.selects yX12_greatestOff.cls yX12_greatestOff yX12_greatestOff ∈ zall := zall_mem (List.mem_append_left _ (List.mem_of_getElem? (i := 62) (by decide +kernel))) rfl
theorem kp_63 : Cond.selects yX12_isTin.cls yX12_isTin yX12_isTin ∈ zall := zall_mem (List.mem_append_left _ (List.mem_of_getElem? (i := 63) (by decide +kernel))) rfl
theorem kp_64 : Cond.selects yX12_areaOf.cls yX12_areaOf yX12_areaOf ∈ zall := zall_mem (List.mem_append_left _ (List.mem_of_getElem? (i := 64) (by decide +kernel))) rfl
theorem kp_65 : Cond.selects yX12_longIn.cls yX12_longIn yX12_longIn ∈ zall := zall_mem (List.mem_append_left _ (List.mem_of_getElem? (i := 65) (by decide +kernel))) rfl
theorem kp_66 : Cond.selects yX12_isEnough.cls yX12_isEnough yX12_isEnough ∈ zall := zall_mem (List.mem_append_left _ (List.mem_of_getElem? (i := 66) (by decide +kernel))) rfl
theorem kp_67 : Cond.selects yX12_lackOf.cls yX12_lackOf yX12_lackOf ∈ zall := zall_mem (List.mem_append_left _ (List.mem_of_getElem? (i := 67) (by decide +kernel))) rfl
theorem kp_68 : Cond.selects yX12_timesOf.cls yX12_timesOf yX12_timesOf ∈ zall := zall_mem (List.mem_append_left _ (List.mem_of_getElem? (i := 68) (by decide +kernel))) rfl
theorem kp_69 : Cond.selects yX12_useOnce.cls yX12_useOnce yX12_useOnce ∈ zall := zall_mem (List.mem_append_left _ (List.mem_of_getElem? (i := 69) (by decide +kernel))) rfl
theorem kp_70 : Cond.selects yX12_pourAll.cls yX12_pourAll yX12_pourAll ∈ zall := zall_mem (List.mem_append_left _ (List.mem_of_getElem? (i := 70) (by decide +kernel))) rfl
theorem kp_71 : Cond.selects yX12_reach.cls yX12_reach yX12_reach ∈ zall := zall_mem (List.mem_append_left _ (List.mem_of_getElem? (i := 71) (by decide +kernel))) rfl
theorem kp_72 : Cond.selects yX12_stepsFrom.cls yX12_stepsFrom yX12_stepsFrom ∈ zall := zall_mem (List.mem_append_left _ (List.mem_of_getElem? (i := 72) (by decide +kernel))) rfl
theorem kp_73 : Cond.selects yX12_wrongMistake.cls yX12_wrongMistake yX12_wrongMistake ∈ zall := zall_mem (List.mem_append_left _ (List.mem_of_getElem? (i := 73) (by decide +kernel))) rfl
theorem kp_74 : Cond.selects yX12_mistakeBy.cls yX12_mistakeBy yX12_mistakeBy ∈ zall := zall_mem (List.mem_append_left _ (List.mem_of_getElem? (i := 74) (by decide +kernel))) rfl
theorem kp_75 : Cond.selects yX12_buyFor.cls yX12_buyFor yX12_buyFor ∈ zall := zall_mem (List.mem_append_left _ (List.mem_of_getElem? (i := 75) (by decide +kernel))) rfl
theorem kp_76 : Cond.selects yX12_weighHow.cls yX12_weighHow yX12_weighHow ∈ zall := zall_mem (List.mem_append_left _ (List.mem_of_getElem? (i := 76) (by decide +kernel))) rfl
theorem kp_77 : Cond.selects yX12_weighedBy.cls yX12_weighedBy yX12_weighedBy ∈ zall := zall_mem (List.mem_append_left _ (List.mem_of_getElem? (i := 77) (by decide +kernel))) rfl
theorem kp_78 : Cond.selects yX12_inTurn.cls yX12_inTurn yX12_inTurn ∈ zall := zall_mem (List.mem_append_left _ (List.mem_of_getElem? (i := 78) (by decide +kernel))) rfl
theorem kp_79 : Cond.selects yX12_emptyShelves.cls yX12_emptyShelves yX12_emptyShelves ∈ zall := zall_mem (List.mem_append_left _ (List.mem_of_getElem? (i := 79) (by decide +kernel))) rfl
theorem kp_80 : Cond.selects yX12_latestShelf.cls yX12_latestShelf yX12_latestShelf ∈ zall := zall_mem (List.mem_append_left _ (List.mem_of_getElem? (i := 80) (by decide +kernel))) rfl
theorem kp_81 : Cond.selects yX12_soonestCode.cls yX12_soonestCode yX12_soonestCode ∈ zall := zall_mem (List.mem_append_left _ (List.mem_of_getElem? (i := 81) (by decide +kernel))) rfl
theorem kp_82 : Cond.selects yX12_doneBy.cls yX12_doneBy yX12_doneBy ∈ zall := zall_mem (List.mem_append_left _ (List.mem_of_getElem? (i := 82) (by decide +kernel))) rfl
theorem kp_83 : Cond.selects yX12_areBoth.cls yX12_areBoth yX12_areBoth ∈ zall := zall_mem (List.mem_append_left _ (List.mem_of_getElem? (i := 83) (by decide +kernel))) rfl
theorem kp_84 : Cond.selects yX12_stepsTold.cls yX12_stepsTold yX12_stepsTold ∈ zall := zall_mem (List.mem_append_left _ (List.mem_of_getElem? (i := 84) (by decide +kernel))) rfl
theorem kp_85 : Cond.selects yX12_reachBy.cls yX12_reachBy yX12_reachBy ∈ zall := zall_mem (List.mem_append_left _ (List.mem_of_getElem? (i := 85) (by decide +kernel))) rfl
theorem kp_86 : Cond.selects yX12_stateWith.cls yX12_stateWith yX12_stateWith ∈ zall := zall_mem (List.mem_append_left _ (List.mem_of_getElem? (i := 86) (by decide +kernel))) rfl
theorem kp_87 : Cond.selects yX12_worthOf.cls yX12_worthOf yX12_worthOf ∈ zall := zall_mem (List.mem_append_left _ (List.mem_of_getElem? (i := 87) (by decide +kernel))) rfl
theorem kp_88 : Cond.selects yX12_isLeftFor.cls yX12_isLeftFor yX12_isLeftFor ∈ zall := zall_mem (List.mem_append_left _ (List.mem_of_getElem? (i := 88) (by decide +kernel))) rfl
theorem kp_89 : Cond.selects yX12_areAllAbove.cls yX12_areAllAbove yX12_areAllAbove ∈ zall := zall_mem (List.mem_append_left _ (List.mem_of_getElem? (i := 89) (by decide +kernel))) rfl
theorem kp_90 : Cond.selects yX12_apartBy.cls yX12_apartBy yX12_apartBy ∈ zall := zall_mem (List.mem_append_left _ (List.mem_of_getElem? (i := 90) (by decide +kernel))) rfl
theorem kp_91 : Cond.selects yX12_isTaken.cls yX12_isTaken yX12_isTaken ∈ zall := zall_mem (List.mem_append_left _ (List.mem_of_getElem? (i := 91) (by decide +kernel))) rfl
theorem kp_92 : Cond.selects yX12_readNumbers.cls yX12_readNumbers yX12_readNumbers ∈ zall := zall_mem (List.mem_append_left _ (List.mem_of_getElem? (i := 92) (by decide +kernel))) rfl
theorem zw_X0 : ∀ w ∈ wsX00, w ∈ zall := by
  intro w hw
  have h : wsX00 = [179].filterMap (fun i => tables_1[i]?) := by decide +kernel
  have hg : wsX00.all goodWord = true := by decide +kernel
  have h2 := List.all_eq_true.mp hg w hw
  rw [h] at hw
  obtain ⟨i, -, hi⟩ := List.mem_filterMap.mp hw
  exact zall_mem (List.mem_append_right _ (List.mem_of_getElem? hi)) h2
theorem zc_X0 : zcl 0 RX0 TX0 1 tyX0 := ⟨rfl, zw_X0, tyX0_ok, nmX0⟩
theorem zw_X1 : ∀ w ∈ wsX10, w ∈ zall := by
  intro w hw
  have h : wsX10 = [134, 136, 138].filterMap (fun i => tables_1[i]?) := by decide +kernel
  have hg : wsX10.all goodWord = true := by decide +kernel
  have h2 := List.all_eq_true.mp hg w hw
  rw [h] at hw
  obtain ⟨i, -, hi⟩ := List.mem_filterMap.mp hw
  exact zall_mem (List.mem_append_right _ (List.mem_of_getElem? hi)) h2
theorem zc_X1 : zcl 1 RX1 TX1 3 tyX1 := ⟨rfl, zw_X1, tyX1_ok, nmX1⟩
theorem zw_X3 : ∀ w ∈ wsX30, w ∈ zall := by
  intro w hw
  have h : wsX30 = [102, 104, 106, 108, 110, 112, 114, 116, 118, 120].filterMap (fun i => tables_1[i]?) := by decide +kernel
  have hg : wsX30.all goodWord = true := by decide +kernel
  have h2 := List.all_eq_true.mp hg w hw
  rw [h] at hw
  obtain ⟨i, -, hi⟩ := List.mem_filterMap.mp hw
  exact zall_mem (List.mem_append_right _ (List.mem_of_getElem? hi)) h2
theorem zc_X3 : zcl 2 RX3 TX3 10 tyX3 := ⟨rfl, zw_X3, tyX3_ok, nmX3⟩
theorem zw_X4 : ∀ w ∈ wsX40, w ∈ zall := by
  intro w hw
  have h : wsX40 = [191].filterMap (fun i => tables_1[i]?) := by decide +kernel
  have hg : wsX40.all goodWord = true := by decide +kernel
  have h2 := List.all_eq_true.mp hg w hw
  rw [h] at hw
  obtain ⟨i, -, hi⟩ := List.mem_filterMap.mp hw
  exact zall_mem (List.mem_append_right _ (List.mem_of_getElem? hi)) h2
theorem zc_X4 : zcl 3 RX4 TX4 1 tyX4 := ⟨rfl, zw_X4, tyX4_ok, nmX4⟩
theorem zw_X5 : ∀ w ∈ wsX50, w ∈ zall := by
  intro w hw
  have h : wsX50 = [165, 167].filterMap (fun i => tables_1[i]?) := by decide +kernel
  have hg : wsX50.all goodWord = true := by decide +kernel
  have h2 := List.all_eq_true.mp hg w hw
  rw [h] at hw
  obtain ⟨i, -, hi⟩ := List.mem_filterMap.mp hw
  exact zall_mem (List.mem_append_right _ (List.mem_of_getElem? hi)) h2
theorem zc_X5 : zcl 4 RX5 TX5 2 tyX5 := ⟨rfl, zw_X5, tyX5_ok, nmX5⟩
theorem zw_X7 : ∀ w ∈ wsX70, w ∈ zall := by
  intro w hw
  have h : wsX70 = [152].filterMap (fun i => tables_1[i]?) := by decide +kernel
  have hg : wsX70.all goodWord = true := by decide +kernel
  have h2 := List.all_eq_true.mp hg w hw
  rw [h] at hw
  obtain ⟨i, -, hi⟩ := List.mem_filterMap.mp hw
  exact zall_mem (List.mem_append_right _ (List.mem_of_getElem? hi)) h2
theorem zc_X7 : zcl 5 RX7 TX7 1 tyX7 := ⟨rfl, zw_X7, tyX7_ok, nmX7⟩
theorem zw_X9 : ∀ w ∈ wsX90, w ∈ zall := by
  intro w hw
  have h : wsX90 = [47, 49, 51, 53].filterMap (fun i => tables_1[i]?) := by decide +kernel
  have hg : wsX90.all goodWord = true := by decide +kernel
  have h2 := List.all_eq_true.mp hg w hw
  rw [h] at hw
  obtain ⟨i, -, hi⟩ := List.mem_filterMap.mp hw
  exact zall_mem (List.mem_append_right _ (List.mem_of_getElem? hi)) h2
theorem zc_X9 : zcl 6 RX9 TX9 4 tyX9 := ⟨rfl, zw_X9, tyX9_ok, nmX9⟩
theorem zw_X11 : ∀ w ∈ wsX110, w ∈ zall := by
  intro w hw
  have h : wsX110 = [207, 209, 211, 213, 215, 217, 219, 221, 223, 225, 227, 229].filterMap (fun i => tables_1[i]?) := by decide +kernel
  have hg : wsX110.all goodWord = true := by decide +kernel
  have h2 := List.all_eq_true.mp hg w hw
  rw [h] at hw
  obtain ⟨i, -, hi⟩ := List.mem_filterMap.mp hw
  exact zall_mem (List.mem_append_right _ (List.mem_of_getElem? hi)) h2
theorem zc_X11 : zcl 7 RX11 TX11 12 tyX11 := ⟨rfl, zw_X11, tyX11_ok, nmX11⟩
theorem zw_X12 : ∀ w ∈ wsX120, w ∈ zall := by
  intro w hw
  have h : wsX120 = [1088, 1090, 1092, 1094, 1096, 1098, 1100, 1102, 1104, 1106, 1108, 1110, 1112, 1114, 1116, 1118, 1120, 1122, 1124, 1126, 1128, 1130, 1132, 1134, 1136, 1138, 1140, 1142, 1144, 1146, 1148, 1150, 1152, 1154, 1156, 1158, 1160, 1162, 1164, 1166, 1168, 1170, 1172, 1174, 1176, 1178, 1180, 1182, 1184, 1186].filterMap (fun i => tables_1[i]?) := by decide +kernel
  have hg : wsX120.all goodWord = true := by decide +kernel
  have h2 := List.all_eq_true.mp hg w hw
  rw [h] at hw
  obtain ⟨i, -, hi⟩ := List.mem_filterMap.mp hw
  exact zall_mem (List.mem_append_right _ (List.mem_of_getElem? hi)) h2
theorem zc_X12 : zcl 8 RX12 TX12 50 tyX12 := ⟨rfl, zw_X12, tyX12_ok, nmX12⟩
def LX : List ZKD := [(0, 7, [some (some 1), some (some 14), some (some 27), none, some (some 40), some (some 45), some (some 47), some (some 49), some (some 51), some (some 54), some (some 59), some (some 62)]),
  (0, 2, [none, none, none, none, some (some 2), some (some 4), some (some 6), some (some 8), some (some 10), some (some 12)]),
  (0, 6, [some (some 3), none, none, none]),
  (1, 56, []),
  (0, 6, [some (some 5), none, none, none]),
  (1, 10, []),
  (0, 6, [some (some 7), none, none, none]),
  (1, 30, []),
  (0, 6, [some (some 9), none, none, none]),
  (1, 3, []),
  (0, 6, [some (some 11), none, none, none]),
  (1, 5, []),
  (0, 6, [some (some 13), none, none, none]),
  (1, 20, []),
  (0, 2, [none, none, none, none, some (some 15), some (some 17), some (some 19), some (some 21), some (some 23), some (some 25)]),
  (0, 6, [some (some 16), none, none, none]),
  (1, 56, []),
  (0, 6, [some (some 18), none, none, none]),
  (1, 10, []),
  (0, 6, [some (some 20), none, none, none]),
  (1, 30, []),
  (0, 6, [some (some 22), none, none, none]),
  (1, 3, []),
  (0, 6, [some (some 24), none, none, none]),
  (1, 5, []),
  (0, 6, [some (some 26), none, none, none]),
  (1, 20, []),
  (0, 2, [none, none, none, none, some (some 28), some (some 30), some (some 32), some (some 34), some (some 36), some (some 38)]),
  (0, 6, [some (some 29), none, none, none]),
  (1, 56, []),
  (0, 6, [some (some 31), none, none, none]),
  (1, 10, []),
  (0, 6, [some (some 33), none, none, none]),
  (1, 30, []),
  (0, 6, [some (some 35), none, none, none]),
  (1, 3, []),
  (0, 6, [some (some 37), none, none, none]),
  (1, 5, []),
  (0, 6, [some (some 39), none, none, none]),
  (1, 20, []),
  (0, 1, [some (some 41), some (some 43), none]),
  (0, 6, [some (some 42), none, none, none]),
  (1, 96, []),
  (0, 6, [some (some 44), none, none, none]),
  (1, 5, []),
  (0, 6, [some (some 46), none, none, none]),
  (1, 8, []),
  (0, 6, [some (some 48), none, none, none]),
  (1, 8, []),
  (0, 6, [some (some 50), none, none, none]),
  (1, 7, []),
  (0, 5, [some (some 52)]),
  (0, 6, [some (some 53), none, none, none]),
  (1, 100, []),
  (0, 4, [some (some 55), some (some 57)]),
  (0, 6, [some (some 56), none, none, none]),
  (1, 2197, []),
  (0, 6, [some (some 58), none, none, none]),
  (1, 4394, []),
  (0, 0, [some (some 60)]),
  (0, 6, [some (some 61), none, none, none]),
  (1, 201, []),
  (0, 3, [some (some 63)]),
  (0, 6, [some (some 64), none, none, none]),
  (1, 3, [])]
theorem lx_0 : LX[0]? = some (0, 7, [some (some 1), some (some 14), some (some 27), none, some (some 40), some (some 45), some (some 47), some (some 49), some (some 51), some (some 54), some (some 59), some (some 62)]) := rfl
theorem lx_1 : LX[1]? = some (0, 2, [none, none, none, none, some (some 2), some (some 4), some (some 6), some (some 8), some (some 10), some (some 12)]) := rfl
theorem lx_2 : LX[2]? = some (0, 6, [some (some 3), none, none, none]) := rfl
theorem lx_3 : LX[3]? = some (1, 56, []) := rfl
theorem lx_4 : LX[4]? = some (0, 6, [some (some 5), none, none, none]) := rfl
theorem lx_5 : LX[5]? = some (1, 10, []) := rfl
theorem lx_6 : LX[6]? = some (0, 6, [some (some 7), none, none, none]) := rfl
theorem lx_7 : LX[7]? = some (1, 30, []) := rfl
theorem lx_8 : LX[8]? = some (0, 6, [some (some 9), none, none, none]) := rfl
theorem lx_9 : LX[9]? = some (1, 3, []) := rfl
theorem lx_10 : LX[10]? = some (0, 6, [some (some 11), none, none, none]) := rfl
theorem lx_11 : LX[11]? = some (1, 5, []) := rfl
theorem lx_12 : LX[12]? = some (0, 6, [some (some 13), none, none, none]) := rfl
theorem lx_13 : LX[13]? = some (1, 20, []) := rfl
theorem lx_14 : LX[14]? = some (0, 2, [none, none, none, none, some (some 15), some (some 17), some (some 19), some (some 21), some (some 23), some (some 25)]) := rfl
theorem lx_15 : LX[15]? = some (0, 6, [some (some 16), none, none, none]) := rfl
theorem lx_16 : LX[16]? = some (1, 56, []) := rfl
theorem lx_17 : LX[17]? = some (0, 6, [some (some 18), none, none, none]) := rfl
theorem lx_18 : LX[18]? = some (1, 10, []) := rfl
theorem lx_19 : LX[19]? = some (0, 6, [some (some 20), none, none, none]) := rfl
theorem lx_20 : LX[20]? = some (1, 30, []) := rfl
theorem lx_21 : LX[21]? = some (0, 6, [some (some 22), none, none, none]) := rfl
theorem lx_22 : LX[22]? = some (1, 3, []) := rfl
theorem lx_23 : LX[23]? = some (0, 6, [some (some 24), none, none, none]) := rfl
theorem lx_24 : LX[24]? = some (1, 5, []) := rfl
theorem lx_25 : LX[25]? = some (0, 6, [some (some 26), none, none, none]) := rfl
theorem lx_26 : LX[26]? = some (1, 20, []) := rfl
theorem lx_27 : LX[27]? = some (0, 2, [none, none, none, none, some (some 28), some (some 30), some (some 32), some (some 34), some (some 36), some (some 38)]) := rfl
theorem lx_28 : LX[28]? = some (0, 6, [some (some 29), none, none, none]) := rfl
theorem lx_29 : LX[29]? = some (1, 56, []) := rfl
theorem lx_30 : LX[30]? = some (0, 6, [some (some 31), none, none, none]) := rfl
theorem lx_31 : LX[31]? = some (1, 10, []) := rfl
theorem lx_32 : LX[32]? = some (0, 6, [some (some 33), none, none, none]) := rfl
theorem lx_33 : LX[33]? = some (1, 30, []) := rfl
theorem lx_34 : LX[34]? = some (0, 6, [some (some 35), none, none, none]) := rfl
theorem lx_35 : LX[35]? = some (1, 3, []) := rfl
theorem lx_36 : LX[36]? = some (0, 6, [some (some 37), none, none, none]) := rfl
theorem lx_37 : LX[37]? = some (1, 5, []) := rfl
theorem lx_38 : LX[38]? = some (0, 6, [some (some 39), none, none, none]) := rfl
theorem lx_39 : LX[39]? = some (1, 20, []) := rfl
theorem lx_40 : LX[40]? = some (0, 1, [some (some 41), some (some 43), none]) := rfl
theorem lx_41 : LX[41]? = some (0, 6, [some (some 42), none, none, none]) := rfl
theorem lx_42 : LX[42]? = some (1, 96, []) := rfl
theorem lx_43 : LX[43]? = some (0, 6, [some (some 44), none, none, none]) := rfl
theorem lx_44 : LX[44]? = some (1, 5, []) := rfl
theorem lx_45 : LX[45]? = some (0, 6, [some (some 46), none, none, none]) := rfl
theorem lx_46 : LX[46]? = some (1, 8, []) := rfl
theorem lx_47 : LX[47]? = some (0, 6, [some (some 48), none, none, none]) := rfl
theorem lx_48 : LX[48]? = some (1, 8, []) := rfl
theorem lx_49 : LX[49]? = some (0, 6, [some (some 50), none, none, none]) := rfl
theorem lx_50 : LX[50]? = some (1, 7, []) := rfl
theorem lx_51 : LX[51]? = some (0, 5, [some (some 52)]) := rfl
theorem lx_52 : LX[52]? = some (0, 6, [some (some 53), none, none, none]) := rfl
theorem lx_53 : LX[53]? = some (1, 100, []) := rfl
theorem lx_54 : LX[54]? = some (0, 4, [some (some 55), some (some 57)]) := rfl
theorem lx_55 : LX[55]? = some (0, 6, [some (some 56), none, none, none]) := rfl
theorem lx_56 : LX[56]? = some (1, 2197, []) := rfl
theorem lx_57 : LX[57]? = some (0, 6, [some (some 58), none, none, none]) := rfl
theorem lx_58 : LX[58]? = some (1, 4394, []) := rfl
theorem lx_59 : LX[59]? = some (0, 0, [some (some 60)]) := rfl
theorem lx_60 : LX[60]? = some (0, 6, [some (some 61), none, none, none]) := rfl
theorem lx_61 : LX[61]? = some (1, 201, []) := rfl
theorem lx_62 : LX[62]? = some (0, 3, [some (some 63)]) := rfl
theorem lx_63 : LX[63]? = some (0, 6, [some (some 64), none, none, none]) := rfl
theorem lx_64 : LX[64]? = some (1, 3, []) := rfl
def LM : List ZKD := [(0, 8, [none, none, none, none, none, none, none, some (some 1), some (some 2), some (some 3), some (some 4), some (some 5), some (some 6), some (some 7), some (some 8), some (some 9), none, some (some 10), some (some 11), none, none, none, none, some (some 12), some (some 13), some (some 14), some (some 15), some (some 16), none, none, none, some none, some (some 17), none, some (some 18), some (some 19), some (some 20), none, some (some 21), some (some 22), some (some 23), none, some (some 24), some (some 25), some (some 26), some (some 27), some (some 28), none, some (some 29), none]),
  (1, 8, []),
  (1, 8, []),
  (1, 8, []),
  (1, 8, []),
  (1, 8, []),
  (1, 5, []),
  (1, 5, []),
  (1, 30, []),
  (1, 3, []),
  (1, 7, []),
  (1, 96, []),
  (1, 49, []),
  (1, 49, []),
  (1, 245, []),
  (1, 136, []),
  (1, 136, []),
  (1, 8, []),
  (1, 100, []),
  (1, 2197, []),
  (1, 2197, []),
  (1, 8, []),
  (1, 8, []),
  (1, 5, []),
  (2, 201, []),
  (1, 3, []),
  (1, 2197, []),
  (1, 2197, []),
  (1, 20, []),
  (1, 8, [])]
theorem lm_0 : LM[0]? = some (0, 8, [none, none, none, none, none, none, none, some (some 1), some (some 2), some (some 3), some (some 4), some (some 5), some (some 6), some (some 7), some (some 8), some (some 9), none, some (some 10), some (some 11), none, none, none, none, some (some 12), some (some 13), some (some 14), some (some 15), some (some 16), none, none, none, some none, some (some 17), none, some (some 18), some (some 19), some (some 20), none, some (some 21), some (some 22), some (some 23), none, some (some 24), some (some 25), some (some 26), some (some 27), some (some 28), none, some (some 29), none]) := rfl
theorem lm_1 : LM[1]? = some (1, 8, []) := rfl
theorem lm_2 : LM[2]? = some (1, 8, []) := rfl
theorem lm_3 : LM[3]? = some (1, 8, []) := rfl
theorem lm_4 : LM[4]? = some (1, 8, []) := rfl
theorem lm_5 : LM[5]? = some (1, 8, []) := rfl
theorem lm_6 : LM[6]? = some (1, 5, []) := rfl
theorem lm_7 : LM[7]? = some (1, 5, []) := rfl
theorem lm_8 : LM[8]? = some (1, 30, []) := rfl
theorem lm_9 : LM[9]? = some (1, 3, []) := rfl
theorem lm_10 : LM[10]? = some (1, 7, []) := rfl
theorem lm_11 : LM[11]? = some (1, 96, []) := rfl
theorem lm_12 : LM[12]? = some (1, 49, []) := rfl
theorem lm_13 : LM[13]? = some (1, 49, []) := rfl
theorem lm_14 : LM[14]? = some (1, 245, []) := rfl
theorem lm_15 : LM[15]? = some (1, 136, []) := rfl
theorem lm_16 : LM[16]? = some (1, 136, []) := rfl
theorem lm_17 : LM[17]? = some (1, 8, []) := rfl
theorem lm_18 : LM[18]? = some (1, 100, []) := rfl
theorem lm_19 : LM[19]? = some (1, 2197, []) := rfl
theorem lm_20 : LM[20]? = some (1, 2197, []) := rfl
theorem lm_21 : LM[21]? = some (1, 8, []) := rfl
theorem lm_22 : LM[22]? = some (1, 8, []) := rfl
theorem lm_23 : LM[23]? = some (1, 5, []) := rfl
theorem lm_24 : LM[24]? = some (2, 201, []) := rfl
theorem lm_25 : LM[25]? = some (1, 3, []) := rfl
theorem lm_26 : LM[26]? = some (1, 2197, []) := rfl
theorem lm_27 : LM[27]? = some (1, 2197, []) := rfl
theorem lm_28 : LM[28]? = some (1, 20, []) := rfl
theorem lm_29 : LM[29]? = some (1, 8, []) := rfl
def zTab (La : List ZKD) (t : Nat) : Prop := La[t]? = some (0, 6, [some (some (t + 1)), none, none, none]) ∧ ∃ n, La[t + 1]? = some (1, n, []) ∧ n < 1000000
def zKit (La : List ZKD) (t : Nat) : Prop := La[t]? = some (0, 2, [none, none, none, none, some (some (t + 1)), some (some (t + 3)), some (some (t + 5)), some (some (t + 7)), some (some (t + 9)), some (some (t + 11))]) ∧ zTab La (t + 1) ∧ zTab La (t + 3) ∧ zTab La (t + 5) ∧ zTab La (t + 7) ∧ zTab La (t + 9) ∧ zTab La (t + 11)
theorem zt_2 : zTab LX 2 := ⟨rfl, 56, rfl, by decide⟩
theorem zt_4 : zTab LX 4 := ⟨rfl, 10, rfl, by decide⟩
theorem zt_6 : zTab LX 6 := ⟨rfl, 30, rfl, by decide⟩
theorem zt_8 : zTab LX 8 := ⟨rfl, 3, rfl, by decide⟩
theorem zt_10 : zTab LX 10 := ⟨rfl, 5, rfl, by decide⟩
theorem zt_12 : zTab LX 12 := ⟨rfl, 20, rfl, by decide⟩
theorem zt_15 : zTab LX 15 := ⟨rfl, 56, rfl, by decide⟩
theorem zt_17 : zTab LX 17 := ⟨rfl, 10, rfl, by decide⟩
theorem zt_19 : zTab LX 19 := ⟨rfl, 30, rfl, by decide⟩
theorem zt_21 : zTab LX 21 := ⟨rfl, 3, rfl, by decide⟩
theorem zt_23 : zTab LX 23 := ⟨rfl, 5, rfl, by decide⟩
theorem zt_25 : zTab LX 25 := ⟨rfl, 20, rfl, by decide⟩
theorem zt_28 : zTab LX 28 := ⟨rfl, 56, rfl, by decide⟩
theorem zt_30 : zTab LX 30 := ⟨rfl, 10, rfl, by decide⟩
theorem zt_32 : zTab LX 32 := ⟨rfl, 30, rfl, by decide⟩
theorem zt_34 : zTab LX 34 := ⟨rfl, 3, rfl, by decide⟩
theorem zt_36 : zTab LX 36 := ⟨rfl, 5, rfl, by decide⟩
theorem zt_38 : zTab LX 38 := ⟨rfl, 20, rfl, by decide⟩
theorem zt_41 : zTab LX 41 := ⟨rfl, 96, rfl, by decide⟩
theorem zt_43 : zTab LX 43 := ⟨rfl, 5, rfl, by decide⟩
theorem zt_45 : zTab LX 45 := ⟨rfl, 8, rfl, by decide⟩
theorem zt_47 : zTab LX 47 := ⟨rfl, 8, rfl, by decide⟩
theorem zt_49 : zTab LX 49 := ⟨rfl, 7, rfl, by decide⟩
theorem zt_52 : zTab LX 52 := ⟨rfl, 100, rfl, by decide⟩
theorem zt_55 : zTab LX 55 := ⟨rfl, 2197, rfl, by decide⟩
theorem zt_57 : zTab LX 57 := ⟨rfl, 4394, rfl, by decide⟩
theorem zt_60 : zTab LX 60 := ⟨rfl, 201, rfl, by decide⟩
theorem zt_63 : zTab LX 63 := ⟨rfl, 3, rfl, by decide⟩
theorem zk_1 : zKit LX 1 := ⟨rfl, zt_2, zt_4, zt_6, zt_8, zt_10, zt_12⟩
theorem zk_14 : zKit LX 14 := ⟨rfl, zt_15, zt_17, zt_19, zt_21, zt_23, zt_25⟩
theorem zk_27 : zKit LX 27 := ⟨rfl, zt_28, zt_30, zt_32, zt_34, zt_36, zt_38⟩
theorem zb01 {r : Int} (h : r = 0 ∨ r = 1) : R32 r := by omega
theorem zret_inj {a r : Int} {m m' : ZMem} (h : some (a, m) = some (r, m')) : a = r ∧ m = m' := by
  cases h
  exact ⟨rfl, rfl⟩
theorem zG_lvk {La : List ZKD} {ad sc sv : Nat → Nat} {M : ZMI} {pc : Nat} {lv lv' : List (Nat × Value)} {st : List Value} {mem : ZMem} {o : ZR} (k : zG La ad sc sv M pc lv' st mem o) (ks : List Nat) (h : lv_pick lv ks = lv') : zG La ad sc sv M pc lv st mem o := zG_lv ks h k
