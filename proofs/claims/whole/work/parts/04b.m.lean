theorem fl257_X9_isPlan : Cond.fieldLink RX9 257 RX9 (TX9 26).2.1 (TX9 26).2.2.1 ∈ wsX9_isPlan := by decide +kernel
theorem hi_X9_isPlan_X9 : ∀ w ∈ u_ws RX9 TX9 45, w ∈ wsX9_isPlan := by decide +kernel
theorem lc260_X9_plan : Jvm.Cond.constantLong RX9 260 5 ∈ wsX9_plan := by decide +kernel
theorem lc262_X9_plan : Jvm.Cond.constantLong RX9 262 11 ∈ wsX9_plan := by decide +kernel
theorem fl257_X9_plan : Cond.fieldLink RX9 257 RX9 (TX9 26).2.1 (TX9 26).2.2.1 ∈ wsX9_plan := by decide +kernel
theorem hi_X9_plan_X9 : ∀ w ∈ u_ws RX9 TX9 45, w ∈ wsX9_plan := by decide +kernel
theorem fl26_X9_plan : Cond.fieldLink RX9 26 RX9 (TX9 24).2.1 (TX9 24).2.2.1 ∈ wsX9_plan := by decide +kernel
theorem fl29_X9_plan : Cond.fieldLink RX9 29 RX9 (TX9 25).2.1 (TX9 25).2.2.1 ∈ wsX9_plan := by decide +kernel
theorem fl74_X9_firstBy : Cond.fieldLink RX9 74 RX9 (TX9 8).2.1 (TX9 8).2.2.1 ∈ wsX9_firstBy := by decide +kernel
theorem hi_X9_firstBy_X9 : ∀ w ∈ u_ws RX9 TX9 45, w ∈ wsX9_firstBy := by decide +kernel
theorem fl74_X9_nextBy : Cond.fieldLink RX9 74 RX9 (TX9 8).2.1 (TX9 8).2.2.1 ∈ wsX9_nextBy := by decide +kernel
theorem hi_X9_nextBy_X9 : ∀ w ∈ u_ws RX9 TX9 45, w ∈ wsX9_nextBy := by decide +kernel
theorem fl23_X9_nextBy : Cond.fieldLink RX9 23 RX9 (TX9 7).2.1 (TX9 7).2.2.1 ∈ wsX9_nextBy := by decide +kernel
theorem lc89_X9_next : Jvm.Cond.constantLong RX9 89 12 ∈ wsX9_next := by decide +kernel
theorem fl26_X9_next : Cond.fieldLink RX9 26 RX9 (TX9 24).2.1 (TX9 24).2.2.1 ∈ wsX9_next := by decide +kernel
theorem hi_X9_next_X9 : ∀ w ∈ u_ws RX9 TX9 45, w ∈ wsX9_next := by decide +kernel
theorem fl29_X9_next : Cond.fieldLink RX9 29 RX9 (TX9 25).2.1 (TX9 25).2.2.1 ∈ wsX9_next := by decide +kernel
theorem fl77_X9_finds : Cond.fieldLink RX9 77 RX9 (TX9 9).2.1 (TX9 9).2.2.1 ∈ wsX9_finds := by decide +kernel
theorem hi_X9_finds_X9 : ∀ w ∈ u_ws RX9 TX9 45, w ∈ wsX9_finds := by decide +kernel
theorem fl74_X9_finds : Cond.fieldLink RX9 74 RX9 (TX9 8).2.1 (TX9 8).2.2.1 ∈ wsX9_finds := by decide +kernel
theorem fl274_X9_finds : Cond.fieldLink RX9 274 RX9 (TX9 27).2.1 (TX9 27).2.2.1 ∈ wsX9_finds := by decide +kernel
theorem fl23_X9_finds : Cond.fieldLink RX9 23 RX9 (TX9 7).2.1 (TX9 7).2.2.1 ∈ wsX9_finds := by decide +kernel
theorem fl277_X9_goHome : Cond.fieldLink RX9 277 RX9 (TX9 28).2.1 (TX9 28).2.2.1 ∈ wsX9_goHome := by decide +kernel
theorem hi_X9_goHome_X9 : ∀ w ∈ u_ws RX9 TX9 45, w ∈ wsX9_goHome := by decide +kernel
theorem fl280_X9_goHome : Cond.fieldLink RX9 280 RX9 (TX9 29).2.1 (TX9 29).2.2.1 ∈ wsX9_goHome := by decide +kernel
theorem fl74_X9_goHome : Cond.fieldLink RX9 74 RX9 (TX9 8).2.1 (TX9 8).2.2.1 ∈ wsX9_goHome := by decide +kernel
theorem fl254_X9_goHome : Cond.fieldLink RX9 254 RX9 (TX9 4).2.1 (TX9 4).2.2.1 ∈ wsX9_goHome := by decide +kernel
theorem fl274_X9_goHome : Cond.fieldLink RX9 274 RX9 (TX9 27).2.1 (TX9 27).2.2.1 ∈ wsX9_goHome := by decide +kernel
theorem fl26_X9_found : Cond.fieldLink RX9 26 RX9 (TX9 24).2.1 (TX9 24).2.2.1 ∈ wsX9_found := by decide +kernel
theorem hi_X9_found_X9 : ∀ w ∈ u_ws RX9 TX9 45, w ∈ wsX9_found := by decide +kernel
theorem fl29_X9_found : Cond.fieldLink RX9 29 RX9 (TX9 25).2.1 (TX9 25).2.2.1 ∈ wsX9_found := by decide +kernel
theorem lc117_X9_run : Jvm.Cond.constantLong RX9 117 2 ∈ wsX9_run := by decide +kernel
theorem fl26_X9_run : Cond.fieldLink RX9 26 RX9 (TX9 24).2.1 (TX9 24).2.2.1 ∈ wsX9_run := by decide +kernel
theorem hi_X9_run_X9 : ∀ w ∈ u_ws RX9 TX9 45, w ∈ wsX9_run := by decide +kernel
theorem fl29_X9_run : Cond.fieldLink RX9 29 RX9 (TX9 25).2.1 (TX9 25).2.2.1 ∈ wsX9_run := by decide +kernel
theorem fl280_X9_run : Cond.fieldLink RX9 280 RX9 (TX9 29).2.1 (TX9 29).2.2.1 ∈ wsX9_run := by decide +kernel
theorem fl277_X9_run : Cond.fieldLink RX9 277 RX9 (TX9 28).2.1 (TX9 28).2.2.1 ∈ wsX9_run := by decide +kernel
theorem fl32_X9_closedBy : Cond.fieldLink RX9 32 RX9 (TX9 30).2.1 (TX9 30).2.2.1 ∈ wsX9_closedBy := by decide +kernel
theorem hi_X9_closedBy_X9 : ∀ w ∈ u_ws RX9 TX9 45, w ∈ wsX9_closedBy := by decide +kernel
theorem lc89_X9_closed : Jvm.Cond.constantLong RX9 89 12 ∈ wsX9_closed := by decide +kernel
theorem lc294_X9_closed : Jvm.Cond.constantLong RX9 294 (-4611686018427387904) ∈ wsX9_closed := by decide +kernel
theorem fl36_X9_putsAside : Cond.fieldLink RX9 36 RX9 (TX9 31).2.1 (TX9 31).2.2.1 ∈ wsX9_putsAside := by decide +kernel
theorem hi_X9_putsAside_X9 : ∀ w ∈ u_ws RX9 TX9 45, w ∈ wsX9_putsAside := by decide +kernel
theorem fl23_X9_putsAside : Cond.fieldLink RX9 23 RX9 (TX9 7).2.1 (TX9 7).2.2.1 ∈ wsX9_putsAside := by decide +kernel
theorem fl23_X9_laysBack : Cond.fieldLink RX9 23 RX9 (TX9 7).2.1 (TX9 7).2.2.1 ∈ wsX9_laysBack := by decide +kernel
theorem hi_X9_laysBack_X9 : ∀ w ∈ u_ws RX9 TX9 45, w ∈ wsX9_laysBack := by decide +kernel
theorem fl36_X9_laysBack : Cond.fieldLink RX9 36 RX9 (TX9 31).2.1 (TX9 31).2.2.1 ∈ wsX9_laysBack := by decide +kernel
theorem fl74_X9_goesOn : Cond.fieldLink RX9 74 RX9 (TX9 8).2.1 (TX9 8).2.2.1 ∈ wsX9_goesOn := by decide +kernel
theorem hi_X9_goesOn_X9 : ∀ w ∈ u_ws RX9 TX9 45, w ∈ wsX9_goesOn := by decide +kernel
theorem fl23_X9_goesOn : Cond.fieldLink RX9 23 RX9 (TX9 7).2.1 (TX9 7).2.2.1 ∈ wsX9_goesOn := by decide +kernel
theorem fl74_X9_digits : Cond.fieldLink RX9 74 RX9 (TX9 8).2.1 (TX9 8).2.2.1 ∈ wsX9_digits := by decide +kernel
theorem hi_X9_digits_X9 : ∀ w ∈ u_ws RX9 TX9 45, w ∈ wsX9_digits := by decide +kernel
theorem fl23_X9_digits : Cond.fieldLink RX9 23 RX9 (TX9 7).2.1 (TX9 7).2.2.1 ∈ wsX9_digits := by decide +kernel
theorem fl299_X9_goesAll : Cond.fieldLink RX9 299 RX9 (TX9 32).2.1 (TX9 32).2.2.1 ∈ wsX9_goesAll := by decide +kernel
theorem hi_X9_goesAll_X9 : ∀ w ∈ u_ws RX9 TX9 45, w ∈ wsX9_goesAll := by decide +kernel
theorem fl302_X9_goesAll : Cond.fieldLink RX9 302 RX9 (TX9 33).2.1 (TX9 33).2.2.1 ∈ wsX9_goesAll := by decide +kernel
theorem fl305_X9_goesAll : Cond.fieldLink RX9 305 RX9 (TX9 34).2.1 (TX9 34).2.2.1 ∈ wsX9_goesAll := by decide +kernel
theorem fl74_X9_goesAll : Cond.fieldLink RX9 74 RX9 (TX9 8).2.1 (TX9 8).2.2.1 ∈ wsX9_goesAll := by decide +kernel
theorem fl311_X9_goesAll : Cond.fieldLink RX9 311 RX9 (TX9 35).2.1 (TX9 35).2.2.1 ∈ wsX9_goesAll := by decide +kernel
theorem fl74_X9_isFew : Cond.fieldLink RX9 74 RX9 (TX9 8).2.1 (TX9 8).2.2.1 ∈ wsX9_isFew := by decide +kernel
theorem hi_X9_isFew_X9 : ∀ w ∈ u_ws RX9 TX9 45, w ∈ wsX9_isFew := by decide +kernel
theorem lc294_X9_wins : Jvm.Cond.constantLong RX9 294 (-4611686018427387904) ∈ wsX9_wins := by decide +kernel
theorem fl26_X9_wins : Cond.fieldLink RX9 26 RX9 (TX9 24).2.1 (TX9 24).2.2.1 ∈ wsX9_wins := by decide +kernel
theorem hi_X9_wins_X9 : ∀ w ∈ u_ws RX9 TX9 45, w ∈ wsX9_wins := by decide +kernel
theorem fl29_X9_wins : Cond.fieldLink RX9 29 RX9 (TX9 25).2.1 (TX9 25).2.2.1 ∈ wsX9_wins := by decide +kernel
theorem fl299_X9_wins : Cond.fieldLink RX9 299 RX9 (TX9 32).2.1 (TX9 32).2.2.1 ∈ wsX9_wins := by decide +kernel
theorem fl74_X9_wins : Cond.fieldLink RX9 74 RX9 (TX9 8).2.1 (TX9 8).2.2.1 ∈ wsX9_wins := by decide +kernel
theorem lc294_X9_mean : Jvm.Cond.constantLong RX9 294 (-4611686018427387904) ∈ wsX9_mean := by decide +kernel
theorem fl26_X9_mean : Cond.fieldLink RX9 26 RX9 (TX9 24).2.1 (TX9 24).2.2.1 ∈ wsX9_mean := by decide +kernel
theorem hi_X9_mean_X9 : ∀ w ∈ u_ws RX9 TX9 45, w ∈ wsX9_mean := by decide +kernel
theorem fl29_X9_mean : Cond.fieldLink RX9 29 RX9 (TX9 25).2.1 (TX9 25).2.2.1 ∈ wsX9_mean := by decide +kernel
theorem fl74_X9_mean : Cond.fieldLink RX9 74 RX9 (TX9 8).2.1 (TX9 8).2.2.1 ∈ wsX9_mean := by decide +kernel
theorem fl302_X9_mean : Cond.fieldLink RX9 302 RX9 (TX9 33).2.1 (TX9 33).2.2.1 ∈ wsX9_mean := by decide +kernel
theorem fl26_X9_worst : Cond.fieldLink RX9 26 RX9 (TX9 24).2.1 (TX9 24).2.2.1 ∈ wsX9_worst := by decide +kernel
theorem hi_X9_worst_X9 : ∀ w ∈ u_ws RX9 TX9 45, w ∈ wsX9_worst := by decide +kernel
theorem fl29_X9_worst : Cond.fieldLink RX9 29 RX9 (TX9 25).2.1 (TX9 25).2.2.1 ∈ wsX9_worst := by decide +kernel
theorem fl311_X9_worst : Cond.fieldLink RX9 311 RX9 (TX9 35).2.1 (TX9 35).2.2.1 ∈ wsX9_worst := by decide +kernel
theorem fl305_X9_worst : Cond.fieldLink RX9 305 RX9 (TX9 34).2.1 (TX9 34).2.2.1 ∈ wsX9_worst := by decide +kernel
theorem fl74_X9_drawsNow : Cond.fieldLink RX9 74 RX9 (TX9 8).2.1 (TX9 8).2.2.1 ∈ wsX9_drawsNow := by decide +kernel
theorem hi_X9_drawsNow_X9 : ∀ w ∈ u_ws RX9 TX9 45, w ∈ wsX9_drawsNow := by decide +kernel
theorem lc294_X9_costs : Jvm.Cond.constantLong RX9 294 (-4611686018427387904) ∈ wsX9_costs := by decide +kernel
theorem fl302_X9_costs : Cond.fieldLink RX9 302 RX9 (TX9 33).2.1 (TX9 33).2.2.1 ∈ wsX9_costs := by decide +kernel
theorem hi_X9_costs_X9 : ∀ w ∈ u_ws RX9 TX9 45, w ∈ wsX9_costs := by decide +kernel
theorem fl26_X9_costs : Cond.fieldLink RX9 26 RX9 (TX9 24).2.1 (TX9 24).2.2.1 ∈ wsX9_costs := by decide +kernel
theorem fl29_X9_costs : Cond.fieldLink RX9 29 RX9 (TX9 25).2.1 (TX9 25).2.2.1 ∈ wsX9_costs := by decide +kernel
theorem lc117_X9_help : Jvm.Cond.constantLong RX9 117 2 ∈ wsX9_help := by decide +kernel
theorem fl108_X9_help : Cond.fieldLink RX9 108 RX9 (TX9 11).2.1 (TX9 11).2.2.1 ∈ wsX9_help := by decide +kernel
theorem hi_X9_help_X9 : ∀ w ∈ u_ws RX9 TX9 45, w ∈ wsX9_help := by decide +kernel
theorem fl74_X9_help : Cond.fieldLink RX9 74 RX9 (TX9 8).2.1 (TX9 8).2.2.1 ∈ wsX9_help := by decide +kernel
theorem fl77_X9_help : Cond.fieldLink RX9 77 RX9 (TX9 9).2.1 (TX9 9).2.2.1 ∈ wsX9_help := by decide +kernel
theorem fl111_X9_help : Cond.fieldLink RX9 111 RX9 (TX9 12).2.1 (TX9 12).2.2.1 ∈ wsX9_help := by decide +kernel
theorem lc89_X9_enough : Jvm.Cond.constantLong RX9 89 12 ∈ wsX9_enough := by decide +kernel
theorem lc337_X9_enough : Jvm.Cond.constantLong RX9 337 100 ∈ wsX9_enough := by decide +kernel
theorem fl42_X9_order : Cond.fieldLink RX9 42 RX9 (TX9 41).2.1 (TX9 41).2.2.1 ∈ wsX9_order := by decide +kernel
theorem hi_X9_order_X9 : ∀ w ∈ u_ws RX9 TX9 45, w ∈ wsX9_order := by decide +kernel
theorem fl49_X9_order : Cond.fieldLink RX9 49 RX9 (TX9 43).2.1 (TX9 43).2.2.1 ∈ wsX9_order := by decide +kernel
theorem fl74_X9_order : Cond.fieldLink RX9 74 RX9 (TX9 8).2.1 (TX9 8).2.2.1 ∈ wsX9_order := by decide +kernel
theorem fl52_X9_order : Cond.fieldLink RX9 52 RX9 (TX9 44).2.1 (TX9 44).2.2.1 ∈ wsX9_order := by decide +kernel
theorem lc339_X9_order : Jvm.Cond.constantLong RX9 339 99 ∈ wsX9_order := by decide +kernel
theorem fl77_X9_order : Cond.fieldLink RX9 77 RX9 (TX9 9).2.1 (TX9 9).2.2.1 ∈ wsX9_order := by decide +kernel
theorem fl341_X9_image : Cond.fieldLink RX9 341 RX9 (TX9 37).2.1 (TX9 37).2.2.1 ∈ wsX9_image := by decide +kernel
theorem hi_X9_image_X9 : ∀ w ∈ u_ws RX9 TX9 45, w ∈ wsX9_image := by decide +kernel
theorem fl74_X9_image : Cond.fieldLink RX9 74 RX9 (TX9 8).2.1 (TX9 8).2.2.1 ∈ wsX9_image := by decide +kernel
theorem fl344_X9_image : Cond.fieldLink RX9 344 RX9 (TX9 38).2.1 (TX9 38).2.2.1 ∈ wsX9_image := by decide +kernel
theorem fl77_X9_image : Cond.fieldLink RX9 77 RX9 (TX9 9).2.1 (TX9 9).2.2.1 ∈ wsX9_image := by decide +kernel
theorem fl347_X9_image : Cond.fieldLink RX9 347 RX9 (TX9 39).2.1 (TX9 39).2.2.1 ∈ wsX9_image := by decide +kernel
theorem fl254_X9_image : Cond.fieldLink RX9 254 RX9 (TX9 4).2.1 (TX9 4).2.2.1 ∈ wsX9_image := by decide +kernel
theorem fl350_X9_image : Cond.fieldLink RX9 350 RX9 (TX9 40).2.1 (TX9 40).2.2.1 ∈ wsX9_image := by decide +kernel
theorem fl39_X9_image : Cond.fieldLink RX9 39 RX9 (TX9 36).2.1 (TX9 36).2.2.1 ∈ wsX9_image := by decide +kernel
theorem fl23_X9_image : Cond.fieldLink RX9 23 RX9 (TX9 7).2.1 (TX9 7).2.2.1 ∈ wsX9_image := by decide +kernel
theorem fl341_X9_back : Cond.fieldLink RX9 341 RX9 (TX9 37).2.1 (TX9 37).2.2.1 ∈ wsX9_back := by decide +kernel
theorem hi_X9_back_X9 : ∀ w ∈ u_ws RX9 TX9 45, w ∈ wsX9_back := by decide +kernel
theorem fl344_X9_back : Cond.fieldLink RX9 344 RX9 (TX9 38).2.1 (TX9 38).2.2.1 ∈ wsX9_back := by decide +kernel
theorem fl74_X9_back : Cond.fieldLink RX9 74 RX9 (TX9 8).2.1 (TX9 8).2.2.1 ∈ wsX9_back := by decide +kernel
theorem fl347_X9_back : Cond.fieldLink RX9 347 RX9 (TX9 39).2.1 (TX9 39).2.2.1 ∈ wsX9_back := by decide +kernel
theorem fl77_X9_back : Cond.fieldLink RX9 77 RX9 (TX9 9).2.1 (TX9 9).2.2.1 ∈ wsX9_back := by decide +kernel
theorem fl350_X9_back : Cond.fieldLink RX9 350 RX9 (TX9 40).2.1 (TX9 40).2.2.1 ∈ wsX9_back := by decide +kernel
theorem fl254_X9_back : Cond.fieldLink RX9 254 RX9 (TX9 4).2.1 (TX9 4).2.2.1 ∈ wsX9_back := by decide +kernel
theorem fl23_X9_back : Cond.fieldLink RX9 23 RX9 (TX9 7).2.1 (TX9 7).2.2.1 ∈ wsX9_back := by decide +kernel
theorem fl39_X9_back : Cond.fieldLink RX9 39 RX9 (TX9 36).2.1 (TX9 36).2.2.1 ∈ wsX9_back := by decide +kernel
theorem fl74_X9_count : Cond.fieldLink RX9 74 RX9 (TX9 8).2.1 (TX9 8).2.2.1 ∈ wsX9_count := by decide +kernel
theorem hi_X9_count_X9 : ∀ w ∈ u_ws RX9 TX9 45, w ∈ wsX9_count := by decide +kernel
theorem fl77_X9_count : Cond.fieldLink RX9 77 RX9 (TX9 9).2.1 (TX9 9).2.2.1 ∈ wsX9_count := by decide +kernel
theorem fl257_X9_count : Cond.fieldLink RX9 257 RX9 (TX9 26).2.1 (TX9 26).2.2.1 ∈ wsX9_count := by decide +kernel
theorem fl71_X9_count : Cond.fieldLink RX9 71 RX9 (TX9 3).2.1 (TX9 3).2.2.1 ∈ wsX9_count := by decide +kernel
theorem fl124_X9_count : Cond.fieldLink RX9 124 RX9 (TX9 6).2.1 (TX9 6).2.2.1 ∈ wsX9_count := by decide +kernel
theorem fl254_X9_count : Cond.fieldLink RX9 254 RX9 (TX9 4).2.1 (TX9 4).2.2.1 ∈ wsX9_count := by decide +kernel
theorem lc95_X9_sheet : Jvm.Cond.constantLong RX9 95 (-1) ∈ wsX9_sheet := by decide +kernel
theorem lc117_X9_sheet : Jvm.Cond.constantLong RX9 117 2 ∈ wsX9_sheet := by decide +kernel
theorem fl42_X9_sheet : Cond.fieldLink RX9 42 RX9 (TX9 41).2.1 (TX9 41).2.2.1 ∈ wsX9_sheet := by decide +kernel
theorem hi_X9_sheet_X9 : ∀ w ∈ u_ws RX9 TX9 45, w ∈ wsX9_sheet := by decide +kernel
theorem fl46_X9_sheet : Cond.fieldLink RX9 46 RX9 (TX9 42).2.1 (TX9 42).2.2.1 ∈ wsX9_sheet := by decide +kernel
theorem fl49_X9_sheet : Cond.fieldLink RX9 49 RX9 (TX9 43).2.1 (TX9 43).2.2.1 ∈ wsX9_sheet := by decide +kernel
theorem fl52_X9_sheet : Cond.fieldLink RX9 52 RX9 (TX9 44).2.1 (TX9 44).2.2.1 ∈ wsX9_sheet := by decide +kernel
theorem fl42_X9_cell : Cond.fieldLink RX9 42 RX9 (TX9 41).2.1 (TX9 41).2.2.1 ∈ wsX9_cell := by decide +kernel
theorem hi_X9_cell_X9 : ∀ w ∈ u_ws RX9 TX9 45, w ∈ wsX9_cell := by decide +kernel
theorem fl49_X9_cell : Cond.fieldLink RX9 49 RX9 (TX9 43).2.1 (TX9 43).2.2.1 ∈ wsX9_cell := by decide +kernel
theorem fl52_X9_cell : Cond.fieldLink RX9 52 RX9 (TX9 44).2.1 (TX9 44).2.2.1 ∈ wsX9_cell := by decide +kernel
theorem fl46_X9_cell : Cond.fieldLink RX9 46 RX9 (TX9 42).2.1 (TX9 42).2.2.1 ∈ wsX9_cell := by decide +kernel
theorem fl42_X9_copy : Cond.fieldLink RX9 42 RX9 (TX9 41).2.1 (TX9 41).2.2.1 ∈ wsX9_copy := by decide +kernel
theorem hi_X9_copy_X9 : ∀ w ∈ u_ws RX9 TX9 45, w ∈ wsX9_copy := by decide +kernel
theorem fl46_X9_copy : Cond.fieldLink RX9 46 RX9 (TX9 42).2.1 (TX9 42).2.2.1 ∈ wsX9_copy := by decide +kernel
theorem fl49_X9_copy : Cond.fieldLink RX9 49 RX9 (TX9 43).2.1 (TX9 43).2.2.1 ∈ wsX9_copy := by decide +kernel
theorem fl52_X9_copy : Cond.fieldLink RX9 52 RX9 (TX9 44).2.1 (TX9 44).2.2.1 ∈ wsX9_copy := by decide +kernel
theorem lc117_X9_plans : Jvm.Cond.constantLong RX9 117 2 ∈ wsX9_plans := by decide +kernel
theorem lc122_X9_plans : Jvm.Cond.constantLong RX9 122 8 ∈ wsX9_plans := by decide +kernel
theorem fl42_X9_plans : Cond.fieldLink RX9 42 RX9 (TX9 41).2.1 (TX9 41).2.2.1 ∈ wsX9_plans := by decide +kernel
theorem hi_X9_plans_X9 : ∀ w ∈ u_ws RX9 TX9 45, w ∈ wsX9_plans := by decide +kernel
theorem fl46_X9_plans : Cond.fieldLink RX9 46 RX9 (TX9 42).2.1 (TX9 42).2.2.1 ∈ wsX9_plans := by decide +kernel
theorem fl49_X9_plans : Cond.fieldLink RX9 49 RX9 (TX9 43).2.1 (TX9 43).2.2.1 ∈ wsX9_plans := by decide +kernel
theorem fl52_X9_plans : Cond.fieldLink RX9 52 RX9 (TX9 44).2.1 (TX9 44).2.2.1 ∈ wsX9_plans := by decide +kernel
theorem lc260_X9_taken : Jvm.Cond.constantLong RX9 260 5 ∈ wsX9_taken := by decide +kernel
theorem fl26_X9_taken : Cond.fieldLink RX9 26 RX9 (TX9 24).2.1 (TX9 24).2.2.1 ∈ wsX9_taken := by decide +kernel
theorem hi_X9_taken_X9 : ∀ w ∈ u_ws RX9 TX9 45, w ∈ wsX9_taken := by decide +kernel
theorem fl29_X9_taken : Cond.fieldLink RX9 29 RX9 (TX9 25).2.1 (TX9 25).2.2.1 ∈ wsX9_taken := by decide +kernel
abbrev rmX9_isPlan : Room := { frames := 1, cells := 0, slots := 0, locals := 25 }
def c_X9_isPlan (p1 : Int32) (σ : HS) : Option (Int32 × HS) := (bi2 (c_X9_in (Int32.toInt64 p1) 0 (Int32.toInt64 ((gI σ 0 26) - 1)) σ) (fun r3 s2 => (if isz r3 = true then (some (r3, s2)) else none)))
set_option maxHeartbeats 4000000 in
set_option maxRecDepth 100000 in
theorem w_X9_isPlan {p : Program} {l : Launch} {e : Env} {s : State} {m : MethodId} {args : Array Value} {below : List Frame} {meth : Method} {c : Code} {A : Nat → Prop} {G : WD}  {r0 : Int32} {τ : HS} {p1 : Int32} {σ : HS}  (hG : GX G mY) (hO0 : Ob G mY 0 8) (hC : Cx mE G.1 G.2.1 mY cX9_isPlan 2 (some .boolean) RX9 wsX9_isPlan p s m args meth c A) (h : c_X9_isPlan p1 σ = some (r0, τ)) : V p l e rmX9_isPlan s m args below meth c 2 A G mY 0 0 (MQ below (QI G mY A r0 τ) args s 0 0 A) σ 0 [(0, .ref (G.2.2.1 0)), (1, .int p1)] [] := by
  rw [c_X9_isPlan] at h
  refine v_iload_n hC dX9_isPlan_0 1 rfl ?_
  refine v_i2l hC dX9_isPlan_1 ?_
  refine v_lconst (v := 0) hC dX9_isPlan_2 (by decide) ?_
  refine v_aload_n hC dX9_isPlan_3 0 rfl ?_
  refine v_get (C := RX9) (T := TX9) (N := 45) (ci := 8) (k := 26) (v := .int (gI σ 0 26)) hC hO0 hi_X9_isPlan_X9 rfl (by decide) (by decide) rfl rfl fl257_X9_isPlan dX9_isPlan_4 rfl ?_
  refine v_iconst (v := 1) hC dX9_isPlan_7 (by decide) ?_
  refine v_isub hC dX9_isPlan_8 ?_
  refine v_i2l hC dX9_isPlan_9 ?_
  obtain ⟨r3, s2, hc_1, h⟩ := bd2 h
  refine v_callSI hC mE_ok (n := 3) (As := [.long (Int32.toInt64 p1), .long 0, .long (Int32.toInt64 ((gI σ 0 26) - 1))]) (k_X9_in l hG hc_1) (va_cwS 3 hC.1.2.2.2.2 gX9_isPlan_X9_in rfl rfl rfl (by decide +kernel) ⟨(Nat.le_of_ble_eq_true rfl), (Nat.le_of_ble_eq_true rfl)⟩) rfl (Nat.le_of_ble_eq_true rfl) ⟨Nat.zero_le _, Nat.zero_le _⟩ dX9_isPlan_10 rfl ?_
  obtain ⟨g_4, h⟩ := gd h
  exact v_zret hC rfl (isz_n g_4) dX9_isPlan_13 h
theorem k_X9_isPlan (l : Launch) {G : WD}   {r0 : Int32} {τ : HS} {p1 : Int32} {σ : HS}  (hG : GX G mY) (hO0 : Ob G mY 0 8) (h : c_X9_isPlan p1 σ = some (r0, τ)) : MI mE l yX9_isPlan wsX9_isPlan rmX9_isPlan G mY [.ref (G.2.2.1 0), .int p1] σ r0 τ :=
  MI.of RX9 (by decide) rfl rfl (Nat.le_of_ble_eq_true rfl) rfl rfl (fun p e s m below meth c hC => w_X9_isPlan  hG hO0 hC h)
abbrev rmX9_plan : Room := { frames := 1, cells := 0, slots := 0, locals := 25 }
def c_X9_plan (p1 : Int32) (p2 : Int32) (σ : HS) : Option (Int32 × HS) := (bi2 (c_X9_in (Int32.toInt64 p1) 0 5 σ) (fun r3 s2 => (if r3 = 0 then (some ((-2), s2)) else (bi2 (c_X9_in (Int32.toInt64 p2) 0 11 s2) (fun r7 s6 => (if r7 = 0 then (some ((-2), s6)) else (if (gI s6 0 26) = 8 then (some ((-4), s6)) else (if inb (gI s6 0 26) 8 = true then (lt (sI s6 5 (ix (gI s6 0 26)) p1) (fun s11 => (if inb (gI s11 0 26) 8 = true then (lt (sI s11 6 (ix (gI s11 0 26)) p2) (fun s14 => (lt (sI s14 0 26 ((gI s14 0 26) + 1)) (fun s16 => (some (((gI s16 0 26) - 1), s16)))))) else none))) else none))))))))
set_option maxHeartbeats 4000000 in
set_option maxRecDepth 100000 in
theorem w_X9_plan {p : Program} {l : Launch} {e : Env} {s : State} {m : MethodId} {args : Array Value} {below : List Frame} {meth : Method} {c : Code} {A : Nat → Prop} {G : WD}  {r0 : Int32} {τ : HS} {p1 : Int32} {p2 : Int32} {σ : HS}  (hG : GX G mY) (hO0 : Ob G mY 0 8) (hC : Cx mE G.1 G.2.1 mY cX9_plan 3 (some .int) RX9 wsX9_plan p s m args meth c A) (h : c_X9_plan p1 p2 σ = some (r0, τ)) : V p l e rmX9_plan s m args below meth c 3 A G mY 0 0 (MQ below (QI G mY A r0 τ) args s 0 0 A) σ 0 [(0, .ref (G.2.2.1 0)), (1, .int p1), (2, .int p2)] [] := by
  rw [c_X9_plan] at h
  refine v_iload_n hC dX9_plan_0 1 rfl ?_
  refine v_i2l hC dX9_plan_1 ?_
  refine v_lconst (v := 0) hC dX9_plan_2 (by decide) ?_
  refine v_ldc2 (v := 5) hC lc260_X9_plan dX9_plan_3 ?_
  obtain ⟨r3, s2, hc_1, h⟩ := bd2 h
  refine v_callSI hC mE_ok (n := 3) (As := [.long (Int32.toInt64 p1), .long 0, .long 5]) (k_X9_in l hG hc_1) (va_cwS 3 hC.1.2.2.2.2 gX9_plan_X9_in rfl rfl rfl (by decide +kernel) ⟨(Nat.le_of_ble_eq_true rfl), (Nat.le_of_ble_eq_true rfl)⟩) rfl (Nat.le_of_ble_eq_true rfl) ⟨Nat.zero_le _, Nat.zero_le _⟩ dX9_plan_6 rfl ?_
  refine v_if_eq (tgt := 24) hC dX9_plan_9 (by decide) (fun c_4 => ?_) (fun c_4 => ?_)
  · replace h := ift c_4 h
    refine v_bipush (v := (-2)) hC dX9_plan_24 (by decide) ?_
    exact v_iret hC rfl dX9_plan_26 h
  · replace h := ifn c_4 h
    refine v_iload_n hC dX9_plan_12 2 rfl ?_
    refine v_i2l hC dX9_plan_13 ?_
    refine v_lconst (v := 0) hC dX9_plan_14 (by decide) ?_
    refine v_ldc2 (v := 11) hC lc262_X9_plan dX9_plan_15 ?_
    obtain ⟨r7, s6, hc_5, h⟩ := bd2 h
    refine v_callSI hC mE_ok (n := 3) (As := [.long (Int32.toInt64 p2), .long 0, .long 11]) (k_X9_in l hG hc_5) (va_cwS 3 hC.1.2.2.2.2 gX9_plan_X9_in rfl rfl rfl (by decide +kernel) ⟨(Nat.le_of_ble_eq_true rfl), (Nat.le_of_ble_eq_true rfl)⟩) rfl (Nat.le_of_ble_eq_true rfl) ⟨Nat.zero_le _, Nat.zero_le _⟩ dX9_plan_18 rfl ?_
    refine v_if_ne (tgt := 27) hC dX9_plan_21 (by decide) (fun c_8 => ?_) (fun c_8 => ?_)
    · replace h := ifn c_8 h
      refine v_aload_n hC dX9_plan_27 0 rfl ?_
      refine v_get (C := RX9) (T := TX9) (N := 45) (ci := 8) (k := 26) (v := .int (gI s6 0 26)) hC hO0 hi_X9_plan_X9 rfl (by decide) (by decide) rfl rfl fl257_X9_plan dX9_plan_28 rfl ?_
      refine v_bipush (v := 8) hC dX9_plan_31 (by decide) ?_
      refine v_icmp_ne (tgt := 39) hC dX9_plan_33 (by decide) (fun c_9 => ?_) (fun c_9 => ?_)
      · replace h := ifn c_9 h
        refine v_aload_n hC dX9_plan_39 0 rfl ?_
        refine v_get (C := RX9) (T := TX9) (N := 45) (ci := 8) (k := 24) (v := .ref (G.2.2.1 5)) hC hO0 hi_X9_plan_X9 rfl (by decide) (by decide) rfl rfl fl26_X9_plan dX9_plan_40 rfl ?_
        refine v_aload_n hC dX9_plan_43 0 rfl ?_
        refine v_get (C := RX9) (T := TX9) (N := 45) (ci := 8) (k := 26) (v := .int (gI s6 0 26)) hC hO0 hi_X9_plan_X9 rfl (by decide) (by decide) rfl rfl fl257_X9_plan dX9_plan_44 rfl ?_
        refine v_iload_n hC dX9_plan_47 1 rfl ?_
        obtain ⟨g_10, h⟩ := gd h
        refine v_iast hC (obM_8_24 hG hO0).1 (obM_8_24 hG hO0).2 (t0 := 0) rfl g_10 dX9_plan_48 ?_
        obtain ⟨s11, e12, h⟩ := ld h
        refine V.eq e12 ?_
        refine v_aload_n hC dX9_plan_49 0 rfl ?_
        refine v_get (C := RX9) (T := TX9) (N := 45) (ci := 8) (k := 25) (v := .ref (G.2.2.1 6)) hC hO0 hi_X9_plan_X9 rfl (by decide) (by decide) rfl rfl fl29_X9_plan dX9_plan_50 rfl ?_
        refine v_aload_n hC dX9_plan_53 0 rfl ?_
        refine v_get (C := RX9) (T := TX9) (N := 45) (ci := 8) (k := 26) (v := .int (gI s11 0 26)) hC hO0 hi_X9_plan_X9 rfl (by decide) (by decide) rfl rfl fl257_X9_plan dX9_plan_54 rfl ?_
        refine v_iload_n hC dX9_plan_57 2 rfl ?_
        obtain ⟨g_13, h⟩ := gd h
        refine v_iast hC (obM_8_25 hG hO0).1 (obM_8_25 hG hO0).2 (t0 := 0) rfl g_13 dX9_plan_58 ?_
        obtain ⟨s14, e15, h⟩ := ld h
        refine V.eq e15 ?_
        refine v_aload_n hC dX9_plan_59 0 rfl ?_
        refine v_dup hC dX9_plan_60 rfl ?_
        refine v_get (C := RX9) (T := TX9) (N := 45) (ci := 8) (k := 26) (v := .int (gI s14 0 26)) hC hO0 hi_X9_plan_X9 rfl (by decide) (by decide) rfl rfl fl257_X9_plan dX9_plan_61 rfl ?_
        refine v_iconst (v := 1) hC dX9_plan_64 (by decide) ?_
        refine v_iadd hC dX9_plan_65 ?_
        refine v_putI (C := RX9) (T := TX9) (N := 45) (ci := 8) (k := 26) (ty := .int) hC hO0 hi_X9_plan_X9 rfl (by decide) (by decide) rfl rfl tyX9_ok nmX9 fl257_X9_plan rfl rfl rfl rfl rfl dX9_plan_66 ?_
        obtain ⟨s16, e17, h⟩ := ld h
        refine V.eq e17 ?_
        refine v_aload_n hC dX9_plan_69 0 rfl ?_
        refine v_get (C := RX9) (T := TX9) (N := 45) (ci := 8) (k := 26) (v := .int (gI s16 0 26)) hC hO0 hi_X9_plan_X9 rfl (by decide) (by decide) rfl rfl fl257_X9_plan dX9_plan_70 rfl ?_
        refine v_iconst (v := 1) hC dX9_plan_73 (by decide) ?_
        refine v_isub hC dX9_plan_74 ?_
        exact v_iret hC rfl dX9_plan_75 h
      · replace h := ift c_9 h
        refine v_bipush (v := (-4)) hC dX9_plan_36 (by decide) ?_
        exact v_iret hC rfl dX9_plan_38 h
    · replace h := ift c_8 h
      refine v_bipush (v := (-2)) hC dX9_plan_24 (by decide) ?_
      exact v_iret hC rfl dX9_plan_26 h
theorem k_X9_plan (l : Launch) {G : WD}   {r0 : Int32} {τ : HS} {p1 : Int32} {p2 : Int32} {σ : HS}  (hG : GX G mY) (hO0 : Ob G mY 0 8) (h : c_X9_plan p1 p2 σ = some (r0, τ)) : MI mE l yX9_plan wsX9_plan rmX9_plan G mY [.ref (G.2.2.1 0), .int p1, .int p2] σ r0 τ :=
  MI.of RX9 (by decide) rfl rfl (Nat.le_of_ble_eq_true rfl) rfl rfl (fun p e s m below meth c hC => w_X9_plan  hG hO0 hC h)
abbrev rmX9_firstBy : Room := { frames := 0, cells := 0, slots := 0, locals := 0 }
def c_X9_firstBy (p1 : Int32) (p2 : Int32) (p3 : Int32) (σ : HS) : Option (Int32 × HS) := (if p1 = 0 then (some (0, σ)) else (if p1 = 2 then (some (p3, σ)) else (if p1 = 4 then (some (p3, σ)) else (if (gI σ 0 8) = 0 then none else (some ((irm (p3 + p2) (gI σ 0 8)), σ))))))
set_option maxHeartbeats 4000000 in
set_option maxRecDepth 100000 in
theorem w_X9_firstBy {p : Program} {l : Launch} {e : Env} {s : State} {m : MethodId} {args : Array Value} {below : List Frame} {meth : Method} {c : Code} {A : Nat → Prop} {G : WD}  {r0 : Int32} {τ : HS} {p1 : Int32} {p2 : Int32} {p3 : Int32} {σ : HS}  (hG : GX G mY) (hO0 : Ob G mY 0 8) (hC : Cx mE G.1 G.2.1 mY cX9_firstBy 4 (some .int) RX9 wsX9_firstBy p s m args meth c A) (h : c_X9_firstBy p1 p2 p3 σ = some (r0, τ)) : V p l e rmX9_firstBy s m args below meth c 4 A G mY 0 0 (MQ below (QI G mY A r0 τ) args s 0 0 A) σ 0 [(0, .ref (G.2.2.1 0)), (1, .int p1), (2, .int p2), (3, .int p3)] [] := by
  rw [c_X9_firstBy] at h
  refine v_iload_n hC dX9_firstBy_0 1 rfl ?_
  refine v_if_ne (tgt := 8) hC dX9_firstBy_1 (by decide) (fun c_1 => ?_) (fun c_1 => ?_)
  · replace h := ifn c_1 h
    refine v_iload_n hC dX9_firstBy_8 1 rfl ?_
    refine v_iconst (v := 2) hC dX9_firstBy_9 (by decide) ?_
    refine v_icmp_eq (tgt := 18) hC dX9_firstBy_10 (by decide) (fun c_2 => ?_) (fun c_2 => ?_)
    · replace h := ift c_2 h
      refine v_iload_n hC dX9_firstBy_18 3 rfl ?_
      refine v_goto (tgt := 30) hC dX9_firstBy_19 (by decide) ?_
      exact v_iret hC rfl dX9_firstBy_30 h
    · replace h := ifn c_2 h
      refine v_iload_n hC dX9_firstBy_13 1 rfl ?_
      refine v_iconst (v := 4) hC dX9_firstBy_14 (by decide) ?_
      refine v_icmp_ne (tgt := 22) hC dX9_firstBy_15 (by decide) (fun c_3 => ?_) (fun c_3 => ?_)
      · replace h := ifn c_3 h
        refine v_iload_n hC dX9_firstBy_22 3 rfl ?_
        refine v_iload_n hC dX9_firstBy_23 2 rfl ?_
        refine v_iadd hC dX9_firstBy_24 ?_
        refine v_aload_n hC dX9_firstBy_25 0 rfl ?_
        refine v_get (C := RX9) (T := TX9) (N := 45) (ci := 8) (k := 8) (v := .int (gI σ 0 8)) hC hO0 hi_X9_firstBy_X9 rfl (by decide) (by decide) rfl rfl fl74_X9_firstBy dX9_firstBy_26 rfl ?_
        obtain ⟨g_4, h⟩ := gdn h
        refine v_irem hC dX9_firstBy_29 g_4 ?_
        exact v_iret hC rfl dX9_firstBy_30 h
      · replace h := ift c_3 h
        refine v_iload_n hC dX9_firstBy_18 3 rfl ?_
        refine v_goto (tgt := 30) hC dX9_firstBy_19 (by decide) ?_
        exact v_iret hC rfl dX9_firstBy_30 h
  · replace h := ift c_1 h
    refine v_iconst (v := 0) hC dX9_firstBy_4 (by decide) ?_
    refine v_goto (tgt := 30) hC dX9_firstBy_5 (by decide) ?_
    exact v_iret hC rfl dX9_firstBy_30 h
theorem k_X9_firstBy (l : Launch) {G : WD}   {r0 : Int32} {τ : HS} {p1 : Int32} {p2 : Int32} {p3 : Int32} {σ : HS}  (hG : GX G mY) (hO0 : Ob G mY 0 8) (h : c_X9_firstBy p1 p2 p3 σ = some (r0, τ)) : MI mE l yX9_firstBy wsX9_firstBy rmX9_firstBy G mY [.ref (G.2.2.1 0), .int p1, .int p2, .int p3] σ r0 τ :=
  MI.of RX9 (by decide) rfl rfl (Nat.le_of_ble_eq_true rfl) rfl rfl (fun p e s m below meth c hC => w_X9_firstBy  hG hO0 hC h)
abbrev rmX9_nextBy : Room := { frames := 0, cells := 0, slots := 0, locals := 0 }
def c_X9_nextBy (p1 : Int32) (p2 : Int32) (p3 : Int32) (p4 : Int32) (σ : HS) : Option (Int32 × HS) := (if (gI σ 0 8) = 0 then none else (if inb p3 12 = true then (if p1 = 2 then (if (gI σ 4 (ix p3)) = (-1) then (some ((irm (p3 + 1) (gI σ 0 8)), σ)) else (some ((gI σ 4 (ix p3)), σ))) else (if p1 = 3 then (if (gI σ 4 (ix p3)) = (-1) then (some ((irm (p3 + 1) (gI σ 0 8)), σ)) else (if (gI σ 0 8) = 0 then none else (some ((irm ((gI σ 4 (ix p3)) + p2) (gI σ 0 8)), σ)))) else (if p1 = 4 then (if (gI σ 4 (ix p3)) = (-1) then (some ((irm (p3 + 1) (gI σ 0 8)), σ)) else (if p4 = p2 then (some ((irm (p3 + 1) (gI σ 0 8)), σ)) else (some ((gI σ 4 (ix p3)), σ)))) else (if p1 = 5 then (if (gI σ 0 8) = 0 then none else (some ((irm ((p3 + (gI σ 0 8)) - 1) (gI σ 0 8)), σ))) else (some ((irm (p3 + 1) (gI σ 0 8)), σ)))))) else none))
set_option maxHeartbeats 4000000 in
set_option maxRecDepth 100000 in
theorem w_X9_nextBy {p : Program} {l : Launch} {e : Env} {s : State} {m : MethodId} {args : Array Value} {below : List Frame} {meth : Method} {c : Code} {A : Nat → Prop} {G : WD}  {r0 : Int32} {τ : HS} {p1 : Int32} {p2 : Int32} {p3 : Int32} {p4 : Int32} {σ : HS}  (hG : GX G mY) (hO0 : Ob G mY 0 8) (hC : Cx mE G.1 G.2.1 mY cX9_nextBy 7 (some .int) RX9 wsX9_nextBy p s m args meth c A) (h : c_X9_nextBy p1 p2 p3 p4 σ = some (r0, τ)) : V p l e rmX9_nextBy s m args below meth c 7 A G mY 0 0 (MQ below (QI G mY A r0 τ) args s 0 0 A) σ 0 [(0, .ref (G.2.2.1 0)), (1, .int p1), (2, .int p2), (3, .int p3), (4, .int p4)] [] := by
  rw [c_X9_nextBy] at h
  refine v_iload_n hC dX9_nextBy_0 3 rfl ?_
  refine v_iconst (v := 1) hC dX9_nextBy_1 (by decide) ?_
  refine v_iadd hC dX9_nextBy_2 ?_
  refine v_aload_n hC dX9_nextBy_3 0 rfl ?_
  refine v_get (C := RX9) (T := TX9) (N := 45) (ci := 8) (k := 8) (v := .int (gI σ 0 8)) hC hO0 hi_X9_nextBy_X9 rfl (by decide) (by decide) rfl rfl fl74_X9_nextBy dX9_nextBy_4 rfl ?_
  obtain ⟨g_1, h⟩ := gdn h
  refine v_irem hC dX9_nextBy_7 g_1 ?_
  refine v_istore (L' := [(0, .ref (G.2.2.1 0)), (1, .int p1), (2, .int p2), (3, .int p3), (4, .int p4), (5, .int (irm (p3 + 1) (gI σ 0 8)))]) hC dX9_nextBy_8 (by decide) [1, 2, 3, 4, 5, 0] rfl ?_
  refine v_aload_n hC dX9_nextBy_10 0 rfl ?_
  refine v_get (C := RX9) (T := TX9) (N := 45) (ci := 8) (k := 7) (v := .ref (G.2.2.1 4)) hC hO0 hi_X9_nextBy_X9 rfl (by decide) (by decide) rfl rfl fl23_X9_nextBy dX9_nextBy_11 rfl ?_
  refine v_iload_n hC dX9_nextBy_14 3 rfl ?_
  obtain ⟨g_2, h⟩ := gd h
  refine v_iald hC (obM_8_7 hG hO0).1 (obM_8_7 hG hO0).2 (t0 := 0) rfl g_2 dX9_nextBy_15 ?_
  refine v_istore (L' := [(0, .ref (G.2.2.1 0)), (1, .int p1), (2, .int p2), (3, .int p3), (4, .int p4), (5, .int (irm (p3 + 1) (gI σ 0 8))), (6, .int (gI σ 4 (ix p3)))]) hC dX9_nextBy_16 (by decide) [1, 2, 3, 4, 5, 6, 0] rfl ?_
  refine v_iload_n hC dX9_nextBy_18 1 rfl ?_
  by_cases c_3 : p1 = 2
  · replace h := ift c_3 h
    refine v_tabIn (v := 2) (tgt := 48) c_3 hC dX9_nextBy_19 (by decide) (by decide) rfl (by decide) ?_
    refine v_iload hC dX9_nextBy_48 6 rfl ?_
    refine v_iconst (v := (-1)) hC dX9_nextBy_50 (by decide) ?_
    refine v_icmp_ne (tgt := 59) hC dX9_nextBy_51 (by decide) (fun c_4 => ?_) (fun c_4 => ?_)
    · replace h := ifn c_4 h
      refine v_iload hC dX9_nextBy_59 6 rfl ?_
      exact v_iret hC rfl dX9_nextBy_61 h
    · replace h := ift c_4 h
      refine v_iload hC dX9_nextBy_54 5 rfl ?_
      refine v_goto (tgt := 61) hC dX9_nextBy_56 (by decide) ?_
      exact v_iret hC rfl dX9_nextBy_61 h
  · replace h := ifn c_3 h
    by_cases c_5 : p1 = 3
    · replace h := ift c_5 h
      refine v_tabIn (v := 3) (tgt := 62) c_5 hC dX9_nextBy_19 (by decide) (by decide) rfl (by decide) ?_
      refine v_iload hC dX9_nextBy_62 6 rfl ?_
      refine v_iconst (v := (-1)) hC dX9_nextBy_64 (by decide) ?_
      refine v_icmp_ne (tgt := 73) hC dX9_nextBy_65 (by decide) (fun c_6 => ?_) (fun c_6 => ?_)
      · replace h := ifn c_6 h
        refine v_iload hC dX9_nextBy_73 6 rfl ?_
        refine v_iload_n hC dX9_nextBy_75 2 rfl ?_
        refine v_iadd hC dX9_nextBy_76 ?_
        refine v_aload_n hC dX9_nextBy_77 0 rfl ?_
        refine v_get (C := RX9) (T := TX9) (N := 45) (ci := 8) (k := 8) (v := .int (gI σ 0 8)) hC hO0 hi_X9_nextBy_X9 rfl (by decide) (by decide) rfl rfl fl74_X9_nextBy dX9_nextBy_78 rfl ?_
        obtain ⟨g_7, h⟩ := gdn h
        refine v_irem hC dX9_nextBy_81 g_7 ?_
        exact v_iret hC rfl dX9_nextBy_82 h
      · replace h := ift c_6 h
        refine v_iload hC dX9_nextBy_68 5 rfl ?_
        refine v_goto (tgt := 82) hC dX9_nextBy_70 (by decide) ?_
        exact v_iret hC rfl dX9_nextBy_82 h
    · replace h := ifn c_5 h
      by_cases c_8 : p1 = 4
      · replace h := ift c_8 h
        refine v_tabIn (v := 4) (tgt := 83) c_8 hC dX9_nextBy_19 (by decide) (by decide) rfl (by decide) ?_
        refine v_iload hC dX9_nextBy_83 6 rfl ?_
        refine v_iconst (v := (-1)) hC dX9_nextBy_85 (by decide) ?_
        refine v_icmp_eq (tgt := 95) hC dX9_nextBy_86 (by decide) (fun c_9 => ?_) (fun c_9 => ?_)
        · replace h := ift c_9 h
          refine v_iload hC dX9_nextBy_95 5 rfl ?_
          refine v_goto (tgt := 102) hC dX9_nextBy_97 (by decide) ?_
          exact v_iret hC rfl dX9_nextBy_102 h
        · replace h := ifn c_9 h
          refine v_iload hC dX9_nextBy_89 4 rfl ?_
          refine v_iload_n hC dX9_nextBy_91 2 rfl ?_
          refine v_icmp_ne (tgt := 100) hC dX9_nextBy_92 (by decide) (fun c_10 => ?_) (fun c_10 => ?_)
          · replace h := ifn c_10 h
            refine v_iload hC dX9_nextBy_100 6 rfl ?_
            exact v_iret hC rfl dX9_nextBy_102 h
          · replace h := ift c_10 h
            refine v_iload hC dX9_nextBy_95 5 rfl ?_
            refine v_goto (tgt := 102) hC dX9_nextBy_97 (by decide) ?_
            exact v_iret hC rfl dX9_nextBy_102 h
      · replace h := ifn c_8 h
        by_cases c_11 : p1 = 5
        · replace h := ift c_11 h
          refine v_tabIn (v := 5) (tgt := 103) c_11 hC dX9_nextBy_19 (by decide) (by decide) rfl (by decide) ?_
          refine v_iload_n hC dX9_nextBy_103 3 rfl ?_
          refine v_aload_n hC dX9_nextBy_104 0 rfl ?_
          refine v_get (C := RX9) (T := TX9) (N := 45) (ci := 8) (k := 8) (v := .int (gI σ 0 8)) hC hO0 hi_X9_nextBy_X9 rfl (by decide) (by decide) rfl rfl fl74_X9_nextBy dX9_nextBy_105 rfl ?_
          refine v_iadd hC dX9_nextBy_108 ?_
          refine v_iconst (v := 1) hC dX9_nextBy_109 (by decide) ?_
          refine v_isub hC dX9_nextBy_110 ?_
          refine v_aload_n hC dX9_nextBy_111 0 rfl ?_
          refine v_get (C := RX9) (T := TX9) (N := 45) (ci := 8) (k := 8) (v := .int (gI σ 0 8)) hC hO0 hi_X9_nextBy_X9 rfl (by decide) (by decide) rfl rfl fl74_X9_nextBy dX9_nextBy_112 rfl ?_
          obtain ⟨g_12, h⟩ := gdn h
          refine v_irem hC dX9_nextBy_115 g_12 ?_
          exact v_iret hC rfl dX9_nextBy_116 h
        · replace h := ifn c_11 h
          have nc_3 : (Int32.toInt p1) ≠ 2 := fun q => c_3 (Int32.toInt_inj.mp q)
          have nc_5 : (Int32.toInt p1) ≠ 3 := fun q => c_5 (Int32.toInt_inj.mp q)
          have nc_8 : (Int32.toInt p1) ≠ 4 := fun q => c_8 (Int32.toInt_inj.mp q)
          have nc_11 : (Int32.toInt p1) ≠ 5 := fun q => c_11 (Int32.toInt_inj.mp q)
          refine v_tableOut (tgt := 117) hC dX9_nextBy_19 (by omega) (by decide) ?_
          refine v_iload hC dX9_nextBy_117 5 rfl ?_
          exact v_iret hC rfl dX9_nextBy_119 h
theorem k_X9_nextBy (l : Launch) {G : WD}   {r0 : Int32} {τ : HS} {p1 : Int32} {p2 : Int32} {p3 : Int32} {p4 : Int32} {σ : HS}  (hG : GX G mY) (hO0 : Ob G mY 0 8) (h : c_X9_nextBy p1 p2 p3 p4 σ = some (r0, τ)) : MI mE l yX9_nextBy wsX9_nextBy rmX9_nextBy G mY [.ref (G.2.2.1 0), .int p1, .int p2, .int p3, .int p4] σ r0 τ :=
  MI.of RX9 (by decide) rfl rfl (Nat.le_of_ble_eq_true rfl) rfl rfl (fun p e s m below meth c hC => w_X9_nextBy  hG hO0 hC h)
abbrev rmX9_next : Room := { frames := 2, cells := 0, slots := 0, locals := 46 }
def c_X9_next_45 (x1 : Int32) (x2 : Int32) (x3 : Int32) (x4 : Int32) (σ : HS) : Option (Int32 × HS) := (if x4 = 0 then (if inb x1 8 = true then (if inb x1 8 = true then (bi2 (c_X9_firstBy (gI σ 5 (ix x1)) (gI σ 6 (ix x1)) x2 σ) (fun r28 s27 => (some (r28, s27)))) else none) else none) else (if inb x1 8 = true then (if inb x1 8 = true then (bi2 (c_X9_nextBy (gI σ 5 (ix x1)) (gI σ 6 (ix x1)) x3 x4 σ) (fun r23 s22 => (some (r23, s22)))) else none) else none))
set_option maxHeartbeats 4000000 in
set_option maxRecDepth 100000 in
theorem w_X9_next_45 {p : Program} {l : Launch} {e : Env} {s : State} {m : MethodId} {args : Array Value} {below : List Frame} {meth : Method} {c : Code} {A : Nat → Prop} {G : WD}  {r0 : Int32} {τ : HS}  {x1 : Int32} {x2 : Int32} {x3 : Int32} {x4 : Int32} {σ : HS}  (hG : GX G mY) (hO0 : Ob G mY 0 8) (hC : Cx mE G.1 G.2.1 mY cX9_next 5 (some .int) RX9 wsX9_next p s m args meth c A)  (h : c_X9_next_45 x1 x2 x3 x4 σ = some (r0, τ)) : V p l e rmX9_next s m args below meth c 5 A G mY 0 0 (MQ below (QI G mY A r0 τ) args s 0 0 A) σ 45 [(0, .ref (G.2.2.1 0)), (1, .int x1), (2, .int x2), (3, .int x3), (4, .int x4)] [] := by
  rw [c_X9_next_45] at h
  refine v_iload hC dX9_next_45 4 rfl ?_
  refine v_if_ne (tgt := 70) hC dX9_next_47 (by decide) (fun c_18 => ?_) (fun c_18 => ?_)
  · replace h := ifn c_18 h
    refine v_aload_n hC dX9_next_70 0 rfl ?_
    refine v_aload_n hC dX9_next_71 0 rfl ?_
    refine v_get (C := RX9) (T := TX9) (N := 45) (ci := 8) (k := 24) (v := .ref (G.2.2.1 5)) hC hO0 hi_X9_next_X9 rfl (by decide) (by decide) rfl rfl fl26_X9_next dX9_next_72 rfl ?_
    refine v_iload_n hC dX9_next_75 1 rfl ?_
    obtain ⟨g_19, h⟩ := gd h
    refine v_iald hC (obM_8_24 hG hO0).1 (obM_8_24 hG hO0).2 (t0 := 0) rfl g_19 dX9_next_76 ?_
    refine v_aload_n hC dX9_next_77 0 rfl ?_
    refine v_get (C := RX9) (T := TX9) (N := 45) (ci := 8) (k := 25) (v := .ref (G.2.2.1 6)) hC hO0 hi_X9_next_X9 rfl (by decide) (by decide) rfl rfl fl29_X9_next dX9_next_78 rfl ?_
    refine v_iload_n hC dX9_next_81 1 rfl ?_
    obtain ⟨g_20, h⟩ := gd h
    refine v_iald hC (obM_8_25 hG hO0).1 (obM_8_25 hG hO0).2 (t0 := 0) rfl g_20 dX9_next_82 ?_
    refine v_iload_n hC dX9_next_83 3 rfl ?_
    refine v_iload hC dX9_next_84 4 rfl ?_
    obtain ⟨r23, s22, hc_21, h⟩ := bd2 h
    refine v_callVI hC mE_ok (n := 4) (As := [.int (gI σ 5 (ix x1)), .int (gI σ 6 (ix x1)), .int x3, .int x4]) (k_X9_nextBy l hG (hO0) hc_21) (cwV 4 hC.1.2.2.2.2 gX9_next_X9_nextBy rfl rfl rfl (by decide +kernel) ⟨(Nat.le_of_ble_eq_true rfl), (Nat.le_of_ble_eq_true rfl)⟩) hO0 (by decide) rfl rfl rfl (Nat.le_of_ble_eq_true rfl) ⟨Nat.zero_le _, Nat.zero_le _⟩ dX9_next_86 rfl ?_
    exact v_iret hC rfl dX9_next_89 h
  · replace h := ift c_18 h
    refine v_aload_n hC dX9_next_50 0 rfl ?_
    refine v_aload_n hC dX9_next_51 0 rfl ?_
    refine v_get (C := RX9) (T := TX9) (N := 45) (ci := 8) (k := 24) (v := .ref (G.2.2.1 5)) hC hO0 hi_X9_next_X9 rfl (by decide) (by decide) rfl rfl fl26_X9_next dX9_next_52 rfl ?_
    refine v_iload_n hC dX9_next_55 1 rfl ?_
    obtain ⟨g_24, h⟩ := gd h
    refine v_iald hC (obM_8_24 hG hO0).1 (obM_8_24 hG hO0).2 (t0 := 0) rfl g_24 dX9_next_56 ?_
    refine v_aload_n hC dX9_next_57 0 rfl ?_
    refine v_get (C := RX9) (T := TX9) (N := 45) (ci := 8) (k := 25) (v := .ref (G.2.2.1 6)) hC hO0 hi_X9_next_X9 rfl (by decide) (by decide) rfl rfl fl29_X9_next dX9_next_58 rfl ?_
    refine v_iload_n hC dX9_next_61 1 rfl ?_
    obtain ⟨g_25, h⟩ := gd h
    refine v_iald hC (obM_8_25 hG hO0).1 (obM_8_25 hG hO0).2 (t0 := 0) rfl g_25 dX9_next_62 ?_
    refine v_iload_n hC dX9_next_63 2 rfl ?_
    obtain ⟨r28, s27, hc_26, h⟩ := bd2 h
    refine v_callVI hC mE_ok (n := 3) (As := [.int (gI σ 5 (ix x1)), .int (gI σ 6 (ix x1)), .int x2]) (k_X9_firstBy l hG (hO0) hc_26) (cwV 3 hC.1.2.2.2.2 gX9_next_X9_firstBy rfl rfl rfl (by decide +kernel) ⟨(Nat.le_of_ble_eq_true rfl), (Nat.le_of_ble_eq_true rfl)⟩) hO0 (by decide) rfl rfl rfl (Nat.le_of_ble_eq_true rfl) ⟨Nat.zero_le _, Nat.zero_le _⟩ dX9_next_64 rfl ?_
    refine v_goto (tgt := 89) hC dX9_next_67 (by decide) ?_
    exact v_iret hC rfl dX9_next_89 h
def c_X9_next (p1 : Int32) (p2 : Int32) (p3 : Int32) (p4 : Int32) (σ : HS) : Option (Int32 × HS) := (bi2 (c_X9_isPlan p1 σ) (fun r3 s2 => (if r3 = 0 then (some ((-2), s2)) else (bi2 (c_X9_isBox p2 s2) (fun r7 s6 => (if r7 = 0 then (some ((-2), s6)) else (bi2 (c_X9_in (Int32.toInt64 p4) 0 12 s6) (fun r11 s10 => (if r11 = 0 then (some ((-2), s10)) else (if p4 ≤ 0 then (c_X9_next_45 p1 p2 p3 p4 s10) else (bi2 (c_X9_isBox p3 s10) (fun r16 s15 => (if r16 = 0 then (some ((-2), s15)) else (c_X9_next_45 p1 p2 p3 p4 s15))))))))))))))
set_option maxHeartbeats 4000000 in
set_option maxRecDepth 100000 in
theorem w_X9_next {p : Program} {l : Launch} {e : Env} {s : State} {m : MethodId} {args : Array Value} {below : List Frame} {meth : Method} {c : Code} {A : Nat → Prop} {G : WD}  {r0 : Int32} {τ : HS} {p1 : Int32} {p2 : Int32} {p3 : Int32} {p4 : Int32} {σ : HS}  (hG : GX G mY) (hO0 : Ob G mY 0 8) (hC : Cx mE G.1 G.2.1 mY cX9_next 5 (some .int) RX9 wsX9_next p s m args meth c A) (h : c_X9_next p1 p2 p3 p4 σ = some (r0, τ)) : V p l e rmX9_next s m args below meth c 5 A G mY 0 0 (MQ below (QI G mY A r0 τ) args s 0 0 A) σ 0 [(0, .ref (G.2.2.1 0)), (1, .int p1), (2, .int p2), (3, .int p3), (4, .int p4)] [] := by
  rw [c_X9_next] at h
  refine v_aload_n hC dX9_next_0 0 rfl ?_
  refine v_iload_n hC dX9_next_1 1 rfl ?_
  obtain ⟨r3, s2, hc_1, h⟩ := bd2 h
  refine v_callVI hC mE_ok (n := 1) (As := [.int p1]) (k_X9_isPlan l hG (hO0) hc_1) (cwV 1 hC.1.2.2.2.2 gX9_next_X9_isPlan rfl rfl rfl (by decide +kernel) ⟨(Nat.le_of_ble_eq_true rfl), (Nat.le_of_ble_eq_true rfl)⟩) hO0 (by decide) rfl rfl rfl (Nat.le_of_ble_eq_true rfl) ⟨Nat.zero_le _, Nat.zero_le _⟩ dX9_next_2 rfl ?_
  refine v_if_eq (tgt := 42) hC dX9_next_5 (by decide) (fun c_4 => ?_) (fun c_4 => ?_)
  · replace h := ift c_4 h
    refine v_bipush (v := (-2)) hC dX9_next_42 (by decide) ?_
    exact v_iret hC rfl dX9_next_44 h
  · replace h := ifn c_4 h
    refine v_aload_n hC dX9_next_8 0 rfl ?_
    refine v_iload_n hC dX9_next_9 2 rfl ?_
    obtain ⟨r7, s6, hc_5, h⟩ := bd2 h
    refine v_callVI hC mE_ok (n := 1) (As := [.int p2]) (k_X9_isBox l hG (hO0) hc_5) (cwV 1 hC.1.2.2.2.2 gX9_next_X9_isBox rfl rfl rfl (by decide +kernel) ⟨(Nat.le_of_ble_eq_true rfl), (Nat.le_of_ble_eq_true rfl)⟩) hO0 (by decide) rfl rfl rfl (Nat.le_of_ble_eq_true rfl) ⟨Nat.zero_le _, Nat.zero_le _⟩ dX9_next_10 rfl ?_
    refine v_if_eq (tgt := 42) hC dX9_next_13 (by decide) (fun c_8 => ?_) (fun c_8 => ?_)
    · replace h := ift c_8 h
      refine v_bipush (v := (-2)) hC dX9_next_42 (by decide) ?_
      exact v_iret hC rfl dX9_next_44 h
    · replace h := ifn c_8 h
      refine v_iload hC dX9_next_16 4 rfl ?_
      refine v_i2l hC dX9_next_18 ?_
      refine v_lconst (v := 0) hC dX9_next_19 (by decide) ?_
      refine v_ldc2 (v := 12) hC lc89_X9_next dX9_next_20 ?_
      obtain ⟨r11, s10, hc_9, h⟩ := bd2 h
      refine v_callSI hC mE_ok (n := 3) (As := [.long (Int32.toInt64 p4), .long 0, .long 12]) (k_X9_in l hG hc_9) (va_cwS 3 hC.1.2.2.2.2 gX9_next_X9_in rfl rfl rfl (by decide +kernel) ⟨(Nat.le_of_ble_eq_true rfl), (Nat.le_of_ble_eq_true rfl)⟩) rfl (Nat.le_of_ble_eq_true rfl) ⟨Nat.zero_le _, Nat.zero_le _⟩ dX9_next_23 rfl ?_
      refine v_if_eq (tgt := 42) hC dX9_next_26 (by decide) (fun c_12 => ?_) (fun c_12 => ?_)
      · replace h := ift c_12 h
        refine v_bipush (v := (-2)) hC dX9_next_42 (by decide) ?_
        exact v_iret hC rfl dX9_next_44 h
      · replace h := ifn c_12 h
        refine v_iload hC dX9_next_29 4 rfl ?_
        refine v_if_le (tgt := 45) hC dX9_next_31 (by decide) (fun c_13 => ?_) (fun c_13 => ?_)
        · replace h := ift c_13 h
          exact w_X9_next_45 hG (hO0) hC h
        · replace h := ifn c_13 h
          refine v_aload_n hC dX9_next_34 0 rfl ?_
          refine v_iload_n hC dX9_next_35 3 rfl ?_
          obtain ⟨r16, s15, hc_14, h⟩ := bd2 h
          refine v_callVI hC mE_ok (n := 1) (As := [.int p3]) (k_X9_isBox l hG (hO0) hc_14) (cwV 1 hC.1.2.2.2.2 gX9_next_X9_isBox rfl rfl rfl (by decide +kernel) ⟨(Nat.le_of_ble_eq_true rfl), (Nat.le_of_ble_eq_true rfl)⟩) hO0 (by decide) rfl rfl rfl (Nat.le_of_ble_eq_true rfl) ⟨Nat.zero_le _, Nat.zero_le _⟩ dX9_next_36 rfl ?_
          refine v_if_ne (tgt := 45) hC dX9_next_39 (by decide) (fun c_17 => ?_) (fun c_17 => ?_)
          · replace h := ifn c_17 h
            exact w_X9_next_45 hG (hO0) hC h
          · replace h := ift c_17 h
            refine v_bipush (v := (-2)) hC dX9_next_42 (by decide) ?_
            exact v_iret hC rfl dX9_next_44 h
theorem k_X9_next (l : Launch) {G : WD}   {r0 : Int32} {τ : HS} {p1 : Int32} {p2 : Int32} {p3 : Int32} {p4 : Int32} {σ : HS}  (hG : GX G mY) (hO0 : Ob G mY 0 8) (h : c_X9_next p1 p2 p3 p4 σ = some (r0, τ)) : MI mE l yX9_next wsX9_next rmX9_next G mY [.ref (G.2.2.1 0), .int p1, .int p2, .int p3, .int p4] σ r0 τ :=
  MI.of RX9 (by decide) rfl rfl (Nat.le_of_ble_eq_true rfl) rfl rfl (fun p e s m below meth c hC => w_X9_next  hG hO0 hC h)
abbrev rmX9_finds : Room := { frames := 1, cells := 0, slots := 0, locals := 26 }
def c_X9_finds_85 (x3 : Int32) (x5 : Int32) (σ : HS) : Option (Int32 × HS) := (if inb x5 12 = true then (if (gI σ 4 (ix x5)) = x3 then (some ((gI σ 0 27), σ)) else (some (0, σ))) else none)
set_option maxHeartbeats 4000000 in
set_option maxRecDepth 100000 in
theorem w_X9_finds_85 {p : Program} {l : Launch} {e : Env} {s : State} {m : MethodId} {args : Array Value} {below : List Frame} {meth : Method} {c : Code} {A : Nat → Prop} {G : WD}  {r0 : Int32} {τ : HS}  {x3 : Int32} {x5 : Int32} {σ : HS}  (hG : GX G mY) (hO0 : Ob G mY 0 8) (hC : Cx mE G.1 G.2.1 mY cX9_finds 6 (some .int) RX9 wsX9_finds p s m args meth c A)  (h : c_X9_finds_85 x3 x5 σ = some (r0, τ)) : V p l e rmX9_finds s m args below meth c 6 A G mY 0 0 (MQ below (QI G mY A r0 τ) args s 0 0 A) σ 85 [(0, .ref (G.2.2.1 0)), (3, .int x3), (5, .int x5)] [] := by
  rw [c_X9_finds_85] at h
  refine v_aload_n hC dX9_finds_85 0 rfl ?_
  refine v_get (C := RX9) (T := TX9) (N := 45) (ci := 8) (k := 7) (v := .ref (G.2.2.1 4)) hC hO0 hi_X9_finds_X9 rfl (by decide) (by decide) rfl rfl fl23_X9_finds dX9_finds_86 rfl ?_
  refine v_iload hC dX9_finds_89 2 rfl ?_
  obtain ⟨g_15, h⟩ := gd h
  refine v_iald hC (obM_8_7 hG hO0).1 (obM_8_7 hG hO0).2 (t0 := 0) rfl g_15 dX9_finds_91 ?_
  refine v_iload_n hC dX9_finds_92 1 rfl ?_
  refine v_icmp_ne (tgt := 103) hC dX9_finds_93 (by decide) (fun c_16 => ?_) (fun c_16 => ?_)
  · replace h := ifn c_16 h
    refine v_iconst (v := 0) hC dX9_finds_103 (by decide) ?_
    exact v_iret hC rfl dX9_finds_104 h
  · replace h := ift c_16 h
    refine v_aload_n hC dX9_finds_96 0 rfl ?_
    refine v_get (C := RX9) (T := TX9) (N := 45) (ci := 8) (k := 27) (v := .int (gI σ 0 27)) hC hO0 hi_X9_finds_X9 rfl (by decide) (by decide) rfl rfl fl274_X9_finds dX9_finds_97 rfl ?_
    refine v_goto (tgt := 104) hC dX9_finds_100 (by decide) ?_
    exact v_iret hC rfl dX9_finds_104 h
def c_X9_finds_38 : Nat → Int32 → Int32 → Int32 → Int32 → Int32 → HS → Option (Int32 × HS)
  | 0, _, _, _, _, _, _ => none
  | n + 1, x1, x2, x3, x4, x5, σ => (if inb x5 12 = true then (if (gI σ 4 (ix x5)) = x3 then (c_X9_finds_85 x3 x5 σ) else (if x4 ≤ (gI σ 0 27) then (c_X9_finds_85 x3 x5 σ) else (bi2 (c_X9_nextBy x1 x2 x5 (gI σ 0 27) σ) (fun r12 s11 => (lt (sI s11 0 27 ((gI s11 0 27) + 1)) (fun s13 => (c_X9_finds_38 n x1 x2 x3 x4 r12 s13))))))) else none)
set_option maxHeartbeats 4000000 in
set_option maxRecDepth 100000 in
theorem w_X9_finds_38 {p : Program} {l : Launch} {e : Env} {s : State} {m : MethodId} {args : Array Value} {below : List Frame} {meth : Method} {c : Code} {A : Nat → Prop} {G : WD}  {r0 : Int32} {τ : HS}   (hG : GX G mY) (hO0 : Ob G mY 0 8) (hC : Cx mE G.1 G.2.1 mY cX9_finds 6 (some .int) RX9 wsX9_finds p s m args meth c A)  : ∀ (n : Nat) (x1 : Int32) (x2 : Int32) (x3 : Int32) (x4 : Int32) (x5 : Int32) (σ : HS), c_X9_finds_38 n x1 x2 x3 x4 x5 σ = some (r0, τ) → V p l e rmX9_finds s m args below meth c 6 A G mY 0 0 (MQ below (QI G mY A r0 τ) args s 0 0 A) σ 38 [(0, .ref (G.2.2.1 0)), (1, .int x1), (2, .int x2), (3, .int x3), (4, .int x4), (5, .int x5)] [] := by
  intro n
  induction n with
  | zero => intro x1 x2 x3 x4 x5 σ h; exact nof h
  | succ n ih =>
    intro x1 x2 x3 x4 x5 σ h
    rw [c_X9_finds_38] at h
    refine v_aload_n hC dX9_finds_38 0 rfl ?_
    refine v_get (C := RX9) (T := TX9) (N := 45) (ci := 8) (k := 7) (v := .ref (G.2.2.1 4)) hC hO0 hi_X9_finds_X9 rfl (by decide) (by decide) rfl rfl fl23_X9_finds dX9_finds_39 rfl ?_
    refine v_iload hC dX9_finds_42 5 rfl ?_
    obtain ⟨g_7, h⟩ := gd h
    refine v_iald hC (obM_8_7 hG hO0).1 (obM_8_7 hG hO0).2 (t0 := 0) rfl g_7 dX9_finds_44 ?_
    refine v_iload_n hC dX9_finds_45 3 rfl ?_
    refine v_icmp_eq (tgt := 85) hC dX9_finds_46 (by decide) (fun c_8 => ?_) (fun c_8 => ?_)
    · replace h := ift c_8 h
      refine V.sub (L' := [(0, .ref (G.2.2.1 0)), (3, .int x3), (5, .int x5)]) [0, 3, 5] rfl ?_
      exact w_X9_finds_85 hG (hO0) hC h
    · replace h := ifn c_8 h
      refine v_aload_n hC dX9_finds_49 0 rfl ?_
      refine v_get (C := RX9) (T := TX9) (N := 45) (ci := 8) (k := 27) (v := .int (gI σ 0 27)) hC hO0 hi_X9_finds_X9 rfl (by decide) (by decide) rfl rfl fl274_X9_finds dX9_finds_50 rfl ?_
      refine v_iload hC dX9_finds_53 4 rfl ?_
      refine v_icmp_ge (tgt := 85) hC dX9_finds_55 (by decide) (fun c_9 => ?_) (fun c_9 => ?_)
      · replace h := ift c_9 h
        refine V.sub (L' := [(0, .ref (G.2.2.1 0)), (3, .int x3), (5, .int x5)]) [0, 3, 5] rfl ?_
        exact w_X9_finds_85 hG (hO0) hC h
      · replace h := ifn c_9 h
        refine v_aload_n hC dX9_finds_58 0 rfl ?_
        refine v_iload_n hC dX9_finds_59 1 rfl ?_
        refine v_iload_n hC dX9_finds_60 2 rfl ?_
        refine v_iload hC dX9_finds_61 5 rfl ?_
        refine v_aload_n hC dX9_finds_63 0 rfl ?_
        refine v_get (C := RX9) (T := TX9) (N := 45) (ci := 8) (k := 27) (v := .int (gI σ 0 27)) hC hO0 hi_X9_finds_X9 rfl (by decide) (by decide) rfl rfl fl274_X9_finds dX9_finds_64 rfl ?_
        obtain ⟨r12, s11, hc_10, h⟩ := bd2 h
        refine v_callVI hC mE_ok (n := 4) (As := [.int x1, .int x2, .int x5, .int (gI σ 0 27)]) (k_X9_nextBy l hG (hO0) hc_10) (cwV 4 hC.1.2.2.2.2 gX9_finds_X9_nextBy rfl rfl rfl (by decide +kernel) ⟨(Nat.le_of_ble_eq_true rfl), (Nat.le_of_ble_eq_true rfl)⟩) hO0 (by decide) rfl rfl rfl (Nat.le_of_ble_eq_true rfl) ⟨Nat.zero_le _, Nat.zero_le _⟩ dX9_finds_67 rfl ?_
        refine v_istore (L' := [(0, .ref (G.2.2.1 0)), (1, .int x1), (2, .int x2), (3, .int x3), (4, .int x4), (5, .int r12)]) hC dX9_finds_70 (by decide) [1, 2, 3, 4, 5, 0] rfl ?_
        refine v_aload_n hC dX9_finds_72 0 rfl ?_
        refine v_dup hC dX9_finds_73 rfl ?_
        refine v_get (C := RX9) (T := TX9) (N := 45) (ci := 8) (k := 27) (v := .int (gI s11 0 27)) hC hO0 hi_X9_finds_X9 rfl (by decide) (by decide) rfl rfl fl274_X9_finds dX9_finds_74 rfl ?_
        refine v_iconst (v := 1) hC dX9_finds_77 (by decide) ?_
        refine v_iadd hC dX9_finds_78 ?_
        refine v_putI (C := RX9) (T := TX9) (N := 45) (ci := 8) (k := 27) (ty := .int) hC hO0 hi_X9_finds_X9 rfl (by decide) (by decide) rfl rfl tyX9_ok nmX9 fl274_X9_finds rfl rfl rfl rfl rfl dX9_finds_79 ?_
        obtain ⟨s13, e14, h⟩ := ld h
        refine V.eq e14 ?_
        refine v_goto (tgt := 38) hC dX9_finds_82 (by decide) ?_
        exact ih _ _ _ _ _ _ h
def c_X9_finds_22 (x1 : Int32) (x2 : Int32) (x3 : Int32) (y0 : Int32) (σ : HS) : Option (Int32 × HS) := (bi2 (c_X9_firstBy x1 x2 x3 σ) (fun r4 s3 => (lt (sI s3 0 27 1) (fun s5 => (c_X9_finds_38 FU x1 x2 x3 y0 r4 s5)))))
set_option maxHeartbeats 4000000 in
set_option maxRecDepth 100000 in
theorem w_X9_finds_22 {p : Program} {l : Launch} {e : Env} {s : State} {m : MethodId} {args : Array Value} {below : List Frame} {meth : Method} {c : Code} {A : Nat → Prop} {G : WD}  {r0 : Int32} {τ : HS}  {x1 : Int32} {x2 : Int32} {x3 : Int32} {y0 : Int32} {σ : HS}  (hG : GX G mY) (hO0 : Ob G mY 0 8) (hC : Cx mE G.1 G.2.1 mY cX9_finds 6 (some .int) RX9 wsX9_finds p s m args meth c A)  (h : c_X9_finds_22 x1 x2 x3 y0 σ = some (r0, τ)) : V p l e rmX9_finds s m args below meth c 6 A G mY 0 0 (MQ below (QI G mY A r0 τ) args s 0 0 A) σ 22 [(0, .ref (G.2.2.1 0)), (1, .int x1), (2, .int x2), (3, .int x3)] [.int y0] := by
  rw [c_X9_finds_22] at h
  refine v_istore (L' := [(0, .ref (G.2.2.1 0)), (1, .int x1), (2, .int x2), (3, .int x3), (4, .int y0)]) hC dX9_finds_22 (by decide) [1, 2, 3, 4, 0] rfl ?_
  refine v_aload_n hC dX9_finds_24 0 rfl ?_
  refine v_iload_n hC dX9_finds_25 1 rfl ?_
  refine v_iload_n hC dX9_finds_26 2 rfl ?_
  refine v_iload_n hC dX9_finds_27 3 rfl ?_
  obtain ⟨r4, s3, hc_2, h⟩ := bd2 h
  refine v_callVI hC mE_ok (n := 3) (As := [.int x1, .int x2, .int x3]) (k_X9_firstBy l hG (hO0) hc_2) (cwV 3 hC.1.2.2.2.2 gX9_finds_X9_firstBy rfl rfl rfl (by decide +kernel) ⟨(Nat.le_of_ble_eq_true rfl), (Nat.le_of_ble_eq_true rfl)⟩) hO0 (by decide) rfl rfl rfl (Nat.le_of_ble_eq_true rfl) ⟨Nat.zero_le _, Nat.zero_le _⟩ dX9_finds_28 rfl ?_
  refine v_istore (L' := [(0, .ref (G.2.2.1 0)), (1, .int x1), (2, .int x2), (3, .int x3), (4, .int y0), (5, .int r4)]) hC dX9_finds_31 (by decide) [1, 2, 3, 4, 5, 0] rfl ?_
  refine v_aload_n hC dX9_finds_33 0 rfl ?_
  refine v_iconst (v := 1) hC dX9_finds_34 (by decide) ?_
  refine v_putI (C := RX9) (T := TX9) (N := 45) (ci := 8) (k := 27) (ty := .int) hC hO0 hi_X9_finds_X9 rfl (by decide) (by decide) rfl rfl tyX9_ok nmX9 fl274_X9_finds rfl rfl rfl rfl rfl dX9_finds_35 ?_
  obtain ⟨s5, e6, h⟩ := ld h
  refine V.eq e6 ?_
  exact w_X9_finds_38 hG (hO0) hC FU _ _ _ _ _ _ h
def c_X9_finds (p1 : Int32) (p2 : Int32) (p3 : Int32) (σ : HS) : Option (Int32 × HS) := (if (gI σ 0 8) ≤ (gI σ 0 9) then (c_X9_finds_22 p1 p2 p3 (gI σ 0 8) σ) else (c_X9_finds_22 p1 p2 p3 (gI σ 0 9) σ))
set_option maxHeartbeats 4000000 in
set_option maxRecDepth 100000 in
theorem w_X9_finds {p : Program} {l : Launch} {e : Env} {s : State} {m : MethodId} {args : Array Value} {below : List Frame} {meth : Method} {c : Code} {A : Nat → Prop} {G : WD}  {r0 : Int32} {τ : HS} {p1 : Int32} {p2 : Int32} {p3 : Int32} {σ : HS}  (hG : GX G mY) (hO0 : Ob G mY 0 8) (hC : Cx mE G.1 G.2.1 mY cX9_finds 6 (some .int) RX9 wsX9_finds p s m args meth c A) (h : c_X9_finds p1 p2 p3 σ = some (r0, τ)) : V p l e rmX9_finds s m args below meth c 6 A G mY 0 0 (MQ below (QI G mY A r0 τ) args s 0 0 A) σ 0 [(0, .ref (G.2.2.1 0)), (1, .int p1), (2, .int p2), (3, .int p3)] [] := by
  rw [c_X9_finds] at h
  refine v_aload_n hC dX9_finds_0 0 rfl ?_
  refine v_get (C := RX9) (T := TX9) (N := 45) (ci := 8) (k := 9) (v := .int (gI σ 0 9)) hC hO0 hi_X9_finds_X9 rfl (by decide) (by decide) rfl rfl fl77_X9_finds dX9_finds_1 rfl ?_
  refine v_aload_n hC dX9_finds_4 0 rfl ?_
  refine v_get (C := RX9) (T := TX9) (N := 45) (ci := 8) (k := 8) (v := .int (gI σ 0 8)) hC hO0 hi_X9_finds_X9 rfl (by decide) (by decide) rfl rfl fl74_X9_finds dX9_finds_5 rfl ?_
  refine v_icmp_ge (tgt := 18) hC dX9_finds_8 (by decide) (fun c_1 => ?_) (fun c_1 => ?_)
  · replace h := ift c_1 h
    refine v_aload_n hC dX9_finds_18 0 rfl ?_
    refine v_get (C := RX9) (T := TX9) (N := 45) (ci := 8) (k := 8) (v := .int (gI σ 0 8)) hC hO0 hi_X9_finds_X9 rfl (by decide) (by decide) rfl rfl fl74_X9_finds dX9_finds_19 rfl ?_
    exact w_X9_finds_22 hG (hO0) hC h
  · replace h := ifn c_1 h
    refine v_aload_n hC dX9_finds_11 0 rfl ?_
    refine v_get (C := RX9) (T := TX9) (N := 45) (ci := 8) (k := 9) (v := .int (gI σ 0 9)) hC hO0 hi_X9_finds_X9 rfl (by decide) (by decide) rfl rfl fl77_X9_finds dX9_finds_12 rfl ?_
    refine v_goto (tgt := 22) hC dX9_finds_15 (by decide) ?_
    exact w_X9_finds_22 hG (hO0) hC h
theorem k_X9_finds (l : Launch) {G : WD}   {r0 : Int32} {τ : HS} {p1 : Int32} {p2 : Int32} {p3 : Int32} {σ : HS}  (hG : GX G mY) (hO0 : Ob G mY 0 8) (h : c_X9_finds p1 p2 p3 σ = some (r0, τ)) : MI mE l yX9_finds wsX9_finds rmX9_finds G mY [.ref (G.2.2.1 0), .int p1, .int p2, .int p3] σ r0 τ :=
  MI.of RX9 (by decide) rfl rfl (Nat.le_of_ble_eq_true rfl) rfl rfl (fun p e s m below meth c hC => w_X9_finds  hG hO0 hC h)
abbrev rmX9_goHome : Room := { frames := 158, cells := 0, slots := 0, locals := 7172 }
def c_X9_goHome_40 (k12 : Int32 → Int32 → Int32 → HS → Option (Int32 × HS)) (x1 : Int32) (x2 : Int32) (x3 : Int32) (y1 : Int32) (y2 : Int32) (σ : HS) : Option (Int32 × HS) := (lt (sI σ 0 28 (y1 + y2)) (fun s21 => (lt (sI s21 0 29 ((gI s21 0 29) + (gI s21 0 27))) (fun s23 => (k12 x1 x2 (x3 + 1) s23)))))
set_option maxHeartbeats 4000000 in
set_option maxRecDepth 100000 in
theorem w_X9_goHome_40 {p : Program} {l : Launch} {e : Env} {s : State} {m : MethodId} {args : Array Value} {below : List Frame} {meth : Method} {c : Code} {A : Nat → Prop} {G : WD}  {r0 : Int32} {τ : HS}  {k12 : Int32 → Int32 → Int32 → HS → Option (Int32 × HS)} {x1 : Int32} {x2 : Int32} {x3 : Int32} {y1 : Int32} {y2 : Int32} {σ : HS}  (hG : GX G mY) (hO0 : Ob G mY 0 8) (hP0 : Ob G mY 0 8) (hC : Cx mE G.1 G.2.1 mY cX9_goHome 4 (some .int) RX9 wsX9_goHome p s m args meth c A) (hk12 : ∀ (x1 : Int32) (x2 : Int32) (x3 : Int32) (σ : HS), k12 x1 x2 x3 σ = some (r0, τ) → V p l e rmX9_goHome s m args below meth c 4 A G mY 0 0 (MQ below (QI G mY A r0 τ) args s 0 0 A) σ 12 [(0, .ref (G.2.2.1 0)), (1, .int x1), (2, .int x2), (3, .int x3)] []) (h : c_X9_goHome_40 k12 x1 x2 x3 y1 y2 σ = some (r0, τ)) : V p l e rmX9_goHome s m args below meth c 4 A G mY 0 0 (MQ below (QI G mY A r0 τ) args s 0 0 A) σ 40 [(0, .ref (G.2.2.1 0)), (1, .int x1), (2, .int x2), (3, .int x3)] [.int y2, .int y1, .ref (G.2.2.1 0)] := by
  rw [c_X9_goHome_40] at h
  refine v_iadd hC dX9_goHome_40 ?_
  refine v_putI (C := RX9) (T := TX9) (N := 45) (ci := 8) (k := 28) (ty := .int) hC hP0 hi_X9_goHome_X9 rfl (by decide) (by decide) rfl rfl tyX9_ok nmX9 fl277_X9_goHome rfl rfl rfl rfl rfl dX9_goHome_41 ?_
  obtain ⟨s21, e22, h⟩ := ld h
  refine V.eq e22 ?_
  refine v_aload_n hC dX9_goHome_44 0 rfl ?_
  refine v_dup hC dX9_goHome_45 rfl ?_
  refine v_get (C := RX9) (T := TX9) (N := 45) (ci := 8) (k := 29) (v := .int (gI s21 0 29)) hC hO0 hi_X9_goHome_X9 rfl (by decide) (by decide) rfl rfl fl280_X9_goHome dX9_goHome_46 rfl ?_
  refine v_aload_n hC dX9_goHome_49 0 rfl ?_
  refine v_get (C := RX9) (T := TX9) (N := 45) (ci := 8) (k := 27) (v := .int (gI s21 0 27)) hC hO0 hi_X9_goHome_X9 rfl (by decide) (by decide) rfl rfl fl274_X9_goHome dX9_goHome_50 rfl ?_
  refine v_iadd hC dX9_goHome_53 ?_
  refine v_putI (C := RX9) (T := TX9) (N := 45) (ci := 8) (k := 29) (ty := .int) hC hO0 hi_X9_goHome_X9 rfl (by decide) (by decide) rfl rfl tyX9_ok nmX9 fl280_X9_goHome rfl rfl rfl rfl rfl dX9_goHome_54 ?_
  obtain ⟨s23, e24, h⟩ := ld h
  refine V.eq e24 ?_
  refine v_iinc (v := (x3 + 1)) (L' := [(0, .ref (G.2.2.1 0)), (1, .int x1), (2, .int x2), (3, .int (x3 + 1))]) hC dX9_goHome_57 3 rfl rfl (by decide) [1, 2, 3, 0] rfl ?_
  refine v_goto (tgt := 12) hC dX9_goHome_60 (by decide) ?_
  exact hk12 _ _ _ _ h
def c_X9_goHome_63 (σ : HS) : Option (Int32 × HS) := (bi1 (c_X9_lays σ) (fun s11 => (bi2 (c_X9_read (gI s11 0 4) (gI s11 0 28) (gI s11 0 29) 0 s11) (fun r14 s13 => (if r14 = 0 then (bi2 (c_X9_read (gI s13 0 4) (gI s13 0 28) (gI s13 0 29) 1 s13) (fun r18 s17 => (if 0 ≤ r18 then (if r18 ≤ (gI s17 0 8) then (some (r18, s17)) else (some ((gI s17 0 8), s17))) else (some (0, s17))))) else (some ((gI s13 0 8), s13)))))))
set_option maxHeartbeats 4000000 in
set_option maxRecDepth 100000 in
theorem w_X9_goHome_63 {p : Program} {l : Launch} {e : Env} {s : State} {m : MethodId} {args : Array Value} {below : List Frame} {meth : Method} {c : Code} {A : Nat → Prop} {G : WD}  {r0 : Int32} {τ : HS}   {σ : HS}  (hG : GX G mY) (hO0 : Ob G mY 0 8) (hC : Cx mE G.1 G.2.1 mY cX9_goHome 4 (some .int) RX9 wsX9_goHome p s m args meth c A)  (h : c_X9_goHome_63  σ = some (r0, τ)) : V p l e rmX9_goHome s m args below meth c 4 A G mY 0 0 (MQ below (QI G mY A r0 τ) args s 0 0 A) σ 63 [(0, .ref (G.2.2.1 0))] [] := by
  rw [c_X9_goHome_63] at h
  refine v_aload_n hC dX9_goHome_63 0 rfl ?_
  obtain ⟨s11, hc_10, h⟩ := bd1 h
  refine v_callVV hC mE_ok (n := 0) (As := []) (k_X9_lays l hG (hO0) hc_10) (cwV 0 hC.1.2.2.2.2 gX9_goHome_X9_lays rfl rfl rfl (by decide +kernel) ⟨(Nat.le_of_ble_eq_true rfl), (Nat.le_of_ble_eq_true rfl)⟩) hO0 (by decide) rfl rfl rfl (Nat.le_of_ble_eq_true rfl) ⟨Nat.zero_le _, Nat.zero_le _⟩ dX9_goHome_64 rfl ?_
  refine v_aload_n hC dX9_goHome_67 0 rfl ?_
  refine v_aload_n hC dX9_goHome_68 0 rfl ?_
  refine v_get (C := RX9) (T := TX9) (N := 45) (ci := 8) (k := 4) (v := .int (gI s11 0 4)) hC hO0 hi_X9_goHome_X9 rfl (by decide) (by decide) rfl rfl fl254_X9_goHome dX9_goHome_69 rfl ?_
  refine v_aload_n hC dX9_goHome_72 0 rfl ?_
  refine v_get (C := RX9) (T := TX9) (N := 45) (ci := 8) (k := 28) (v := .int (gI s11 0 28)) hC hO0 hi_X9_goHome_X9 rfl (by decide) (by decide) rfl rfl fl277_X9_goHome dX9_goHome_73 rfl ?_
  refine v_aload_n hC dX9_goHome_76 0 rfl ?_
  refine v_get (C := RX9) (T := TX9) (N := 45) (ci := 8) (k := 29) (v := .int (gI s11 0 29)) hC hO0 hi_X9_goHome_X9 rfl (by decide) (by decide) rfl rfl fl280_X9_goHome dX9_goHome_77 rfl ?_
  refine v_iconst (v := 0) hC dX9_goHome_80 (by decide) ?_
  obtain ⟨r14, s13, hc_12, h⟩ := bd2 h
  refine v_callVI hC mE_ok (n := 4) (As := [.int (gI s11 0 4), .int (gI s11 0 28), .int (gI s11 0 29), .int 0]) (k_X9_read l hG (hO0) hc_12) (cwV 4 hC.1.2.2.2.2 gX9_goHome_X9_read rfl rfl rfl (by decide +kernel) ⟨(Nat.le_of_ble_eq_true rfl), (Nat.le_of_ble_eq_true rfl)⟩) hO0 (by decide) rfl rfl rfl (Nat.le_of_ble_eq_true rfl) ⟨Nat.zero_le _, Nat.zero_le _⟩ dX9_goHome_81 rfl ?_
  refine v_if_eq (tgt := 92) hC dX9_goHome_84 (by decide) (fun c_15 => ?_) (fun c_15 => ?_)
  · replace h := ift c_15 h
    refine v_aload_n hC dX9_goHome_92 0 rfl ?_
    refine v_aload_n hC dX9_goHome_93 0 rfl ?_
    refine v_get (C := RX9) (T := TX9) (N := 45) (ci := 8) (k := 4) (v := .int (gI s13 0 4)) hC hO0 hi_X9_goHome_X9 rfl (by decide) (by decide) rfl rfl fl254_X9_goHome dX9_goHome_94 rfl ?_
    refine v_aload_n hC dX9_goHome_97 0 rfl ?_
    refine v_get (C := RX9) (T := TX9) (N := 45) (ci := 8) (k := 28) (v := .int (gI s13 0 28)) hC hO0 hi_X9_goHome_X9 rfl (by decide) (by decide) rfl rfl fl277_X9_goHome dX9_goHome_98 rfl ?_
    refine v_aload_n hC dX9_goHome_101 0 rfl ?_
    refine v_get (C := RX9) (T := TX9) (N := 45) (ci := 8) (k := 29) (v := .int (gI s13 0 29)) hC hO0 hi_X9_goHome_X9 rfl (by decide) (by decide) rfl rfl fl280_X9_goHome dX9_goHome_102 rfl ?_
    refine v_iconst (v := 1) hC dX9_goHome_105 (by decide) ?_
    obtain ⟨r18, s17, hc_16, h⟩ := bd2 h
    refine v_callVI hC mE_ok (n := 4) (As := [.int (gI s13 0 4), .int (gI s13 0 28), .int (gI s13 0 29), .int 1]) (k_X9_read l hG (hO0) hc_16) (cwV 4 hC.1.2.2.2.2 gX9_goHome_X9_read rfl rfl rfl (by decide +kernel) ⟨(Nat.le_of_ble_eq_true rfl), (Nat.le_of_ble_eq_true rfl)⟩) hO0 (by decide) rfl rfl rfl (Nat.le_of_ble_eq_true rfl) ⟨Nat.zero_le _, Nat.zero_le _⟩ dX9_goHome_106 rfl ?_
    refine v_istore_n (L' := [(0, .ref (G.2.2.1 0)), (3, .int r18)]) hC dX9_goHome_109 (by decide) [1, 0] rfl ?_
    refine v_iload_n hC dX9_goHome_110 1 rfl ?_
    refine v_if_ge (tgt := 118) hC dX9_goHome_111 (by decide) (fun c_19 => ?_) (fun c_19 => ?_)
    · replace h := ift c_19 h
      refine v_iload_n hC dX9_goHome_118 1 rfl ?_
      refine v_aload_n hC dX9_goHome_119 0 rfl ?_
      refine v_get (C := RX9) (T := TX9) (N := 45) (ci := 8) (k := 8) (v := .int (gI s17 0 8)) hC hO0 hi_X9_goHome_X9 rfl (by decide) (by decide) rfl rfl fl74_X9_goHome dX9_goHome_120 rfl ?_
      refine v_icmp_le (tgt := 133) hC dX9_goHome_123 (by decide) (fun c_20 => ?_) (fun c_20 => ?_)
      · replace h := ift c_20 h
        refine v_iload_n hC dX9_goHome_133 1 rfl ?_
        exact v_iret hC rfl dX9_goHome_134 h
      · replace h := ifn c_20 h
        refine v_aload_n hC dX9_goHome_126 0 rfl ?_
        refine v_get (C := RX9) (T := TX9) (N := 45) (ci := 8) (k := 8) (v := .int (gI s17 0 8)) hC hO0 hi_X9_goHome_X9 rfl (by decide) (by decide) rfl rfl fl74_X9_goHome dX9_goHome_127 rfl ?_
        refine v_goto (tgt := 134) hC dX9_goHome_130 (by decide) ?_
        exact v_iret hC rfl dX9_goHome_134 h
    · replace h := ifn c_19 h
      refine v_iconst (v := 0) hC dX9_goHome_114 (by decide) ?_
      refine v_goto (tgt := 134) hC dX9_goHome_115 (by decide) ?_
      exact v_iret hC rfl dX9_goHome_134 h
  · replace h := ifn c_15 h
    refine v_aload_n hC dX9_goHome_87 0 rfl ?_
    refine v_get (C := RX9) (T := TX9) (N := 45) (ci := 8) (k := 8) (v := .int (gI s13 0 8)) hC hO0 hi_X9_goHome_X9 rfl (by decide) (by decide) rfl rfl fl74_X9_goHome dX9_goHome_88 rfl ?_
    exact v_iret hC rfl dX9_goHome_91 h
def c_X9_goHome_12 : Nat → Int32 → Int32 → Int32 → HS → Option (Int32 × HS)
  | 0, _, _, _, _ => none
  | n + 1, x1, x2, x3, σ => (if (gI σ 0 8) ≤ x3 then (c_X9_goHome_63 σ) else (bi2 (c_X9_finds x1 x2 x3 σ) (fun r8 s7 => (if r8 ≤ 0 then (c_X9_goHome_40 (fun z0 z1 z2 z3 => c_X9_goHome_12 n z0 z1 z2 z3) x1 x2 x3 (gI σ 0 28) 0 s7) else (c_X9_goHome_40 (fun z0 z1 z2 z3 => c_X9_goHome_12 n z0 z1 z2 z3) x1 x2 x3 (gI σ 0 28) 1 s7)))))
set_option maxHeartbeats 4000000 in
set_option maxRecDepth 100000 in
theorem w_X9_goHome_12 {p : Program} {l : Launch} {e : Env} {s : State} {m : MethodId} {args : Array Value} {below : List Frame} {meth : Method} {c : Code} {A : Nat → Prop} {G : WD}  {r0 : Int32} {τ : HS}   (hG : GX G mY) (hO0 : Ob G mY 0 8) (hC : Cx mE G.1 G.2.1 mY cX9_goHome 4 (some .int) RX9 wsX9_goHome p s m args meth c A)  : ∀ (n : Nat) (x1 : Int32) (x2 : Int32) (x3 : Int32) (σ : HS), c_X9_goHome_12 n x1 x2 x3 σ = some (r0, τ) → V p l e rmX9_goHome s m args below meth c 4 A G mY 0 0 (MQ below (QI G mY A r0 τ) args s 0 0 A) σ 12 [(0, .ref (G.2.2.1 0)), (1, .int x1), (2, .int x2), (3, .int x3)] [] := by
  intro n
  induction n with
  | zero => intro x1 x2 x3 σ h; exact nof h
  | succ n ih =>
    intro x1 x2 x3 σ h
    rw [c_X9_goHome_12] at h
    refine v_iload_n hC dX9_goHome_12 3 rfl ?_
    refine v_aload_n hC dX9_goHome_13 0 rfl ?_
    refine v_get (C := RX9) (T := TX9) (N := 45) (ci := 8) (k := 8) (v := .int (gI σ 0 8)) hC hO0 hi_X9_goHome_X9 rfl (by decide) (by decide) rfl rfl fl74_X9_goHome dX9_goHome_14 rfl ?_
    refine v_icmp_ge (tgt := 63) hC dX9_goHome_17 (by decide) (fun c_5 => ?_) (fun c_5 => ?_)
    · replace h := ift c_5 h
      refine V.sub (L' := [(0, .ref (G.2.2.1 0))]) [0] rfl ?_
      exact w_X9_goHome_63 hG (hO0) hC h
    · replace h := ifn c_5 h
      refine v_aload_n hC dX9_goHome_20 0 rfl ?_
      refine v_dup hC dX9_goHome_21 rfl ?_
      refine v_get (C := RX9) (T := TX9) (N := 45) (ci := 8) (k := 28) (v := .int (gI σ 0 28)) hC hO0 hi_X9_goHome_X9 rfl (by decide) (by decide) rfl rfl fl277_X9_goHome dX9_goHome_22 rfl ?_
      refine v_aload_n hC dX9_goHome_25 0 rfl ?_
      refine v_iload_n hC dX9_goHome_26 1 rfl ?_
      refine v_iload_n hC dX9_goHome_27 2 rfl ?_
      refine v_iload_n hC dX9_goHome_28 3 rfl ?_
      obtain ⟨r8, s7, hc_6, h⟩ := bd2 h
      refine v_callVI hC mE_ok (n := 3) (As := [.int x1, .int x2, .int x3]) (k_X9_finds l hG (hO0) hc_6) (cwV 3 hC.1.2.2.2.2 gX9_goHome_X9_finds rfl rfl rfl (by decide +kernel) ⟨(Nat.le_of_ble_eq_true rfl), (Nat.le_of_ble_eq_true rfl)⟩) hO0 (by decide) rfl rfl rfl (Nat.le_of_ble_eq_true rfl) ⟨Nat.zero_le _, Nat.zero_le _⟩ dX9_goHome_29 rfl ?_
      refine v_if_le (tgt := 39) hC dX9_goHome_32 (by decide) (fun c_9 => ?_) (fun c_9 => ?_)
      · replace h := ift c_9 h
        refine v_iconst (v := 0) hC dX9_goHome_39 (by decide) ?_
        exact w_X9_goHome_40 hG (hO0) (hO0) hC (fun _ _ _ _ h => ih _ _ _ _ h) h
      · replace h := ifn c_9 h
        refine v_iconst (v := 1) hC dX9_goHome_35 (by decide) ?_
        refine v_goto (tgt := 40) hC dX9_goHome_36 (by decide) ?_
        exact w_X9_goHome_40 hG (hO0) (hO0) hC (fun _ _ _ _ h => ih _ _ _ _ h) h
def c_X9_goHome (p1 : Int32) (p2 : Int32) (σ : HS) : Option (Int32 × HS) := (lt (sI σ 0 28 0) (fun s1 => (lt (sI s1 0 29 0) (fun s3 => (c_X9_goHome_12 FU p1 p2 0 s3)))))
set_option maxHeartbeats 4000000 in
set_option maxRecDepth 100000 in
theorem w_X9_goHome {p : Program} {l : Launch} {e : Env} {s : State} {m : MethodId} {args : Array Value} {below : List Frame} {meth : Method} {c : Code} {A : Nat → Prop} {G : WD}  {r0 : Int32} {τ : HS} {p1 : Int32} {p2 : Int32} {σ : HS}  (hG : GX G mY) (hO0 : Ob G mY 0 8) (hC : Cx mE G.1 G.2.1 mY cX9_goHome 4 (some .int) RX9 wsX9_goHome p s m args meth c A) (h : c_X9_goHome p1 p2 σ = some (r0, τ)) : V p l e rmX9_goHome s m args below meth c 4 A G mY 0 0 (MQ below (QI G mY A r0 τ) args s 0 0 A) σ 0 [(0, .ref (G.2.2.1 0)), (1, .int p1), (2, .int p2)] [] := by
  rw [c_X9_goHome] at h
  refine v_aload_n hC dX9_goHome_0 0 rfl ?_
  refine v_iconst (v := 0) hC dX9_goHome_1 (by decide) ?_
  refine v_putI (C := RX9) (T := TX9) (N := 45) (ci := 8) (k := 28) (ty := .int) hC hO0 hi_X9_goHome_X9 rfl (by decide) (by decide) rfl rfl tyX9_ok nmX9 fl277_X9_goHome rfl rfl rfl rfl rfl dX9_goHome_2 ?_
  obtain ⟨s1, e2, h⟩ := ld h
  refine V.eq e2 ?_
  refine v_aload_n hC dX9_goHome_5 0 rfl ?_
  refine v_iconst (v := 0) hC dX9_goHome_6 (by decide) ?_
  refine v_putI (C := RX9) (T := TX9) (N := 45) (ci := 8) (k := 29) (ty := .int) hC hO0 hi_X9_goHome_X9 rfl (by decide) (by decide) rfl rfl tyX9_ok nmX9 fl280_X9_goHome rfl rfl rfl rfl rfl dX9_goHome_7 ?_
  obtain ⟨s3, e4, h⟩ := ld h
  refine V.eq e4 ?_
  refine v_iconst (v := 0) hC dX9_goHome_10 (by decide) ?_
  refine v_istore_n (L' := [(0, .ref (G.2.2.1 0)), (1, .int p1), (2, .int p2), (3, .int 0)]) hC dX9_goHome_11 (by decide) [1, 2, 3, 0] rfl ?_
  exact w_X9_goHome_12 hG (hO0) hC FU _ _ _ _ h
theorem k_X9_goHome (l : Launch) {G : WD}   {r0 : Int32} {τ : HS} {p1 : Int32} {p2 : Int32} {σ : HS}  (hG : GX G mY) (hO0 : Ob G mY 0 8) (h : c_X9_goHome p1 p2 σ = some (r0, τ)) : MI mE l yX9_goHome wsX9_goHome rmX9_goHome G mY [.ref (G.2.2.1 0), .int p1, .int p2] σ r0 τ :=
  MI.of RX9 (by decide) rfl rfl (Nat.le_of_ble_eq_true rfl) rfl rfl (fun p e s m below meth c hC => w_X9_goHome  hG hO0 hC h)
abbrev rmX9_found : Room := { frames := 2, cells := 0, slots := 0, locals := 51 }
def c_X9_found (p1 : Int32) (p2 : Int32) (σ : HS) : Option (Int32 × HS) := (bi2 (c_X9_isPlan p1 σ) (fun r3 s2 => (if r3 = 0 then (some ((-2), s2)) else (bi2 (c_X9_isBox p2 s2) (fun r7 s6 => (if r7 = 0 then (some ((-2), s6)) else (if inb p1 8 = true then (if inb p1 8 = true then (bi2 (c_X9_finds (gI s6 5 (ix p1)) (gI s6 6 (ix p1)) p2 s6) (fun r13 s12 => (some (r13, s12)))) else none) else none)))))))
set_option maxHeartbeats 4000000 in
set_option maxRecDepth 100000 in
theorem w_X9_found {p : Program} {l : Launch} {e : Env} {s : State} {m : MethodId} {args : Array Value} {below : List Frame} {meth : Method} {c : Code} {A : Nat → Prop} {G : WD}  {r0 : Int32} {τ : HS} {p1 : Int32} {p2 : Int32} {σ : HS}  (hG : GX G mY) (hO0 : Ob G mY 0 8) (hC : Cx mE G.1 G.2.1 mY cX9_found 3 (some .int) RX9 wsX9_found p s m args meth c A) (h : c_X9_found p1 p2 σ = some (r0, τ)) : V p l e rmX9_found s m args below meth c 3 A G mY 0 0 (MQ below (QI G mY A r0 τ) args s 0 0 A) σ 0 [(0, .ref (G.2.2.1 0)), (1, .int p1), (2, .int p2)] [] := by
  rw [c_X9_found] at h
  refine v_aload_n hC dX9_found_0 0 rfl ?_
  refine v_iload_n hC dX9_found_1 1 rfl ?_
  obtain ⟨r3, s2, hc_1, h⟩ := bd2 h
  refine v_callVI hC mE_ok (n := 1) (As := [.int p1]) (k_X9_isPlan l hG (hO0) hc_1) (cwV 1 hC.1.2.2.2.2 gX9_found_X9_isPlan rfl rfl rfl (by decide +kernel) ⟨(Nat.le_of_ble_eq_true rfl), (Nat.le_of_ble_eq_true rfl)⟩) hO0 (by decide) rfl rfl rfl (Nat.le_of_ble_eq_true rfl) ⟨Nat.zero_le _, Nat.zero_le _⟩ dX9_found_2 rfl ?_
  refine v_if_eq (tgt := 36) hC dX9_found_5 (by decide) (fun c_4 => ?_) (fun c_4 => ?_)
  · replace h := ift c_4 h
    refine v_bipush (v := (-2)) hC dX9_found_36 (by decide) ?_
    exact v_iret hC rfl dX9_found_38 h
  · replace h := ifn c_4 h
    refine v_aload_n hC dX9_found_8 0 rfl ?_
    refine v_iload_n hC dX9_found_9 2 rfl ?_
    obtain ⟨r7, s6, hc_5, h⟩ := bd2 h
    refine v_callVI hC mE_ok (n := 1) (As := [.int p2]) (k_X9_isBox l hG (hO0) hc_5) (cwV 1 hC.1.2.2.2.2 gX9_found_X9_isBox rfl rfl rfl (by decide +kernel) ⟨(Nat.le_of_ble_eq_true rfl), (Nat.le_of_ble_eq_true rfl)⟩) hO0 (by decide) rfl rfl rfl (Nat.le_of_ble_eq_true rfl) ⟨Nat.zero_le _, Nat.zero_le _⟩ dX9_found_10 rfl ?_
    refine v_if_eq (tgt := 36) hC dX9_found_13 (by decide) (fun c_8 => ?_) (fun c_8 => ?_)
    · replace h := ift c_8 h
      refine v_bipush (v := (-2)) hC dX9_found_36 (by decide) ?_
      exact v_iret hC rfl dX9_found_38 h
    · replace h := ifn c_8 h
      refine v_aload_n hC dX9_found_16 0 rfl ?_
      refine v_aload_n hC dX9_found_17 0 rfl ?_
      refine v_get (C := RX9) (T := TX9) (N := 45) (ci := 8) (k := 24) (v := .ref (G.2.2.1 5)) hC hO0 hi_X9_found_X9 rfl (by decide) (by decide) rfl rfl fl26_X9_found dX9_found_18 rfl ?_
      refine v_iload_n hC dX9_found_21 1 rfl ?_
      obtain ⟨g_9, h⟩ := gd h
      refine v_iald hC (obM_8_24 hG hO0).1 (obM_8_24 hG hO0).2 (t0 := 0) rfl g_9 dX9_found_22 ?_
      refine v_aload_n hC dX9_found_23 0 rfl ?_
      refine v_get (C := RX9) (T := TX9) (N := 45) (ci := 8) (k := 25) (v := .ref (G.2.2.1 6)) hC hO0 hi_X9_found_X9 rfl (by decide) (by decide) rfl rfl fl29_X9_found dX9_found_24 rfl ?_
      refine v_iload_n hC dX9_found_27 1 rfl ?_
      obtain ⟨g_10, h⟩ := gd h
      refine v_iald hC (obM_8_25 hG hO0).1 (obM_8_25 hG hO0).2 (t0 := 0) rfl g_10 dX9_found_28 ?_
      refine v_iload_n hC dX9_found_29 2 rfl ?_
      obtain ⟨r13, s12, hc_11, h⟩ := bd2 h
      refine v_callVI hC mE_ok (n := 3) (As := [.int (gI s6 5 (ix p1)), .int (gI s6 6 (ix p1)), .int p2]) (k_X9_finds l hG (hO0) hc_11) (cwV 3 hC.1.2.2.2.2 gX9_found_X9_finds rfl rfl rfl (by decide +kernel) ⟨(Nat.le_of_ble_eq_true rfl), (Nat.le_of_ble_eq_true rfl)⟩) hO0 (by decide) rfl rfl rfl (Nat.le_of_ble_eq_true rfl) ⟨Nat.zero_le _, Nat.zero_le _⟩ dX9_found_30 rfl ?_
      refine v_goto (tgt := 38) hC dX9_found_33 (by decide) ?_
      exact v_iret hC rfl dX9_found_38 h
theorem k_X9_found (l : Launch) {G : WD}   {r0 : Int32} {τ : HS} {p1 : Int32} {p2 : Int32} {σ : HS}  (hG : GX G mY) (hO0 : Ob G mY 0 8) (h : c_X9_found p1 p2 σ = some (r0, τ)) : MI mE l yX9_found wsX9_found rmX9_found G mY [.ref (G.2.2.1 0), .int p1, .int p2] σ r0 τ :=
  MI.of RX9 (by decide) rfl rfl (Nat.le_of_ble_eq_true rfl) rfl rfl (fun p e s m below meth c hC => w_X9_found  hG hO0 hC h)
abbrev rmX9_run : Room := { frames := 159, cells := 0, slots := 0, locals := 7195 }
def c_X9_run (p1 : Int32) (p2 : Int32) (σ : HS) : Option (Int32 × HS) := (bi2 (c_X9_isPlan p1 σ) (fun r3 s2 => (if r3 = 0 then (some ((-2), s2)) else (bi2 (c_X9_in (Int32.toInt64 p2) 0 2 s2) (fun r7 s6 => (if r7 = 0 then (some ((-2), s6)) else (if inb p1 8 = true then (if inb p1 8 = true then (bi2 (c_X9_goHome (gI s6 5 (ix p1)) (gI s6 6 (ix p1)) s6) (fun r13 s12 => (if p2 = 0 then (some ((gI s12 0 28), s12)) else (if p2 = 1 then (some ((gI s12 0 29), s12)) else (some (r13, s12)))))) else none) else none)))))))
set_option maxHeartbeats 4000000 in
set_option maxRecDepth 100000 in
theorem w_X9_run {p : Program} {l : Launch} {e : Env} {s : State} {m : MethodId} {args : Array Value} {below : List Frame} {meth : Method} {c : Code} {A : Nat → Prop} {G : WD}  {r0 : Int32} {τ : HS} {p1 : Int32} {p2 : Int32} {σ : HS}  (hG : GX G mY) (hO0 : Ob G mY 0 8) (hC : Cx mE G.1 G.2.1 mY cX9_run 4 (some .int) RX9 wsX9_run p s m args meth c A) (h : c_X9_run p1 p2 σ = some (r0, τ)) : V p l e rmX9_run s m args below meth c 4 A G mY 0 0 (MQ below (QI G mY A r0 τ) args s 0 0 A) σ 0 [(0, .ref (G.2.2.1 0)), (1, .int p1), (2, .int p2)] [] := by
  rw [c_X9_run] at h
  refine v_aload_n hC dX9_run_0 0 rfl ?_
  refine v_iload_n hC dX9_run_1 1 rfl ?_
  obtain ⟨r3, s2, hc_1, h⟩ := bd2 h
  refine v_callVI hC mE_ok (n := 1) (As := [.int p1]) (k_X9_isPlan l hG (hO0) hc_1) (cwV 1 hC.1.2.2.2.2 gX9_run_X9_isPlan rfl rfl rfl (by decide +kernel) ⟨(Nat.le_of_ble_eq_true rfl), (Nat.le_of_ble_eq_true rfl)⟩) hO0 (by decide) rfl rfl rfl (Nat.le_of_ble_eq_true rfl) ⟨Nat.zero_le _, Nat.zero_le _⟩ dX9_run_2 rfl ?_
  refine v_if_eq (tgt := 20) hC dX9_run_5 (by decide) (fun c_4 => ?_) (fun c_4 => ?_)
  · replace h := ift c_4 h
    refine v_bipush (v := (-2)) hC dX9_run_20 (by decide) ?_
    exact v_iret hC rfl dX9_run_22 h
  · replace h := ifn c_4 h
    refine v_iload_n hC dX9_run_8 2 rfl ?_
    refine v_i2l hC dX9_run_9 ?_
    refine v_lconst (v := 0) hC dX9_run_10 (by decide) ?_
    refine v_ldc2 (v := 2) hC lc117_X9_run dX9_run_11 ?_
    obtain ⟨r7, s6, hc_5, h⟩ := bd2 h
    refine v_callSI hC mE_ok (n := 3) (As := [.long (Int32.toInt64 p2), .long 0, .long 2]) (k_X9_in l hG hc_5) (va_cwS 3 hC.1.2.2.2.2 gX9_run_X9_in rfl rfl rfl (by decide +kernel) ⟨(Nat.le_of_ble_eq_true rfl), (Nat.le_of_ble_eq_true rfl)⟩) rfl (Nat.le_of_ble_eq_true rfl) ⟨Nat.zero_le _, Nat.zero_le _⟩ dX9_run_14 rfl ?_
    refine v_if_ne (tgt := 23) hC dX9_run_17 (by decide) (fun c_8 => ?_) (fun c_8 => ?_)
    · replace h := ifn c_8 h
      refine v_aload_n hC dX9_run_23 0 rfl ?_
      refine v_aload_n hC dX9_run_24 0 rfl ?_
      refine v_get (C := RX9) (T := TX9) (N := 45) (ci := 8) (k := 24) (v := .ref (G.2.2.1 5)) hC hO0 hi_X9_run_X9 rfl (by decide) (by decide) rfl rfl fl26_X9_run dX9_run_25 rfl ?_
      refine v_iload_n hC dX9_run_28 1 rfl ?_
      obtain ⟨g_9, h⟩ := gd h
      refine v_iald hC (obM_8_24 hG hO0).1 (obM_8_24 hG hO0).2 (t0 := 0) rfl g_9 dX9_run_29 ?_
      refine v_aload_n hC dX9_run_30 0 rfl ?_
      refine v_get (C := RX9) (T := TX9) (N := 45) (ci := 8) (k := 25) (v := .ref (G.2.2.1 6)) hC hO0 hi_X9_run_X9 rfl (by decide) (by decide) rfl rfl fl29_X9_run dX9_run_31 rfl ?_
      refine v_iload_n hC dX9_run_34 1 rfl ?_
      obtain ⟨g_10, h⟩ := gd h
      refine v_iald hC (obM_8_25 hG hO0).1 (obM_8_25 hG hO0).2 (t0 := 0) rfl g_10 dX9_run_35 ?_
      obtain ⟨r13, s12, hc_11, h⟩ := bd2 h
      refine v_callVI hC mE_ok (n := 2) (As := [.int (gI s6 5 (ix p1)), .int (gI s6 6 (ix p1))]) (k_X9_goHome l hG (hO0) hc_11) (cwV 2 hC.1.2.2.2.2 gX9_run_X9_goHome rfl rfl rfl (by decide +kernel) ⟨(Nat.le_of_ble_eq_true rfl), (Nat.le_of_ble_eq_true rfl)⟩) hO0 (by decide) rfl rfl rfl (Nat.le_of_ble_eq_true rfl) ⟨Nat.zero_le _, Nat.zero_le _⟩ dX9_run_36 rfl ?_
      refine v_istore_n (L' := [(0, .ref (G.2.2.1 0)), (2, .int p2), (3, .int r13)]) hC dX9_run_39 (by decide) [1, 3, 0] rfl ?_
      refine v_iload_n hC dX9_run_40 1 rfl ?_
      refine v_if_ne (tgt := 51) hC dX9_run_41 (by decide) (fun c_14 => ?_) (fun c_14 => ?_)
      · replace h := ifn c_14 h
        refine v_iload_n hC dX9_run_51 1 rfl ?_
        refine v_iconst (v := 1) hC dX9_run_52 (by decide) ?_
        refine v_icmp_ne (tgt := 63) hC dX9_run_53 (by decide) (fun c_15 => ?_) (fun c_15 => ?_)
        · replace h := ifn c_15 h
          refine v_iload_n hC dX9_run_63 2 rfl ?_
          exact v_iret hC rfl dX9_run_64 h
        · replace h := ift c_15 h
          refine v_aload_n hC dX9_run_56 0 rfl ?_
          refine v_get (C := RX9) (T := TX9) (N := 45) (ci := 8) (k := 29) (v := .int (gI s12 0 29)) hC hO0 hi_X9_run_X9 rfl (by decide) (by decide) rfl rfl fl280_X9_run dX9_run_57 rfl ?_
          refine v_goto (tgt := 64) hC dX9_run_60 (by decide) ?_
          exact v_iret hC rfl dX9_run_64 h
      · replace h := ift c_14 h
        refine v_aload_n hC dX9_run_44 0 rfl ?_
        refine v_get (C := RX9) (T := TX9) (N := 45) (ci := 8) (k := 28) (v := .int (gI s12 0 28)) hC hO0 hi_X9_run_X9 rfl (by decide) (by decide) rfl rfl fl277_X9_run dX9_run_45 rfl ?_
        refine v_goto (tgt := 64) hC dX9_run_48 (by decide) ?_
        exact v_iret hC rfl dX9_run_64 h
    · replace h := ift c_8 h
      refine v_bipush (v := (-2)) hC dX9_run_20 (by decide) ?_
      exact v_iret hC rfl dX9_run_22 h
theorem k_X9_run (l : Launch) {G : WD}   {r0 : Int32} {τ : HS} {p1 : Int32} {p2 : Int32} {σ : HS}  (hG : GX G mY) (hO0 : Ob G mY 0 8) (h : c_X9_run p1 p2 σ = some (r0, τ)) : MI mE l yX9_run wsX9_run rmX9_run G mY [.ref (G.2.2.1 0), .int p1, .int p2] σ r0 τ :=
  MI.of RX9 (by decide) rfl rfl (Nat.le_of_ble_eq_true rfl) rfl rfl (fun p e s m below meth c hC => w_X9_run  hG hO0 hC h)
abbrev rmX9_all : Room := { frames := 0, cells := 0, slots := 0, locals := 0 }
def c_X9_all_4 : Nat → Int32 → Int64 → Int32 → HS → Option (Int64 × HS)
  | 0, _, _, _, _ => none
  | n + 1, x0, x1, x3, σ => (if x0 < x3 then (some (x1, σ)) else (c_X9_all_4 n x0 (x1 * (Int32.toInt64 x3)) (x3 + 1) σ))
set_option maxHeartbeats 4000000 in
set_option maxRecDepth 100000 in
theorem w_X9_all_4 {p : Program} {l : Launch} {e : Env} {s : State} {m : MethodId} {args : Array Value} {below : List Frame} {meth : Method} {c : Code} {A : Nat → Prop} {G : WD}  {r0 : Int64} {τ : HS}   (hG : GX G mY)  (hC : Cx mE G.1 G.2.1 mY cX9_all 4 (some .long) RX9 wsX9_all p s m args meth c A)  : ∀ (n : Nat) (x0 : Int32) (x1 : Int64) (x3 : Int32) (σ : HS), c_X9_all_4 n x0 x1 x3 σ = some (r0, τ) → V p l e rmX9_all s m args below meth c 4 A G mY 0 0 (MQ below (QJ G mY A r0 τ) args s 0 0 A) σ 4 [(0, .int x0), (1, .long x1), (3, .int x3)] [] := by
  intro n
  induction n with
  | zero => intro x0 x1 x3 σ h; exact nof h
  | succ n ih =>
    intro x0 x1 x3 σ h
    rw [c_X9_all_4] at h
    refine v_iload_n hC dX9_all_4 2 rfl ?_
    refine v_iload_n hC dX9_all_5 0 rfl ?_
    refine v_icmp_gt (tgt := 20) hC dX9_all_6 (by decide) (fun c_1 => ?_) (fun c_1 => ?_)
    · replace h := ift c_1 h
      refine v_lload_n hC dX9_all_20 1 rfl ?_
      exact v_lret hC rfl dX9_all_21 h
    · replace h := ifn c_1 h
      refine v_lload_n hC dX9_all_9 1 rfl ?_
      refine v_iload_n hC dX9_all_10 2 rfl ?_
      refine v_i2l hC dX9_all_11 ?_
      refine v_lmul hC dX9_all_12 ?_
      refine v_lstore_n (L' := [(0, .int x0), (1, .long (x1 * (Int32.toInt64 x3))), (3, .int x3)]) hC dX9_all_13 (by decide) [1, 0, 2] rfl ?_
      refine v_iinc (v := (x3 + 1)) (L' := [(0, .int x0), (1, .long (x1 * (Int32.toInt64 x3))), (3, .int (x3 + 1))]) hC dX9_all_14 2 rfl rfl (by decide) [1, 2, 0] rfl ?_
      refine v_goto (tgt := 4) hC dX9_all_17 (by decide) ?_
      exact ih _ _ _ _ h
def c_X9_all (p0 : Int32) (σ : HS) : Option (Int64 × HS) := (c_X9_all_4 FU p0 1 2 σ)
set_option maxHeartbeats 4000000 in
set_option maxRecDepth 100000 in
theorem w_X9_all {p : Program} {l : Launch} {e : Env} {s : State} {m : MethodId} {args : Array Value} {below : List Frame} {meth : Method} {c : Code} {A : Nat → Prop} {G : WD}  {r0 : Int64} {τ : HS} {p0 : Int32} {σ : HS}  (hG : GX G mY)  (hC : Cx mE G.1 G.2.1 mY cX9_all 4 (some .long) RX9 wsX9_all p s m args meth c A) (h : c_X9_all p0 σ = some (r0, τ)) : V p l e rmX9_all s m args below meth c 4 A G mY 0 0 (MQ below (QJ G mY A r0 τ) args s 0 0 A) σ 0 [(0, .int p0)] [] := by
  rw [c_X9_all] at h
  refine v_lconst (v := 1) hC dX9_all_0 (by decide) ?_
  refine v_lstore_n (L' := [(0, .int p0), (1, .long 1)]) hC dX9_all_1 (by decide) [1, 0] rfl ?_
  refine v_iconst (v := 2) hC dX9_all_2 (by decide) ?_
  refine v_istore_n (L' := [(0, .int p0), (1, .long 1), (3, .int 2)]) hC dX9_all_3 (by decide) [1, 2, 0] rfl ?_
  exact w_X9_all_4 hG hC FU _ _ _ _ h
theorem k_X9_all (l : Launch) {G : WD}   {r0 : Int64} {τ : HS} {p0 : Int32} {σ : HS}  (hG : GX G mY)  (h : c_X9_all p0 σ = some (r0, τ)) : MJ mE l yX9_all wsX9_all rmX9_all G mY [.int p0] σ r0 τ :=
  MJ.of RX9 (by decide) rfl rfl (Nat.le_of_ble_eq_true rfl) rfl rfl (fun p e s m below meth c hC => w_X9_all  hG  hC h)
abbrev rmX9_closedBy : Room := { frames := 0, cells := 0, slots := 0, locals := 0 }
def c_X9_closedBy_76 (k9 : Int32 → Int32 → Int32 → HS → Option (Int64 × HS)) (x1 : Int32) (x2 : Int32) (x3 : Int32) (σ : HS) : Option (Int64 × HS) := (k9 x1 x2 (x3 + 1) σ)
set_option maxHeartbeats 4000000 in
set_option maxRecDepth 100000 in
theorem w_X9_closedBy_76 {p : Program} {l : Launch} {e : Env} {s : State} {m : MethodId} {args : Array Value} {below : List Frame} {meth : Method} {c : Code} {A : Nat → Prop} {G : WD}  {r0 : Int64} {τ : HS}  {k9 : Int32 → Int32 → Int32 → HS → Option (Int64 × HS)} {x1 : Int32} {x2 : Int32} {x3 : Int32} {σ : HS}  (hG : GX G mY) (hO0 : Ob G mY 0 8) (hC : Cx mE G.1 G.2.1 mY cX9_closedBy 7 (some .long) RX9 wsX9_closedBy p s m args meth c A) (hk9 : ∀ (x1 : Int32) (x2 : Int32) (x3 : Int32) (σ : HS), k9 x1 x2 x3 σ = some (r0, τ) → V p l e rmX9_closedBy s m args below meth c 7 A G mY 0 0 (MQ below (QJ G mY A r0 τ) args s 0 0 A) σ 9 [(0, .ref (G.2.2.1 0)), (1, .int x1), (2, .int x2), (3, .int x3)] []) (h : c_X9_closedBy_76 k9 x1 x2 x3 σ = some (r0, τ)) : V p l e rmX9_closedBy s m args below meth c 7 A G mY 0 0 (MQ below (QJ G mY A r0 τ) args s 0 0 A) σ 76 [(0, .ref (G.2.2.1 0)), (1, .int x1), (2, .int x2), (3, .int x3)] [] := by
  rw [c_X9_closedBy_76] at h
  refine v_iinc (v := (x3 + 1)) (L' := [(0, .ref (G.2.2.1 0)), (1, .int x1), (2, .int x2), (3, .int (x3 + 1))]) hC dX9_closedBy_76 3 rfl rfl (by decide) [1, 2, 3, 0] rfl ?_
  refine v_goto (tgt := 9) hC dX9_closedBy_79 (by decide) ?_
  exact hk9 _ _ _ _ h
def c_X9_closedBy_27 (k9 : Int32 → Int32 → Int32 → HS → Option (Int64 × HS)) : Nat → Int32 → Int32 → Int32 → Int64 → Int32 → HS → Option (Int64 × HS)
  | 0, _, _, _, _, _, _ => none
  | n + 1, x1, x2, x3, x4, x6, σ => (if x2 < x6 then (c_X9_closedBy_76 k9 x1 x2 x3 σ) else (if x3 < x6 then (c_X9_closedBy_76 k9 x1 x2 x3 σ) else (if inb x3 13 = true then (if inb (x3 - x6) 13 = true then (if inb x3 13 = true then (lt (sJ σ 7 (ix x3) ((gJ σ 7 (ix x3)) + (x4 * (gJ σ 7 (ix (x3 - x6)))))) (fun s14 => (c_X9_closedBy_27 k9 n x1 x2 x3 (x4 * (Int32.toInt64 (x3 - x6))) (x6 + 1) s14))) else none) else none) else none)))
set_option maxHeartbeats 4000000 in
set_option maxRecDepth 100000 in
theorem w_X9_closedBy_27 {p : Program} {l : Launch} {e : Env} {s : State} {m : MethodId} {args : Array Value} {below : List Frame} {meth : Method} {c : Code} {A : Nat → Prop} {G : WD}  {r0 : Int64} {τ : HS}  {k9 : Int32 → Int32 → Int32 → HS → Option (Int64 × HS)}  (hG : GX G mY) (hO0 : Ob G mY 0 8) (hC : Cx mE G.1 G.2.1 mY cX9_closedBy 7 (some .long) RX9 wsX9_closedBy p s m args meth c A) (hk9 : ∀ (x1 : Int32) (x2 : Int32) (x3 : Int32) (σ : HS), k9 x1 x2 x3 σ = some (r0, τ) → V p l e rmX9_closedBy s m args below meth c 7 A G mY 0 0 (MQ below (QJ G mY A r0 τ) args s 0 0 A) σ 9 [(0, .ref (G.2.2.1 0)), (1, .int x1), (2, .int x2), (3, .int x3)] []) : ∀ (n : Nat) (x1 : Int32) (x2 : Int32) (x3 : Int32) (x4 : Int64) (x6 : Int32) (σ : HS), c_X9_closedBy_27 k9 n x1 x2 x3 x4 x6 σ = some (r0, τ) → V p l e rmX9_closedBy s m args below meth c 7 A G mY 0 0 (MQ below (QJ G mY A r0 τ) args s 0 0 A) σ 27 [(0, .ref (G.2.2.1 0)), (1, .int x1), (2, .int x2), (3, .int x3), (4, .long x4), (6, .int x6)] [] := by
  intro n
  induction n with
  | zero => intro x1 x2 x3 x4 x6 σ h; exact nof h
  | succ n ih =>
    intro x1 x2 x3 x4 x6 σ h
    rw [c_X9_closedBy_27] at h
    refine v_iload hC dX9_closedBy_27 5 rfl ?_
    refine v_iload_n hC dX9_closedBy_29 2 rfl ?_
    refine v_icmp_gt (tgt := 76) hC dX9_closedBy_30 (by decide) (fun c_9 => ?_) (fun c_9 => ?_)
    · replace h := ift c_9 h
      refine V.sub (L' := [(0, .ref (G.2.2.1 0)), (1, .int x1), (2, .int x2), (3, .int x3)]) [0, 1, 2, 3] rfl ?_
      exact w_X9_closedBy_76 hG (hO0) hC hk9 h
    · replace h := ifn c_9 h
      refine v_iload hC dX9_closedBy_33 5 rfl ?_
      refine v_iload_n hC dX9_closedBy_35 3 rfl ?_
      refine v_icmp_gt (tgt := 76) hC dX9_closedBy_36 (by decide) (fun c_10 => ?_) (fun c_10 => ?_)
      · replace h := ift c_10 h
        refine V.sub (L' := [(0, .ref (G.2.2.1 0)), (1, .int x1), (2, .int x2), (3, .int x3)]) [0, 1, 2, 3] rfl ?_
        exact w_X9_closedBy_76 hG (hO0) hC hk9 h
      · replace h := ifn c_10 h
        refine v_aload_n hC dX9_closedBy_39 0 rfl ?_
        refine v_get (C := RX9) (T := TX9) (N := 45) (ci := 8) (k := 30) (v := .ref (G.2.2.1 7)) hC hO0 hi_X9_closedBy_X9 rfl (by decide) (by decide) rfl rfl fl32_X9_closedBy dX9_closedBy_40 rfl ?_
        refine v_iload_n hC dX9_closedBy_43 3 rfl ?_
        refine v_dup2 hC dX9_closedBy_44 rfl rfl ?_
        obtain ⟨g_11, h⟩ := gd h
        refine v_lald hC (obM_8_30 hG hO0).1 (obM_8_30 hG hO0).2 (t0 := 1) rfl g_11 dX9_closedBy_45 ?_
        refine v_lload hC dX9_closedBy_46 4 rfl ?_
        refine v_aload_n hC dX9_closedBy_48 0 rfl ?_
        refine v_get (C := RX9) (T := TX9) (N := 45) (ci := 8) (k := 30) (v := .ref (G.2.2.1 7)) hC hO0 hi_X9_closedBy_X9 rfl (by decide) (by decide) rfl rfl fl32_X9_closedBy dX9_closedBy_49 rfl ?_
        refine v_iload_n hC dX9_closedBy_52 3 rfl ?_
        refine v_iload hC dX9_closedBy_53 5 rfl ?_
        refine v_isub hC dX9_closedBy_55 ?_
        obtain ⟨g_12, h⟩ := gd h
        refine v_lald hC (obM_8_30 hG hO0).1 (obM_8_30 hG hO0).2 (t0 := 1) rfl g_12 dX9_closedBy_56 ?_
        refine v_lmul hC dX9_closedBy_57 ?_
        refine v_ladd hC dX9_closedBy_58 ?_
        obtain ⟨g_13, h⟩ := gd h
        refine v_last hC (obM_8_30 hG hO0).1 (obM_8_30 hG hO0).2 (t0 := 1) rfl g_13 dX9_closedBy_59 ?_
        obtain ⟨s14, e15, h⟩ := ld h
        refine V.eq e15 ?_
        refine v_lload hC dX9_closedBy_60 4 rfl ?_
        refine v_iload_n hC dX9_closedBy_62 3 rfl ?_
        refine v_iload hC dX9_closedBy_63 5 rfl ?_
        refine v_isub hC dX9_closedBy_65 ?_
        refine v_i2l hC dX9_closedBy_66 ?_
        refine v_lmul hC dX9_closedBy_67 ?_
        refine v_lstore (L' := [(0, .ref (G.2.2.1 0)), (1, .int x1), (2, .int x2), (3, .int x3), (4, .long (x4 * (Int32.toInt64 (x3 - x6)))), (6, .int x6)]) hC dX9_closedBy_68 (by decide) [1, 2, 3, 4, 0, 5] rfl ?_
        refine v_iinc (v := (x6 + 1)) (L' := [(0, .ref (G.2.2.1 0)), (1, .int x1), (2, .int x2), (3, .int x3), (4, .long (x4 * (Int32.toInt64 (x3 - x6)))), (6, .int (x6 + 1))]) hC dX9_closedBy_70 5 rfl rfl (by decide) [1, 2, 3, 4, 5, 0] rfl ?_
        refine v_goto (tgt := 27) hC dX9_closedBy_73 (by decide) ?_
        exact ih _ _ _ _ _ _ h
def c_X9_closedBy_82 (x1 : Int32) (σ : HS) : Option (Int64 × HS) := (if inb x1 13 = true then (some ((gJ σ 7 (ix x1)), σ)) else none)
set_option maxHeartbeats 4000000 in
set_option maxRecDepth 100000 in
theorem w_X9_closedBy_82 {p : Program} {l : Launch} {e : Env} {s : State} {m : MethodId} {args : Array Value} {below : List Frame} {meth : Method} {c : Code} {A : Nat → Prop} {G : WD}  {r0 : Int64} {τ : HS}  {x1 : Int32} {σ : HS}  (hG : GX G mY) (hO0 : Ob G mY 0 8) (hC : Cx mE G.1 G.2.1 mY cX9_closedBy 7 (some .long) RX9 wsX9_closedBy p s m args meth c A)  (h : c_X9_closedBy_82 x1 σ = some (r0, τ)) : V p l e rmX9_closedBy s m args below meth c 7 A G mY 0 0 (MQ below (QJ G mY A r0 τ) args s 0 0 A) σ 82 [(0, .ref (G.2.2.1 0)), (1, .int x1)] [] := by
  rw [c_X9_closedBy_82] at h
  refine v_aload_n hC dX9_closedBy_82 0 rfl ?_
  refine v_get (C := RX9) (T := TX9) (N := 45) (ci := 8) (k := 30) (v := .ref (G.2.2.1 7)) hC hO0 hi_X9_closedBy_X9 rfl (by decide) (by decide) rfl rfl fl32_X9_closedBy dX9_closedBy_83 rfl ?_
  refine v_iload_n hC dX9_closedBy_86 1 rfl ?_
  obtain ⟨g_8, h⟩ := gd h
  refine v_lald hC (obM_8_30 hG hO0).1 (obM_8_30 hG hO0).2 (t0 := 1) rfl g_8 dX9_closedBy_87 ?_
  exact v_lret hC rfl dX9_closedBy_88 h
def c_X9_closedBy_9 : Nat → Int32 → Int32 → Int32 → HS → Option (Int64 × HS)
  | 0, _, _, _, _ => none
  | n + 1, x1, x2, x3, σ => (if x1 < x3 then (c_X9_closedBy_82 x1 σ) else (if inb x3 13 = true then (lt (sJ σ 7 (ix x3) 0) (fun s6 => (c_X9_closedBy_27 (fun z0 z1 z2 z3 => c_X9_closedBy_9 n z0 z1 z2 z3) FU x1 x2 x3 1 1 s6))) else none))
set_option maxHeartbeats 4000000 in
set_option maxRecDepth 100000 in
theorem w_X9_closedBy_9 {p : Program} {l : Launch} {e : Env} {s : State} {m : MethodId} {args : Array Value} {below : List Frame} {meth : Method} {c : Code} {A : Nat → Prop} {G : WD}  {r0 : Int64} {τ : HS}   (hG : GX G mY) (hO0 : Ob G mY 0 8) (hC : Cx mE G.1 G.2.1 mY cX9_closedBy 7 (some .long) RX9 wsX9_closedBy p s m args meth c A)  : ∀ (n : Nat) (x1 : Int32) (x2 : Int32) (x3 : Int32) (σ : HS), c_X9_closedBy_9 n x1 x2 x3 σ = some (r0, τ) → V p l e rmX9_closedBy s m args below meth c 7 A G mY 0 0 (MQ below (QJ G mY A r0 τ) args s 0 0 A) σ 9 [(0, .ref (G.2.2.1 0)), (1, .int x1), (2, .int x2), (3, .int x3)] [] := by
  intro n
  induction n with
  | zero => intro x1 x2 x3 σ h; exact nof h
  | succ n ih =>
    intro x1 x2 x3 σ h
    rw [c_X9_closedBy_9] at h
    refine v_iload_n hC dX9_closedBy_9 3 rfl ?_
    refine v_iload_n hC dX9_closedBy_10 1 rfl ?_
    refine v_icmp_gt (tgt := 82) hC dX9_closedBy_11 (by decide) (fun c_4 => ?_) (fun c_4 => ?_)
    · replace h := ift c_4 h
      refine V.sub (L' := [(0, .ref (G.2.2.1 0)), (1, .int x1)]) [0, 1] rfl ?_
      exact w_X9_closedBy_82 hG (hO0) hC h
    · replace h := ifn c_4 h
      refine v_lconst (v := 1) hC dX9_closedBy_14 (by decide) ?_
      refine v_lstore (L' := [(0, .ref (G.2.2.1 0)), (1, .int x1), (2, .int x2), (3, .int x3), (4, .long 1)]) hC dX9_closedBy_15 (by decide) [1, 2, 3, 4, 0] rfl ?_
      refine v_aload_n hC dX9_closedBy_17 0 rfl ?_
      refine v_get (C := RX9) (T := TX9) (N := 45) (ci := 8) (k := 30) (v := .ref (G.2.2.1 7)) hC hO0 hi_X9_closedBy_X9 rfl (by decide) (by decide) rfl rfl fl32_X9_closedBy dX9_closedBy_18 rfl ?_
      refine v_iload_n hC dX9_closedBy_21 3 rfl ?_
      refine v_lconst (v := 0) hC dX9_closedBy_22 (by decide) ?_
      obtain ⟨g_5, h⟩ := gd h
      refine v_last hC (obM_8_30 hG hO0).1 (obM_8_30 hG hO0).2 (t0 := 1) rfl g_5 dX9_closedBy_23 ?_
      obtain ⟨s6, e7, h⟩ := ld h
      refine V.eq e7 ?_
      refine v_iconst (v := 1) hC dX9_closedBy_24 (by decide) ?_
      refine v_istore (L' := [(0, .ref (G.2.2.1 0)), (1, .int x1), (2, .int x2), (3, .int x3), (4, .long 1), (6, .int 1)]) hC dX9_closedBy_25 (by decide) [1, 2, 3, 4, 5, 0] rfl ?_
      exact w_X9_closedBy_27 hG (hO0) hC (fun _ _ _ _ h => ih _ _ _ _ h) FU _ _ _ _ _ _ h
def c_X9_closedBy (p1 : Int32) (p2 : Int32) (σ : HS) : Option (Int64 × HS) := (if inb 0 13 = true then (lt (sJ σ 7 (ix 0) 1) (fun s2 => (c_X9_closedBy_9 FU p1 p2 1 s2))) else none)
set_option maxHeartbeats 4000000 in
set_option maxRecDepth 100000 in
theorem w_X9_closedBy {p : Program} {l : Launch} {e : Env} {s : State} {m : MethodId} {args : Array Value} {below : List Frame} {meth : Method} {c : Code} {A : Nat → Prop} {G : WD}  {r0 : Int64} {τ : HS} {p1 : Int32} {p2 : Int32} {σ : HS}  (hG : GX G mY) (hO0 : Ob G mY 0 8) (hC : Cx mE G.1 G.2.1 mY cX9_closedBy 7 (some .long) RX9 wsX9_closedBy p s m args meth c A) (h : c_X9_closedBy p1 p2 σ = some (r0, τ)) : V p l e rmX9_closedBy s m args below meth c 7 A G mY 0 0 (MQ below (QJ G mY A r0 τ) args s 0 0 A) σ 0 [(0, .ref (G.2.2.1 0)), (1, .int p1), (2, .int p2)] [] := by
  rw [c_X9_closedBy] at h
  refine v_aload_n hC dX9_closedBy_0 0 rfl ?_
  refine v_get (C := RX9) (T := TX9) (N := 45) (ci := 8) (k := 30) (v := .ref (G.2.2.1 7)) hC hO0 hi_X9_closedBy_X9 rfl (by decide) (by decide) rfl rfl fl32_X9_closedBy dX9_closedBy_1 rfl ?_
  refine v_iconst (v := 0) hC dX9_closedBy_4 (by decide) ?_
  refine v_lconst (v := 1) hC dX9_closedBy_5 (by decide) ?_
  obtain ⟨g_1, h⟩ := gd h
  refine v_last hC (obM_8_30 hG hO0).1 (obM_8_30 hG hO0).2 (t0 := 1) rfl g_1 dX9_closedBy_6 ?_
  obtain ⟨s2, e3, h⟩ := ld h
  refine V.eq e3 ?_
  refine v_iconst (v := 1) hC dX9_closedBy_7 (by decide) ?_
  refine v_istore_n (L' := [(0, .ref (G.2.2.1 0)), (1, .int p1), (2, .int p2), (3, .int 1)]) hC dX9_closedBy_8 (by decide) [1, 2, 3, 0] rfl ?_
  exact w_X9_closedBy_9 hG (hO0) hC FU _ _ _ _ h
theorem k_X9_closedBy (l : Launch) {G : WD}   {r0 : Int64} {τ : HS} {p1 : Int32} {p2 : Int32} {σ : HS}  (hG : GX G mY) (hO0 : Ob G mY 0 8) (h : c_X9_closedBy p1 p2 σ = some (r0, τ)) : MJ mE l yX9_closedBy wsX9_closedBy rmX9_closedBy G mY [.ref (G.2.2.1 0), .int p1, .int p2] σ r0 τ :=
  MJ.of RX9 (by decide) rfl rfl (Nat.le_of_ble_eq_true rfl) rfl rfl (fun p e s m below meth c hC => w_X9_closedBy  hG hO0 hC h)
abbrev rmX9_closed : Room := { frames := 1, cells := 0, slots := 0, locals := 26 }
def c_X9_closed (p1 : Int32) (p2 : Int32) (σ : HS) : Option (Int64 × HS) := (bi2 (c_X9_in (Int32.toInt64 p1) 1 12 σ) (fun r3 s2 => (if r3 = 0 then (some ((-4611686018427387904), s2)) else (bi2 (c_X9_in (Int32.toInt64 p2) 0 12 s2) (fun r7 s6 => (if r7 = 0 then (some ((-4611686018427387904), s6)) else (bi2 (c_X9_closedBy p1 p2 s6) (fun r11 s10 => (some (r11, s10))))))))))
set_option maxHeartbeats 4000000 in
set_option maxRecDepth 100000 in
theorem w_X9_closed {p : Program} {l : Launch} {e : Env} {s : State} {m : MethodId} {args : Array Value} {below : List Frame} {meth : Method} {c : Code} {A : Nat → Prop} {G : WD}  {r0 : Int64} {τ : HS} {p1 : Int32} {p2 : Int32} {σ : HS}  (hG : GX G mY) (hO0 : Ob G mY 0 8) (hC : Cx mE G.1 G.2.1 mY cX9_closed 3 (some .long) RX9 wsX9_closed p s m args meth c A) (h : c_X9_closed p1 p2 σ = some (r0, τ)) : V p l e rmX9_closed s m args below meth c 3 A G mY 0 0 (MQ below (QJ G mY A r0 τ) args s 0 0 A) σ 0 [(0, .ref (G.2.2.1 0)), (1, .int p1), (2, .int p2)] [] := by
  rw [c_X9_closed] at h
  refine v_iload_n hC dX9_closed_0 1 rfl ?_
  refine v_i2l hC dX9_closed_1 ?_
  refine v_lconst (v := 1) hC dX9_closed_2 (by decide) ?_
  refine v_ldc2 (v := 12) hC lc89_X9_closed dX9_closed_3 ?_
  obtain ⟨r3, s2, hc_1, h⟩ := bd2 h
  refine v_callSI hC mE_ok (n := 3) (As := [.long (Int32.toInt64 p1), .long 1, .long 12]) (k_X9_in l hG hc_1) (va_cwS 3 hC.1.2.2.2.2 gX9_closed_X9_in rfl rfl rfl (by decide +kernel) ⟨(Nat.le_of_ble_eq_true rfl), (Nat.le_of_ble_eq_true rfl)⟩) rfl (Nat.le_of_ble_eq_true rfl) ⟨Nat.zero_le _, Nat.zero_le _⟩ dX9_closed_6 rfl ?_
  refine v_if_eq (tgt := 33) hC dX9_closed_9 (by decide) (fun c_4 => ?_) (fun c_4 => ?_)
  · replace h := ift c_4 h
    refine v_ldc2 (v := (-4611686018427387904)) hC lc294_X9_closed dX9_closed_33 ?_
    exact v_lret hC rfl dX9_closed_36 h
  · replace h := ifn c_4 h
    refine v_iload_n hC dX9_closed_12 2 rfl ?_
    refine v_i2l hC dX9_closed_13 ?_
    refine v_lconst (v := 0) hC dX9_closed_14 (by decide) ?_
    refine v_ldc2 (v := 12) hC lc89_X9_closed dX9_closed_15 ?_
    obtain ⟨r7, s6, hc_5, h⟩ := bd2 h
    refine v_callSI hC mE_ok (n := 3) (As := [.long (Int32.toInt64 p2), .long 0, .long 12]) (k_X9_in l hG hc_5) (va_cwS 3 hC.1.2.2.2.2 gX9_closed_X9_in rfl rfl rfl (by decide +kernel) ⟨(Nat.le_of_ble_eq_true rfl), (Nat.le_of_ble_eq_true rfl)⟩) rfl (Nat.le_of_ble_eq_true rfl) ⟨Nat.zero_le _, Nat.zero_le _⟩ dX9_closed_18 rfl ?_
    refine v_if_eq (tgt := 33) hC dX9_closed_21 (by decide) (fun c_8 => ?_) (fun c_8 => ?_)
    · replace h := ift c_8 h
      refine v_ldc2 (v := (-4611686018427387904)) hC lc294_X9_closed dX9_closed_33 ?_
      exact v_lret hC rfl dX9_closed_36 h
    · replace h := ifn c_8 h
      refine v_aload_n hC dX9_closed_24 0 rfl ?_
      refine v_iload_n hC dX9_closed_25 1 rfl ?_
      refine v_iload_n hC dX9_closed_26 2 rfl ?_
      obtain ⟨r11, s10, hc_9, h⟩ := bd2 h
      refine v_callVJ hC mE_ok (n := 2) (As := [.int p1, .int p2]) (k_X9_closedBy l hG (hO0) hc_9) (cwV 2 hC.1.2.2.2.2 gX9_closed_X9_closedBy rfl rfl rfl (by decide +kernel) ⟨(Nat.le_of_ble_eq_true rfl), (Nat.le_of_ble_eq_true rfl)⟩) hO0 (by decide) rfl rfl rfl (Nat.le_of_ble_eq_true rfl) ⟨Nat.zero_le _, Nat.zero_le _⟩ dX9_closed_27 rfl ?_
      refine v_goto (tgt := 36) hC dX9_closed_30 (by decide) ?_
      exact v_lret hC rfl dX9_closed_36 h
theorem k_X9_closed (l : Launch) {G : WD}   {r0 : Int64} {τ : HS} {p1 : Int32} {p2 : Int32} {σ : HS}  (hG : GX G mY) (hO0 : Ob G mY 0 8) (h : c_X9_closed p1 p2 σ = some (r0, τ)) : MJ mE l yX9_closed wsX9_closed rmX9_closed G mY [.ref (G.2.2.1 0), .int p1, .int p2] σ r0 τ :=
  MJ.of RX9 (by decide) rfl rfl (Nat.le_of_ble_eq_true rfl) rfl rfl (fun p e s m below meth c hC => w_X9_closed  hG hO0 hC h)
abbrev rmX9_putsAside : Room := { frames := 0, cells := 0, slots := 0, locals := 0 }
def c_X9_putsAside_2 : Nat → Int32 → HS → Option HS
  | 0, _, _ => none
  | n + 1, x1, σ => (if 12 ≤ x1 then (some σ) else (if inb x1 12 = true then (if inb x1 12 = true then (lt (sI σ 8 (ix x1) (gI σ 4 (ix x1))) (fun s4 => (if inb x1 12 = true then (lt (sI s4 4 (ix x1) x1) (fun s7 => (c_X9_putsAside_2 n (x1 + 1) s7))) else none))) else none) else none))
set_option maxHeartbeats 4000000 in
set_option maxRecDepth 100000 in
theorem w_X9_putsAside_2 {p : Program} {l : Launch} {e : Env} {s : State} {m : MethodId} {args : Array Value} {below : List Frame} {meth : Method} {c : Code} {A : Nat → Prop} {G : WD}  {τ : HS}   (hG : GX G mY) (hO0 : Ob G mY 0 8) (hC : Cx mE G.1 G.2.1 mY cX9_putsAside 2 none RX9 wsX9_putsAside p s m args meth c A)  : ∀ (n : Nat) (x1 : Int32) (σ : HS), c_X9_putsAside_2 n x1 σ = some τ → V p l e rmX9_putsAside s m args below meth c 2 A G mY 0 0 (MQ below (QV G mY A τ) args s 0 0 A) σ 2 [(0, .ref (G.2.2.1 0)), (1, .int x1)] [] := by
  intro n
  induction n with
  | zero => intro x1 σ h; exact nof h
  | succ n ih =>
    intro x1 σ h
    rw [c_X9_putsAside_2] at h
    refine v_iload_n hC dX9_putsAside_2 1 rfl ?_
    refine v_bipush (v := 12) hC dX9_putsAside_3 (by decide) ?_
    refine v_icmp_ge (tgt := 33) hC dX9_putsAside_5 (by decide) (fun c_1 => ?_) (fun c_1 => ?_)
    · replace h := ift c_1 h
      exact v_vret hC rfl dX9_putsAside_33 h
    · replace h := ifn c_1 h
      refine v_aload_n hC dX9_putsAside_8 0 rfl ?_
      refine v_get (C := RX9) (T := TX9) (N := 45) (ci := 8) (k := 31) (v := .ref (G.2.2.1 8)) hC hO0 hi_X9_putsAside_X9 rfl (by decide) (by decide) rfl rfl fl36_X9_putsAside dX9_putsAside_9 rfl ?_
      refine v_iload_n hC dX9_putsAside_12 1 rfl ?_
      refine v_aload_n hC dX9_putsAside_13 0 rfl ?_
      refine v_get (C := RX9) (T := TX9) (N := 45) (ci := 8) (k := 7) (v := .ref (G.2.2.1 4)) hC hO0 hi_X9_putsAside_X9 rfl (by decide) (by decide) rfl rfl fl23_X9_putsAside dX9_putsAside_14 rfl ?_
      refine v_iload_n hC dX9_putsAside_17 1 rfl ?_
      obtain ⟨g_2, h⟩ := gd h
      refine v_iald hC (obM_8_7 hG hO0).1 (obM_8_7 hG hO0).2 (t0 := 0) rfl g_2 dX9_putsAside_18 ?_
      obtain ⟨g_3, h⟩ := gd h
      refine v_iast hC (obM_8_31 hG hO0).1 (obM_8_31 hG hO0).2 (t0 := 0) rfl g_3 dX9_putsAside_19 ?_
      obtain ⟨s4, e5, h⟩ := ld h
      refine V.eq e5 ?_
      refine v_aload_n hC dX9_putsAside_20 0 rfl ?_
      refine v_get (C := RX9) (T := TX9) (N := 45) (ci := 8) (k := 7) (v := .ref (G.2.2.1 4)) hC hO0 hi_X9_putsAside_X9 rfl (by decide) (by decide) rfl rfl fl23_X9_putsAside dX9_putsAside_21 rfl ?_
      refine v_iload_n hC dX9_putsAside_24 1 rfl ?_
      refine v_iload_n hC dX9_putsAside_25 1 rfl ?_
      obtain ⟨g_6, h⟩ := gd h
      refine v_iast hC (obM_8_7 hG hO0).1 (obM_8_7 hG hO0).2 (t0 := 0) rfl g_6 dX9_putsAside_26 ?_
      obtain ⟨s7, e8, h⟩ := ld h
      refine V.eq e8 ?_
      refine v_iinc (v := (x1 + 1)) (L' := [(0, .ref (G.2.2.1 0)), (1, .int (x1 + 1))]) hC dX9_putsAside_27 1 rfl rfl (by decide) [1, 0] rfl ?_
      refine v_goto (tgt := 2) hC dX9_putsAside_30 (by decide) ?_
      exact ih _ _ h
def c_X9_putsAside (σ : HS) : Option HS := (c_X9_putsAside_2 FU 0 σ)
set_option maxHeartbeats 4000000 in
set_option maxRecDepth 100000 in
theorem w_X9_putsAside {p : Program} {l : Launch} {e : Env} {s : State} {m : MethodId} {args : Array Value} {below : List Frame} {meth : Method} {c : Code} {A : Nat → Prop} {G : WD}  {τ : HS}  {σ : HS}  (hG : GX G mY) (hO0 : Ob G mY 0 8) (hC : Cx mE G.1 G.2.1 mY cX9_putsAside 2 none RX9 wsX9_putsAside p s m args meth c A) (h : c_X9_putsAside  σ = some τ) : V p l e rmX9_putsAside s m args below meth c 2 A G mY 0 0 (MQ below (QV G mY A τ) args s 0 0 A) σ 0 [(0, .ref (G.2.2.1 0))] [] := by
  rw [c_X9_putsAside] at h
  refine v_iconst (v := 0) hC dX9_putsAside_0 (by decide) ?_
  refine v_istore_n (L' := [(0, .ref (G.2.2.1 0)), (1, .int 0)]) hC dX9_putsAside_1 (by decide) [1, 0] rfl ?_
  exact w_X9_putsAside_2 hG (hO0) hC FU _ _ h
theorem k_X9_putsAside (l : Launch) {G : WD}   {τ : HS}  {σ : HS}  (hG : GX G mY) (hO0 : Ob G mY 0 8) (h : c_X9_putsAside  σ = some τ) : MV mE l yX9_putsAside wsX9_putsAside rmX9_putsAside G mY [.ref (G.2.2.1 0)] σ τ :=
  MV.of RX9 (by decide) rfl rfl (Nat.le_of_ble_eq_true rfl) rfl rfl (fun p e s m below meth c hC => w_X9_putsAside  hG hO0 hC h)
abbrev rmX9_laysBack : Room := { frames := 0, cells := 0, slots := 0, locals := 0 }
def c_X9_laysBack_2 : Nat → Int32 → HS → Option HS
  | 0, _, _ => none
  | n + 1, x1, σ => (if 12 ≤ x1 then (some σ) else (if inb x1 12 = true then (if inb x1 12 = true then (lt (sI σ 4 (ix x1) (gI σ 8 (ix x1))) (fun s4 => (c_X9_laysBack_2 n (x1 + 1) s4))) else none) else none))
set_option maxHeartbeats 4000000 in
set_option maxRecDepth 100000 in
theorem w_X9_laysBack_2 {p : Program} {l : Launch} {e : Env} {s : State} {m : MethodId} {args : Array Value} {below : List Frame} {meth : Method} {c : Code} {A : Nat → Prop} {G : WD}  {τ : HS}   (hG : GX G mY) (hO0 : Ob G mY 0 8) (hC : Cx mE G.1 G.2.1 mY cX9_laysBack 2 none RX9 wsX9_laysBack p s m args meth c A)  : ∀ (n : Nat) (x1 : Int32) (σ : HS), c_X9_laysBack_2 n x1 σ = some τ → V p l e rmX9_laysBack s m args below meth c 2 A G mY 0 0 (MQ below (QV G mY A τ) args s 0 0 A) σ 2 [(0, .ref (G.2.2.1 0)), (1, .int x1)] [] := by
  intro n
  induction n with
  | zero => intro x1 σ h; exact nof h
  | succ n ih =>
    intro x1 σ h
    rw [c_X9_laysBack_2] at h
    refine v_iload_n hC dX9_laysBack_2 1 rfl ?_
    refine v_bipush (v := 12) hC dX9_laysBack_3 (by decide) ?_
    refine v_icmp_ge (tgt := 26) hC dX9_laysBack_5 (by decide) (fun c_1 => ?_) (fun c_1 => ?_)
    · replace h := ift c_1 h
      exact v_vret hC rfl dX9_laysBack_26 h
    · replace h := ifn c_1 h
      refine v_aload_n hC dX9_laysBack_8 0 rfl ?_
      refine v_get (C := RX9) (T := TX9) (N := 45) (ci := 8) (k := 7) (v := .ref (G.2.2.1 4)) hC hO0 hi_X9_laysBack_X9 rfl (by decide) (by decide) rfl rfl fl23_X9_laysBack dX9_laysBack_9 rfl ?_
      refine v_iload_n hC dX9_laysBack_12 1 rfl ?_
      refine v_aload_n hC dX9_laysBack_13 0 rfl ?_
      refine v_get (C := RX9) (T := TX9) (N := 45) (ci := 8) (k := 31) (v := .ref (G.2.2.1 8)) hC hO0 hi_X9_laysBack_X9 rfl (by decide) (by decide) rfl rfl fl36_X9_laysBack dX9_laysBack_14 rfl ?_
      refine v_iload_n hC dX9_laysBack_17 1 rfl ?_
      obtain ⟨g_2, h⟩ := gd h
      refine v_iald hC (obM_8_31 hG hO0).1 (obM_8_31 hG hO0).2 (t0 := 0) rfl g_2 dX9_laysBack_18 ?_
      obtain ⟨g_3, h⟩ := gd h
      refine v_iast hC (obM_8_7 hG hO0).1 (obM_8_7 hG hO0).2 (t0 := 0) rfl g_3 dX9_laysBack_19 ?_
      obtain ⟨s4, e5, h⟩ := ld h
      refine V.eq e5 ?_
      refine v_iinc (v := (x1 + 1)) (L' := [(0, .ref (G.2.2.1 0)), (1, .int (x1 + 1))]) hC dX9_laysBack_20 1 rfl rfl (by decide) [1, 0] rfl ?_
      refine v_goto (tgt := 2) hC dX9_laysBack_23 (by decide) ?_
      exact ih _ _ h
def c_X9_laysBack (σ : HS) : Option HS := (c_X9_laysBack_2 FU 0 σ)
set_option maxHeartbeats 4000000 in
set_option maxRecDepth 100000 in
theorem w_X9_laysBack {p : Program} {l : Launch} {e : Env} {s : State} {m : MethodId} {args : Array Value} {below : List Frame} {meth : Method} {c : Code} {A : Nat → Prop} {G : WD}  {τ : HS}  {σ : HS}  (hG : GX G mY) (hO0 : Ob G mY 0 8) (hC : Cx mE G.1 G.2.1 mY cX9_laysBack 2 none RX9 wsX9_laysBack p s m args meth c A) (h : c_X9_laysBack  σ = some τ) : V p l e rmX9_laysBack s m args below meth c 2 A G mY 0 0 (MQ below (QV G mY A τ) args s 0 0 A) σ 0 [(0, .ref (G.2.2.1 0))] [] := by
  rw [c_X9_laysBack] at h
  refine v_iconst (v := 0) hC dX9_laysBack_0 (by decide) ?_
  refine v_istore_n (L' := [(0, .ref (G.2.2.1 0)), (1, .int 0)]) hC dX9_laysBack_1 (by decide) [1, 0] rfl ?_
  exact w_X9_laysBack_2 hG (hO0) hC FU _ _ h
theorem k_X9_laysBack (l : Launch) {G : WD}   {τ : HS}  {σ : HS}  (hG : GX G mY) (hO0 : Ob G mY 0 8) (h : c_X9_laysBack  σ = some τ) : MV mE l yX9_laysBack wsX9_laysBack rmX9_laysBack G mY [.ref (G.2.2.1 0)] σ τ :=
  MV.of RX9 (by decide) rfl rfl (Nat.le_of_ble_eq_true rfl) rfl rfl (fun p e s m below meth c hC => w_X9_laysBack  hG hO0 hC h)
abbrev rmX9_goesOn : Room := { frames := 1, cells := 0, slots := 0, locals := 23 }
def c_X9_goesOn_86 : Nat → Int32 → Int32 → HS → Option (Int32 × HS)
  | 0, _, _, _ => none
  | n + 1, x3, x4, σ => (if x4 ≤ x3 then (some (1, σ)) else (bi1 (c_X9_changes x3 x4 σ) (fun s13 => (c_X9_goesOn_86 n (x3 + 1) (x4 + (-1)) s13))))
set_option maxHeartbeats 4000000 in
set_option maxRecDepth 100000 in
theorem w_X9_goesOn_86 {p : Program} {l : Launch} {e : Env} {s : State} {m : MethodId} {args : Array Value} {below : List Frame} {meth : Method} {c : Code} {A : Nat → Prop} {G : WD}  {r0 : Int32} {τ : HS}   (hG : GX G mY) (hO0 : Ob G mY 0 8) (hC : Cx mE G.1 G.2.1 mY cX9_goesOn 5 (some .boolean) RX9 wsX9_goesOn p s m args meth c A)  : ∀ (n : Nat) (x3 : Int32) (x4 : Int32) (σ : HS), c_X9_goesOn_86 n x3 x4 σ = some (r0, τ) → V p l e rmX9_goesOn s m args below meth c 5 A G mY 0 0 (MQ below (QI G mY A r0 τ) args s 0 0 A) σ 86 [(0, .ref (G.2.2.1 0)), (3, .int x3), (4, .int x4)] [] := by
  intro n
  induction n with
  | zero => intro x3 x4 σ h; exact nof h
  | succ n ih =>
    intro x3 x4 σ h
    rw [c_X9_goesOn_86] at h
    refine v_iload_n hC dX9_goesOn_86 1 rfl ?_
    refine v_iload hC dX9_goesOn_87 2 rfl ?_
    refine v_icmp_ge (tgt := 108) hC dX9_goesOn_89 (by decide) (fun c_11 => ?_) (fun c_11 => ?_)
    · replace h := ift c_11 h
      refine v_iconst (v := 1) hC dX9_goesOn_108 (by decide) ?_
      exact v_zret hC rfl rfl dX9_goesOn_109 h
    · replace h := ifn c_11 h
      refine v_aload_n hC dX9_goesOn_92 0 rfl ?_
      refine v_iload_n hC dX9_goesOn_93 1 rfl ?_
      refine v_iload hC dX9_goesOn_94 2 rfl ?_
      obtain ⟨s13, hc_12, h⟩ := bd1 h
      refine v_callVV hC mE_ok (n := 2) (As := [.int x3, .int x4]) (k_X9_changes l hG (hO0) hc_12) (cwV 2 hC.1.2.2.2.2 gX9_goesOn_X9_changes rfl rfl rfl (by decide +kernel) ⟨(Nat.le_of_ble_eq_true rfl), (Nat.le_of_ble_eq_true rfl)⟩) hO0 (by decide) rfl rfl rfl (Nat.le_of_ble_eq_true rfl) ⟨Nat.zero_le _, Nat.zero_le _⟩ dX9_goesOn_96 rfl ?_
      refine v_iinc (v := (x3 + 1)) (L' := [(0, .ref (G.2.2.1 0)), (3, .int (x3 + 1)), (4, .int x4)]) hC dX9_goesOn_99 1 rfl rfl (by decide) [1, 0, 2] rfl ?_
      refine v_iinc (v := (x4 + (-1))) (L' := [(0, .ref (G.2.2.1 0)), (3, .int (x3 + 1)), (4, .int (x4 + (-1)))]) hC dX9_goesOn_102 2 rfl rfl (by decide) [1, 2, 0] rfl ?_
      refine v_goto (tgt := 86) hC dX9_goesOn_105 (by decide) ?_
      exact ih _ _ _ h
def c_X9_goesOn_68 (x1 : Int32) (x2 : Int32) (σ : HS) : Option (Int32 × HS) := (bi1 (c_X9_changes x1 x2 σ) (fun s10 => (c_X9_goesOn_86 FU (x1 + 1) ((gI s10 0 8) - 1) s10)))
set_option maxHeartbeats 4000000 in
set_option maxRecDepth 100000 in
theorem w_X9_goesOn_68 {p : Program} {l : Launch} {e : Env} {s : State} {m : MethodId} {args : Array Value} {below : List Frame} {meth : Method} {c : Code} {A : Nat → Prop} {G : WD}  {r0 : Int32} {τ : HS}  {x1 : Int32} {x2 : Int32} {σ : HS}  (hG : GX G mY) (hO0 : Ob G mY 0 8) (hC : Cx mE G.1 G.2.1 mY cX9_goesOn 5 (some .boolean) RX9 wsX9_goesOn p s m args meth c A)  (h : c_X9_goesOn_68 x1 x2 σ = some (r0, τ)) : V p l e rmX9_goesOn s m args below meth c 5 A G mY 0 0 (MQ below (QI G mY A r0 τ) args s 0 0 A) σ 68 [(0, .ref (G.2.2.1 0)), (1, .int x1), (2, .int x2)] [] := by
  rw [c_X9_goesOn_68] at h
  refine v_aload_n hC dX9_goesOn_68 0 rfl ?_
  refine v_iload_n hC dX9_goesOn_69 1 rfl ?_
  refine v_iload_n hC dX9_goesOn_70 2 rfl ?_
  obtain ⟨s10, hc_9, h⟩ := bd1 h
  refine v_callVV hC mE_ok (n := 2) (As := [.int x1, .int x2]) (k_X9_changes l hG (hO0) hc_9) (cwV 2 hC.1.2.2.2.2 gX9_goesOn_X9_changes rfl rfl rfl (by decide +kernel) ⟨(Nat.le_of_ble_eq_true rfl), (Nat.le_of_ble_eq_true rfl)⟩) hO0 (by decide) rfl rfl rfl (Nat.le_of_ble_eq_true rfl) ⟨Nat.zero_le _, Nat.zero_le _⟩ dX9_goesOn_71 rfl ?_
  refine v_iload_n hC dX9_goesOn_74 1 rfl ?_
  refine v_iconst (v := 1) hC dX9_goesOn_75 (by decide) ?_
  refine v_iadd hC dX9_goesOn_76 ?_
  refine v_istore_n (L' := [(0, .ref (G.2.2.1 0)), (3, .int (x1 + 1))]) hC dX9_goesOn_77 (by decide) [1, 0] rfl ?_
  refine v_aload_n hC dX9_goesOn_78 0 rfl ?_
  refine v_get (C := RX9) (T := TX9) (N := 45) (ci := 8) (k := 8) (v := .int (gI s10 0 8)) hC hO0 hi_X9_goesOn_X9 rfl (by decide) (by decide) rfl rfl fl74_X9_goesOn dX9_goesOn_79 rfl ?_
  refine v_iconst (v := 1) hC dX9_goesOn_82 (by decide) ?_
  refine v_isub hC dX9_goesOn_83 ?_
  refine v_istore (L' := [(0, .ref (G.2.2.1 0)), (3, .int (x1 + 1)), (4, .int ((gI s10 0 8) - 1))]) hC dX9_goesOn_84 (by decide) [1, 2, 0] rfl ?_
  exact w_X9_goesOn_86 hG (hO0) hC FU _ _ _ h
def c_X9_goesOn_47 : Nat → Int32 → Int32 → HS → Option (Int32 × HS)
  | 0, _, _, _ => none
  | n + 1, x1, x2, σ => (if inb x2 12 = true then (if inb x1 12 = true then (if (gI σ 4 (ix x1)) ≤ (gI σ 4 (ix x2)) then (c_X9_goesOn_68 x1 x2 σ) else (c_X9_goesOn_47 n x1 (x2 + (-1)) σ)) else none) else none)
set_option maxHeartbeats 4000000 in
set_option maxRecDepth 100000 in
theorem w_X9_goesOn_47 {p : Program} {l : Launch} {e : Env} {s : State} {m : MethodId} {args : Array Value} {below : List Frame} {meth : Method} {c : Code} {A : Nat → Prop} {G : WD}  {r0 : Int32} {τ : HS}   (hG : GX G mY) (hO0 : Ob G mY 0 8) (hC : Cx mE G.1 G.2.1 mY cX9_goesOn 5 (some .boolean) RX9 wsX9_goesOn p s m args meth c A)  : ∀ (n : Nat) (x1 : Int32) (x2 : Int32) (σ : HS), c_X9_goesOn_47 n x1 x2 σ = some (r0, τ) → V p l e rmX9_goesOn s m args below meth c 5 A G mY 0 0 (MQ below (QI G mY A r0 τ) args s 0 0 A) σ 47 [(0, .ref (G.2.2.1 0)), (1, .int x1), (2, .int x2)] [] := by
  intro n
  induction n with
  | zero => intro x1 x2 σ h; exact nof h
  | succ n ih =>
    intro x1 x2 σ h
    rw [c_X9_goesOn_47] at h
    refine v_aload_n hC dX9_goesOn_47 0 rfl ?_
    refine v_get (C := RX9) (T := TX9) (N := 45) (ci := 8) (k := 7) (v := .ref (G.2.2.1 4)) hC hO0 hi_X9_goesOn_X9 rfl (by decide) (by decide) rfl rfl fl23_X9_goesOn dX9_goesOn_48 rfl ?_
    refine v_iload_n hC dX9_goesOn_51 2 rfl ?_
    obtain ⟨g_6, h⟩ := gd h
    refine v_iald hC (obM_8_7 hG hO0).1 (obM_8_7 hG hO0).2 (t0 := 0) rfl g_6 dX9_goesOn_52 ?_
    refine v_aload_n hC dX9_goesOn_53 0 rfl ?_
    refine v_get (C := RX9) (T := TX9) (N := 45) (ci := 8) (k := 7) (v := .ref (G.2.2.1 4)) hC hO0 hi_X9_goesOn_X9 rfl (by decide) (by decide) rfl rfl fl23_X9_goesOn dX9_goesOn_54 rfl ?_
    refine v_iload_n hC dX9_goesOn_57 1 rfl ?_
    obtain ⟨g_7, h⟩ := gd h
    refine v_iald hC (obM_8_7 hG hO0).1 (obM_8_7 hG hO0).2 (t0 := 0) rfl g_7 dX9_goesOn_58 ?_
    refine v_icmp_ge (tgt := 68) hC dX9_goesOn_59 (by decide) (fun c_8 => ?_) (fun c_8 => ?_)
    · replace h := ift c_8 h
      exact w_X9_goesOn_68 hG (hO0) hC h
    · replace h := ifn c_8 h
      refine v_iinc (v := (x2 + (-1))) (L' := [(0, .ref (G.2.2.1 0)), (1, .int x1), (2, .int (x2 + (-1)))]) hC dX9_goesOn_62 2 rfl rfl (by decide) [1, 2, 0] rfl ?_
      refine v_goto (tgt := 47) hC dX9_goesOn_65 (by decide) ?_
      exact ih _ _ _ h
def c_X9_goesOn_34 (x1 : Int32) (σ : HS) : Option (Int32 × HS) := (if 0 ≤ x1 then (c_X9_goesOn_47 FU x1 ((gI σ 0 8) - 1) σ) else (some (0, σ)))
set_option maxHeartbeats 4000000 in
set_option maxRecDepth 100000 in
theorem w_X9_goesOn_34 {p : Program} {l : Launch} {e : Env} {s : State} {m : MethodId} {args : Array Value} {below : List Frame} {meth : Method} {c : Code} {A : Nat → Prop} {G : WD}  {r0 : Int32} {τ : HS}  {x1 : Int32} {σ : HS}  (hG : GX G mY) (hO0 : Ob G mY 0 8) (hC : Cx mE G.1 G.2.1 mY cX9_goesOn 5 (some .boolean) RX9 wsX9_goesOn p s m args meth c A)  (h : c_X9_goesOn_34 x1 σ = some (r0, τ)) : V p l e rmX9_goesOn s m args below meth c 5 A G mY 0 0 (MQ below (QI G mY A r0 τ) args s 0 0 A) σ 34 [(0, .ref (G.2.2.1 0)), (1, .int x1)] [] := by
  rw [c_X9_goesOn_34] at h
  refine v_iload_n hC dX9_goesOn_34 1 rfl ?_
  refine v_if_ge (tgt := 40) hC dX9_goesOn_35 (by decide) (fun c_5 => ?_) (fun c_5 => ?_)
  · replace h := ift c_5 h
    refine v_aload_n hC dX9_goesOn_40 0 rfl ?_
    refine v_get (C := RX9) (T := TX9) (N := 45) (ci := 8) (k := 8) (v := .int (gI σ 0 8)) hC hO0 hi_X9_goesOn_X9 rfl (by decide) (by decide) rfl rfl fl74_X9_goesOn dX9_goesOn_41 rfl ?_
    refine v_iconst (v := 1) hC dX9_goesOn_44 (by decide) ?_
    refine v_isub hC dX9_goesOn_45 ?_
    refine v_istore_n (L' := [(0, .ref (G.2.2.1 0)), (1, .int x1), (2, .int ((gI σ 0 8) - 1))]) hC dX9_goesOn_46 (by decide) [1, 2, 0] rfl ?_
    exact w_X9_goesOn_47 hG (hO0) hC FU _ _ _ h
  · replace h := ifn c_5 h
    refine v_iconst (v := 0) hC dX9_goesOn_38 (by decide) ?_
    exact v_zret hC rfl rfl dX9_goesOn_39 h
def c_X9_goesOn_7 : Nat → Int32 → HS → Option (Int32 × HS)
  | 0, _, _ => none
  | n + 1, x1, σ => (if x1 < 0 then (c_X9_goesOn_34 x1 σ) else (if inb x1 12 = true then (if inb (x1 + 1) 12 = true then (if (gI σ 4 (ix x1)) ≤ (gI σ 4 (ix (x1 + 1))) then (c_X9_goesOn_34 x1 σ) else (c_X9_goesOn_7 n (x1 + (-1)) σ)) else none) else none))
set_option maxHeartbeats 4000000 in
set_option maxRecDepth 100000 in
theorem w_X9_goesOn_7 {p : Program} {l : Launch} {e : Env} {s : State} {m : MethodId} {args : Array Value} {below : List Frame} {meth : Method} {c : Code} {A : Nat → Prop} {G : WD}  {r0 : Int32} {τ : HS}   (hG : GX G mY) (hO0 : Ob G mY 0 8) (hC : Cx mE G.1 G.2.1 mY cX9_goesOn 5 (some .boolean) RX9 wsX9_goesOn p s m args meth c A)  : ∀ (n : Nat) (x1 : Int32) (σ : HS), c_X9_goesOn_7 n x1 σ = some (r0, τ) → V p l e rmX9_goesOn s m args below meth c 5 A G mY 0 0 (MQ below (QI G mY A r0 τ) args s 0 0 A) σ 7 [(0, .ref (G.2.2.1 0)), (1, .int x1)] [] := by
  intro n
  induction n with
  | zero => intro x1 σ h; exact nof h
  | succ n ih =>
    intro x1 σ h
    rw [c_X9_goesOn_7] at h
    refine v_iload_n hC dX9_goesOn_7 1 rfl ?_
    refine v_if_lt (tgt := 34) hC dX9_goesOn_8 (by decide) (fun c_1 => ?_) (fun c_1 => ?_)
    · replace h := ift c_1 h
      exact w_X9_goesOn_34 hG (hO0) hC h
    · replace h := ifn c_1 h
      refine v_aload_n hC dX9_goesOn_11 0 rfl ?_
      refine v_get (C := RX9) (T := TX9) (N := 45) (ci := 8) (k := 7) (v := .ref (G.2.2.1 4)) hC hO0 hi_X9_goesOn_X9 rfl (by decide) (by decide) rfl rfl fl23_X9_goesOn dX9_goesOn_12 rfl ?_
      refine v_iload_n hC dX9_goesOn_15 1 rfl ?_
      obtain ⟨g_2, h⟩ := gd h
      refine v_iald hC (obM_8_7 hG hO0).1 (obM_8_7 hG hO0).2 (t0 := 0) rfl g_2 dX9_goesOn_16 ?_
      refine v_aload_n hC dX9_goesOn_17 0 rfl ?_
      refine v_get (C := RX9) (T := TX9) (N := 45) (ci := 8) (k := 7) (v := .ref (G.2.2.1 4)) hC hO0 hi_X9_goesOn_X9 rfl (by decide) (by decide) rfl rfl fl23_X9_goesOn dX9_goesOn_18 rfl ?_
      refine v_iload_n hC dX9_goesOn_21 1 rfl ?_
      refine v_iconst (v := 1) hC dX9_goesOn_22 (by decide) ?_
      refine v_iadd hC dX9_goesOn_23 ?_
      obtain ⟨g_3, h⟩ := gd h
      refine v_iald hC (obM_8_7 hG hO0).1 (obM_8_7 hG hO0).2 (t0 := 0) rfl g_3 dX9_goesOn_24 ?_
      refine v_icmp_le (tgt := 34) hC dX9_goesOn_25 (by decide) (fun c_4 => ?_) (fun c_4 => ?_)
      · replace h := ift c_4 h
        exact w_X9_goesOn_34 hG (hO0) hC h
      · replace h := ifn c_4 h
        refine v_iinc (v := (x1 + (-1))) (L' := [(0, .ref (G.2.2.1 0)), (1, .int (x1 + (-1)))]) hC dX9_goesOn_28 1 rfl rfl (by decide) [1, 0] rfl ?_
        refine v_goto (tgt := 7) hC dX9_goesOn_31 (by decide) ?_
        exact ih _ _ h
def c_X9_goesOn (σ : HS) : Option (Int32 × HS) := (c_X9_goesOn_7 FU ((gI σ 0 8) - 2) σ)
set_option maxHeartbeats 4000000 in
set_option maxRecDepth 100000 in
theorem w_X9_goesOn {p : Program} {l : Launch} {e : Env} {s : State} {m : MethodId} {args : Array Value} {below : List Frame} {meth : Method} {c : Code} {A : Nat → Prop} {G : WD}  {r0 : Int32} {τ : HS}  {σ : HS}  (hG : GX G mY) (hO0 : Ob G mY 0 8) (hC : Cx mE G.1 G.2.1 mY cX9_goesOn 5 (some .boolean) RX9 wsX9_goesOn p s m args meth c A) (h : c_X9_goesOn  σ = some (r0, τ)) : V p l e rmX9_goesOn s m args below meth c 5 A G mY 0 0 (MQ below (QI G mY A r0 τ) args s 0 0 A) σ 0 [(0, .ref (G.2.2.1 0))] [] := by
  rw [c_X9_goesOn] at h
  refine v_aload_n hC dX9_goesOn_0 0 rfl ?_
  refine v_get (C := RX9) (T := TX9) (N := 45) (ci := 8) (k := 8) (v := .int (gI σ 0 8)) hC hO0 hi_X9_goesOn_X9 rfl (by decide) (by decide) rfl rfl fl74_X9_goesOn dX9_goesOn_1 rfl ?_
  refine v_iconst (v := 2) hC dX9_goesOn_4 (by decide) ?_
  refine v_isub hC dX9_goesOn_5 ?_
  refine v_istore_n (L' := [(0, .ref (G.2.2.1 0)), (1, .int ((gI σ 0 8) - 2))]) hC dX9_goesOn_6 (by decide) [1, 0] rfl ?_
  exact w_X9_goesOn_7 hG (hO0) hC FU _ _ h
theorem k_X9_goesOn (l : Launch) {G : WD}   {r0 : Int32} {τ : HS}  {σ : HS}  (hG : GX G mY) (hO0 : Ob G mY 0 8) (h : c_X9_goesOn  σ = some (r0, τ)) : MI mE l yX9_goesOn wsX9_goesOn rmX9_goesOn G mY [.ref (G.2.2.1 0)] σ r0 τ :=
  MI.of RX9 (by decide) rfl rfl (Nat.le_of_ble_eq_true rfl) rfl rfl (fun p e s m below meth c hC => w_X9_goesOn  hG hO0 hC h)
abbrev rmX9_digits : Room := { frames := 0, cells := 0, slots := 0, locals := 0 }
def c_X9_digits_4 : Nat → Int32 → Int32 → HS → Option (Int32 × HS)
  | 0, _, _, _ => none
  | n + 1, x1, x2, σ => (if (gI σ 0 8) ≤ x2 then (some (x1, σ)) else (if inb x2 12 = true then (c_X9_digits_4 n (((10 * x1) + (gI σ 4 (ix x2))) + 1) (x2 + 1) σ) else none))
set_option maxHeartbeats 4000000 in
set_option maxRecDepth 100000 in
theorem w_X9_digits_4 {p : Program} {l : Launch} {e : Env} {s : State} {m : MethodId} {args : Array Value} {below : List Frame} {meth : Method} {c : Code} {A : Nat → Prop} {G : WD}  {r0 : Int32} {τ : HS}   (hG : GX G mY) (hO0 : Ob G mY 0 8) (hC : Cx mE G.1 G.2.1 mY cX9_digits 3 (some .int) RX9 wsX9_digits p s m args meth c A)  : ∀ (n : Nat) (x1 : Int32) (x2 : Int32) (σ : HS), c_X9_digits_4 n x1 x2 σ = some (r0, τ) → V p l e rmX9_digits s m args below meth c 3 A G mY 0 0 (MQ below (QI G mY A r0 τ) args s 0 0 A) σ 4 [(0, .ref (G.2.2.1 0)), (1, .int x1), (2, .int x2)] [] := by
  intro n
  induction n with
  | zero => intro x1 x2 σ h; exact nof h
  | succ n ih =>
    intro x1 x2 σ h
    rw [c_X9_digits_4] at h
    refine v_iload_n hC dX9_digits_4 2 rfl ?_
    refine v_aload_n hC dX9_digits_5 0 rfl ?_
    refine v_get (C := RX9) (T := TX9) (N := 45) (ci := 8) (k := 8) (v := .int (gI σ 0 8)) hC hO0 hi_X9_digits_X9 rfl (by decide) (by decide) rfl rfl fl74_X9_digits dX9_digits_6 rfl ?_
    refine v_icmp_ge (tgt := 32) hC dX9_digits_9 (by decide) (fun c_1 => ?_) (fun c_1 => ?_)
    · replace h := ift c_1 h
      refine v_iload_n hC dX9_digits_32 1 rfl ?_
      exact v_iret hC rfl dX9_digits_33 h
    · replace h := ifn c_1 h
      refine v_bipush (v := 10) hC dX9_digits_12 (by decide) ?_
      refine v_iload_n hC dX9_digits_14 1 rfl ?_
      refine v_imul hC dX9_digits_15 ?_
      refine v_aload_n hC dX9_digits_16 0 rfl ?_
      refine v_get (C := RX9) (T := TX9) (N := 45) (ci := 8) (k := 7) (v := .ref (G.2.2.1 4)) hC hO0 hi_X9_digits_X9 rfl (by decide) (by decide) rfl rfl fl23_X9_digits dX9_digits_17 rfl ?_
      refine v_iload_n hC dX9_digits_20 2 rfl ?_
      obtain ⟨g_2, h⟩ := gd h
      refine v_iald hC (obM_8_7 hG hO0).1 (obM_8_7 hG hO0).2 (t0 := 0) rfl g_2 dX9_digits_21 ?_
      refine v_iadd hC dX9_digits_22 ?_
      refine v_iconst (v := 1) hC dX9_digits_23 (by decide) ?_
      refine v_iadd hC dX9_digits_24 ?_
      refine v_istore_n (L' := [(0, .ref (G.2.2.1 0)), (1, .int (((10 * x1) + (gI σ 4 (ix x2))) + 1)), (2, .int x2)]) hC dX9_digits_25 (by decide) [1, 0, 2] rfl ?_
      refine v_iinc (v := (x2 + 1)) (L' := [(0, .ref (G.2.2.1 0)), (1, .int (((10 * x1) + (gI σ 4 (ix x2))) + 1)), (2, .int (x2 + 1))]) hC dX9_digits_26 2 rfl rfl (by decide) [1, 2, 0] rfl ?_
      refine v_goto (tgt := 4) hC dX9_digits_29 (by decide) ?_
      exact ih _ _ _ h
def c_X9_digits (σ : HS) : Option (Int32 × HS) := (c_X9_digits_4 FU 0 0 σ)
set_option maxHeartbeats 4000000 in
set_option maxRecDepth 100000 in
theorem w_X9_digits {p : Program} {l : Launch} {e : Env} {s : State} {m : MethodId} {args : Array Value} {below : List Frame} {meth : Method} {c : Code} {A : Nat → Prop} {G : WD}  {r0 : Int32} {τ : HS}  {σ : HS}  (hG : GX G mY) (hO0 : Ob G mY 0 8) (hC : Cx mE G.1 G.2.1 mY cX9_digits 3 (some .int) RX9 wsX9_digits p s m args meth c A) (h : c_X9_digits  σ = some (r0, τ)) : V p l e rmX9_digits s m args below meth c 3 A G mY 0 0 (MQ below (QI G mY A r0 τ) args s 0 0 A) σ 0 [(0, .ref (G.2.2.1 0))] [] := by
  rw [c_X9_digits] at h
  refine v_iconst (v := 0) hC dX9_digits_0 (by decide) ?_
  refine v_istore_n (L' := [(0, .ref (G.2.2.1 0)), (1, .int 0)]) hC dX9_digits_1 (by decide) [1, 0] rfl ?_
  refine v_iconst (v := 0) hC dX9_digits_2 (by decide) ?_
  refine v_istore_n (L' := [(0, .ref (G.2.2.1 0)), (1, .int 0), (2, .int 0)]) hC dX9_digits_3 (by decide) [1, 2, 0] rfl ?_
  exact w_X9_digits_4 hG (hO0) hC FU _ _ _ h
theorem k_X9_digits (l : Launch) {G : WD}   {r0 : Int32} {τ : HS}  {σ : HS}  (hG : GX G mY) (hO0 : Ob G mY 0 8) (h : c_X9_digits  σ = some (r0, τ)) : MI mE l yX9_digits wsX9_digits rmX9_digits G mY [.ref (G.2.2.1 0)] σ r0 τ :=
  MI.of RX9 (by decide) rfl rfl (Nat.le_of_ble_eq_true rfl) rfl rfl (fun p e s m below meth c hC => w_X9_digits  hG hO0 hC h)
abbrev rmX9_goesAll : Room := { frames := 159, cells := 0, slots := 0, locals := 7195 }
def c_X9_goesAll_99 (k21 : Int32 → Int32 → Int32 → HS → Option HS) (x1 : Int32) (x2 : Int32) (σ : HS) : Option HS := (bi2 (c_X9_goesOn σ) (fun r31 s30 => (k21 x1 x2 r31 s30)))
set_option maxHeartbeats 4000000 in
set_option maxRecDepth 100000 in
theorem w_X9_goesAll_99 {p : Program} {l : Launch} {e : Env} {s : State} {m : MethodId} {args : Array Value} {below : List Frame} {meth : Method} {c : Code} {A : Nat → Prop} {G : WD}  {τ : HS}  {k21 : Int32 → Int32 → Int32 → HS → Option HS} {x1 : Int32} {x2 : Int32} {σ : HS}  (hG : GX G mY) (hO0 : Ob G mY 0 8) (hC : Cx mE G.1 G.2.1 mY cX9_goesAll 5 none RX9 wsX9_goesAll p s m args meth c A) (hk21 : ∀ (x1 : Int32) (x2 : Int32) (x3 : Int32) (σ : HS), k21 x1 x2 x3 σ = some τ → V p l e rmX9_goesAll s m args below meth c 5 A G mY 0 0 (MQ below (QV G mY A τ) args s 0 0 A) σ 21 [(0, .ref (G.2.2.1 0)), (1, .int x1), (2, .int x2), (3, .int x3)] []) (h : c_X9_goesAll_99 k21 x1 x2 σ = some τ) : V p l e rmX9_goesAll s m args below meth c 5 A G mY 0 0 (MQ below (QV G mY A τ) args s 0 0 A) σ 99 [(0, .ref (G.2.2.1 0)), (1, .int x1), (2, .int x2)] [] := by
  rw [c_X9_goesAll_99] at h
  refine v_aload_n hC dX9_goesAll_99 0 rfl ?_
  obtain ⟨r31, s30, hc_29, h⟩ := bd2 h
  refine v_callVI hC mE_ok (n := 0) (As := []) (k_X9_goesOn l hG (hO0) hc_29) (cwV 0 hC.1.2.2.2.2 gX9_goesAll_X9_goesOn rfl rfl rfl (by decide +kernel) ⟨(Nat.le_of_ble_eq_true rfl), (Nat.le_of_ble_eq_true rfl)⟩) hO0 (by decide) rfl rfl rfl (Nat.le_of_ble_eq_true rfl) ⟨Nat.zero_le _, Nat.zero_le _⟩ dX9_goesAll_100 rfl ?_
  refine v_istore_n (L' := [(0, .ref (G.2.2.1 0)), (1, .int x1), (2, .int x2), (3, .int r31)]) hC dX9_goesAll_103 (by decide) [1, 2, 3, 0] rfl ?_
  refine v_goto (tgt := 21) hC dX9_goesAll_104 (by decide) ?_
  exact hk21 _ _ _ _ h
def c_X9_goesAll_85 (k21 : Int32 → Int32 → Int32 → HS → Option HS) (x1 : Int32) (x2 : Int32) (x4 : Int32) (σ : HS) : Option HS := (lt (sI σ 0 34 x4) (fun s22 => (bi2 (c_X9_digits s22) (fun r26 s25 => (lt (sI s25 0 35 r26) (fun s27 => (c_X9_goesAll_99 k21 x1 x2 s27)))))))
set_option maxHeartbeats 4000000 in
set_option maxRecDepth 100000 in
theorem w_X9_goesAll_85 {p : Program} {l : Launch} {e : Env} {s : State} {m : MethodId} {args : Array Value} {below : List Frame} {meth : Method} {c : Code} {A : Nat → Prop} {G : WD}  {τ : HS}  {k21 : Int32 → Int32 → Int32 → HS → Option HS} {x1 : Int32} {x2 : Int32} {x4 : Int32} {σ : HS}  (hG : GX G mY) (hO0 : Ob G mY 0 8) (hC : Cx mE G.1 G.2.1 mY cX9_goesAll 5 none RX9 wsX9_goesAll p s m args meth c A) (hk21 : ∀ (x1 : Int32) (x2 : Int32) (x3 : Int32) (σ : HS), k21 x1 x2 x3 σ = some τ → V p l e rmX9_goesAll s m args below meth c 5 A G mY 0 0 (MQ below (QV G mY A τ) args s 0 0 A) σ 21 [(0, .ref (G.2.2.1 0)), (1, .int x1), (2, .int x2), (3, .int x3)] []) (h : c_X9_goesAll_85 k21 x1 x2 x4 σ = some τ) : V p l e rmX9_goesAll s m args below meth c 5 A G mY 0 0 (MQ below (QV G mY A τ) args s 0 0 A) σ 85 [(0, .ref (G.2.2.1 0)), (1, .int x1), (2, .int x2), (4, .int x4)] [] := by
  rw [c_X9_goesAll_85] at h
  refine v_aload_n hC dX9_goesAll_85 0 rfl ?_
  refine v_iload hC dX9_goesAll_86 3 rfl ?_
  refine v_putI (C := RX9) (T := TX9) (N := 45) (ci := 8) (k := 34) (ty := .int) hC hO0 hi_X9_goesAll_X9 rfl (by decide) (by decide) rfl rfl tyX9_ok nmX9 fl305_X9_goesAll rfl rfl rfl rfl rfl dX9_goesAll_88 ?_
  obtain ⟨s22, e23, h⟩ := ld h
  refine V.eq e23 ?_
  refine v_aload_n hC dX9_goesAll_91 0 rfl ?_
  refine v_aload_n hC dX9_goesAll_92 0 rfl ?_
  obtain ⟨r26, s25, hc_24, h⟩ := bd2 h
  refine v_callVI hC mE_ok (n := 0) (As := []) (k_X9_digits l hG (hO0) hc_24) (cwV 0 hC.1.2.2.2.2 gX9_goesAll_X9_digits rfl rfl rfl (by decide +kernel) ⟨(Nat.le_of_ble_eq_true rfl), (Nat.le_of_ble_eq_true rfl)⟩) hO0 (by decide) rfl rfl rfl (Nat.le_of_ble_eq_true rfl) ⟨Nat.zero_le _, Nat.zero_le _⟩ dX9_goesAll_93 rfl ?_
  refine v_putI (C := RX9) (T := TX9) (N := 45) (ci := 8) (k := 35) (ty := .int) hC hO0 hi_X9_goesAll_X9 rfl (by decide) (by decide) rfl rfl tyX9_ok nmX9 fl311_X9_goesAll rfl rfl rfl rfl rfl dX9_goesAll_96 ?_
  obtain ⟨s27, e28, h⟩ := ld h
  refine V.eq e28 ?_
  refine V.sub (L' := [(0, .ref (G.2.2.1 0)), (1, .int x1), (2, .int x2)]) [0, 1, 2] rfl ?_
  exact w_X9_goesAll_99 hG (hO0) hC hk21 h
def c_X9_goesAll_52 (k21 : Int32 → Int32 → Int32 → HS → Option HS) (x1 : Int32) (x2 : Int32) (x4 : Int32) (y1 : Int64) (y2 : Int64) (σ : HS) : Option HS := (lt (sJ σ 0 32 (y1 + y2)) (fun s16 => (lt (sJ s16 0 33 ((gJ s16 0 33) + (Int32.toInt64 x4))) (fun s18 => (if (gI s18 0 34) = (-1) then (c_X9_goesAll_85 k21 x1 x2 x4 s18) else (if (gI s18 0 34) ≤ x4 then (c_X9_goesAll_99 k21 x1 x2 s18) else (c_X9_goesAll_85 k21 x1 x2 x4 s18)))))))
set_option maxHeartbeats 4000000 in
set_option maxRecDepth 100000 in
theorem w_X9_goesAll_52 {p : Program} {l : Launch} {e : Env} {s : State} {m : MethodId} {args : Array Value} {below : List Frame} {meth : Method} {c : Code} {A : Nat → Prop} {G : WD}  {τ : HS}  {k21 : Int32 → Int32 → Int32 → HS → Option HS} {x1 : Int32} {x2 : Int32} {x4 : Int32} {y1 : Int64} {y2 : Int64} {σ : HS}  (hG : GX G mY) (hO0 : Ob G mY 0 8) (hP0 : Ob G mY 0 8) (hC : Cx mE G.1 G.2.1 mY cX9_goesAll 5 none RX9 wsX9_goesAll p s m args meth c A) (hk21 : ∀ (x1 : Int32) (x2 : Int32) (x3 : Int32) (σ : HS), k21 x1 x2 x3 σ = some τ → V p l e rmX9_goesAll s m args below meth c 5 A G mY 0 0 (MQ below (QV G mY A τ) args s 0 0 A) σ 21 [(0, .ref (G.2.2.1 0)), (1, .int x1), (2, .int x2), (3, .int x3)] []) (h : c_X9_goesAll_52 k21 x1 x2 x4 y1 y2 σ = some τ) : V p l e rmX9_goesAll s m args below meth c 5 A G mY 0 0 (MQ below (QV G mY A τ) args s 0 0 A) σ 52 [(0, .ref (G.2.2.1 0)), (1, .int x1), (2, .int x2), (4, .int x4)] [.long y2, .long y1, .ref (G.2.2.1 0)] := by
  rw [c_X9_goesAll_52] at h
  refine v_ladd hC dX9_goesAll_52 ?_
  refine v_putJ (C := RX9) (T := TX9) (N := 45) (ci := 8) (k := 32) hC hP0 hi_X9_goesAll_X9 rfl (by decide) (by decide) rfl rfl tyX9_ok nmX9 fl299_X9_goesAll rfl rfl rfl dX9_goesAll_53 ?_
  obtain ⟨s16, e17, h⟩ := ld h
  refine V.eq e17 ?_
  refine v_aload_n hC dX9_goesAll_56 0 rfl ?_
  refine v_dup hC dX9_goesAll_57 rfl ?_
  refine v_get (C := RX9) (T := TX9) (N := 45) (ci := 8) (k := 33) (v := .long (gJ s16 0 33)) hC hO0 hi_X9_goesAll_X9 rfl (by decide) (by decide) rfl rfl fl302_X9_goesAll dX9_goesAll_58 rfl ?_
  refine v_iload hC dX9_goesAll_61 3 rfl ?_
  refine v_i2l hC dX9_goesAll_63 ?_
  refine v_ladd hC dX9_goesAll_64 ?_
  refine v_putJ (C := RX9) (T := TX9) (N := 45) (ci := 8) (k := 33) hC hO0 hi_X9_goesAll_X9 rfl (by decide) (by decide) rfl rfl tyX9_ok nmX9 fl302_X9_goesAll rfl rfl rfl dX9_goesAll_65 ?_
  obtain ⟨s18, e19, h⟩ := ld h
  refine V.eq e19 ?_
  refine v_aload_n hC dX9_goesAll_68 0 rfl ?_
  refine v_get (C := RX9) (T := TX9) (N := 45) (ci := 8) (k := 34) (v := .int (gI s18 0 34)) hC hO0 hi_X9_goesAll_X9 rfl (by decide) (by decide) rfl rfl fl305_X9_goesAll dX9_goesAll_69 rfl ?_
  refine v_iconst (v := (-1)) hC dX9_goesAll_72 (by decide) ?_
  refine v_icmp_eq (tgt := 85) hC dX9_goesAll_73 (by decide) (fun c_20 => ?_) (fun c_20 => ?_)
  · replace h := ift c_20 h
    exact w_X9_goesAll_85 hG (hO0) hC hk21 h
  · replace h := ifn c_20 h
    refine v_iload hC dX9_goesAll_76 3 rfl ?_
    refine v_aload_n hC dX9_goesAll_78 0 rfl ?_
    refine v_get (C := RX9) (T := TX9) (N := 45) (ci := 8) (k := 34) (v := .int (gI s18 0 34)) hC hO0 hi_X9_goesAll_X9 rfl (by decide) (by decide) rfl rfl fl305_X9_goesAll dX9_goesAll_79 rfl ?_
    refine v_icmp_ge (tgt := 99) hC dX9_goesAll_82 (by decide) (fun c_21 => ?_) (fun c_21 => ?_)
    · replace h := ift c_21 h
      refine V.sub (L' := [(0, .ref (G.2.2.1 0)), (1, .int x1), (2, .int x2)]) [0, 1, 2] rfl ?_
      exact w_X9_goesAll_99 hG (hO0) hC hk21 h
    · replace h := ifn c_21 h
      exact w_X9_goesAll_85 hG (hO0) hC hk21 h
def c_X9_goesAll_107 (σ : HS) : Option HS := (bi1 (c_X9_laysBack σ) (fun s15 => (some s15)))
set_option maxHeartbeats 4000000 in
set_option maxRecDepth 100000 in
theorem w_X9_goesAll_107 {p : Program} {l : Launch} {e : Env} {s : State} {m : MethodId} {args : Array Value} {below : List Frame} {meth : Method} {c : Code} {A : Nat → Prop} {G : WD}  {τ : HS}   {σ : HS}  (hG : GX G mY) (hO0 : Ob G mY 0 8) (hC : Cx mE G.1 G.2.1 mY cX9_goesAll 5 none RX9 wsX9_goesAll p s m args meth c A)  (h : c_X9_goesAll_107  σ = some τ) : V p l e rmX9_goesAll s m args below meth c 5 A G mY 0 0 (MQ below (QV G mY A τ) args s 0 0 A) σ 107 [(0, .ref (G.2.2.1 0))] [] := by
  rw [c_X9_goesAll_107] at h
  refine v_aload_n hC dX9_goesAll_107 0 rfl ?_
  obtain ⟨s15, hc_14, h⟩ := bd1 h
  refine v_callVV hC mE_ok (n := 0) (As := []) (k_X9_laysBack l hG (hO0) hc_14) (cwV 0 hC.1.2.2.2.2 gX9_goesAll_X9_laysBack rfl rfl rfl (by decide +kernel) ⟨(Nat.le_of_ble_eq_true rfl), (Nat.le_of_ble_eq_true rfl)⟩) hO0 (by decide) rfl rfl rfl (Nat.le_of_ble_eq_true rfl) ⟨Nat.zero_le _, Nat.zero_le _⟩ dX9_goesAll_108 rfl ?_
  exact v_vret hC rfl dX9_goesAll_111 h
def c_X9_goesAll_21 : Nat → Int32 → Int32 → Int32 → HS → Option HS
  | 0, _, _, _, _ => none
  | n + 1, x1, x2, x3, σ => (if x3 = 0 then (c_X9_goesAll_107 σ) else (bi2 (c_X9_goHome x1 x2 σ) (fun r12 s11 => (if r12 = (gI s11 0 8) then (c_X9_goesAll_52 (fun z0 z1 z2 z3 => c_X9_goesAll_21 n z0 z1 z2 z3) x1 x2 r12 (gJ s11 0 32) 1 s11) else (c_X9_goesAll_52 (fun z0 z1 z2 z3 => c_X9_goesAll_21 n z0 z1 z2 z3) x1 x2 r12 (gJ s11 0 32) 0 s11)))))
set_option maxHeartbeats 4000000 in
set_option maxRecDepth 100000 in
theorem w_X9_goesAll_21 {p : Program} {l : Launch} {e : Env} {s : State} {m : MethodId} {args : Array Value} {below : List Frame} {meth : Method} {c : Code} {A : Nat → Prop} {G : WD}  {τ : HS}   (hG : GX G mY) (hO0 : Ob G mY 0 8) (hC : Cx mE G.1 G.2.1 mY cX9_goesAll 5 none RX9 wsX9_goesAll p s m args meth c A)  : ∀ (n : Nat) (x1 : Int32) (x2 : Int32) (x3 : Int32) (σ : HS), c_X9_goesAll_21 n x1 x2 x3 σ = some τ → V p l e rmX9_goesAll s m args below meth c 5 A G mY 0 0 (MQ below (QV G mY A τ) args s 0 0 A) σ 21 [(0, .ref (G.2.2.1 0)), (1, .int x1), (2, .int x2), (3, .int x3)] [] := by
  intro n
  induction n with
  | zero => intro x1 x2 x3 σ h; exact nof h
  | succ n ih =>
    intro x1 x2 x3 σ h
    rw [c_X9_goesAll_21] at h
    refine v_iload_n hC dX9_goesAll_21 3 rfl ?_
    refine v_if_eq (tgt := 107) hC dX9_goesAll_22 (by decide) (fun c_9 => ?_) (fun c_9 => ?_)
    · replace h := ift c_9 h
      refine V.sub (L' := [(0, .ref (G.2.2.1 0))]) [0] rfl ?_
      exact w_X9_goesAll_107 hG (hO0) hC h
    · replace h := ifn c_9 h
      refine v_aload_n hC dX9_goesAll_25 0 rfl ?_
      refine v_iload_n hC dX9_goesAll_26 1 rfl ?_
      refine v_iload_n hC dX9_goesAll_27 2 rfl ?_
      obtain ⟨r12, s11, hc_10, h⟩ := bd2 h
      refine v_callVI hC mE_ok (n := 2) (As := [.int x1, .int x2]) (k_X9_goHome l hG (hO0) hc_10) (cwV 2 hC.1.2.2.2.2 gX9_goesAll_X9_goHome rfl rfl rfl (by decide +kernel) ⟨(Nat.le_of_ble_eq_true rfl), (Nat.le_of_ble_eq_true rfl)⟩) hO0 (by decide) rfl rfl rfl (Nat.le_of_ble_eq_true rfl) ⟨Nat.zero_le _, Nat.zero_le _⟩ dX9_goesAll_28 rfl ?_
      refine v_istore (L' := [(0, .ref (G.2.2.1 0)), (1, .int x1), (2, .int x2), (4, .int r12)]) hC dX9_goesAll_31 (by decide) [1, 2, 3, 0] rfl ?_
      refine v_aload_n hC dX9_goesAll_33 0 rfl ?_
      refine v_dup hC dX9_goesAll_34 rfl ?_
      refine v_get (C := RX9) (T := TX9) (N := 45) (ci := 8) (k := 32) (v := .long (gJ s11 0 32)) hC hO0 hi_X9_goesAll_X9 rfl (by decide) (by decide) rfl rfl fl299_X9_goesAll dX9_goesAll_35 rfl ?_
      refine v_iload hC dX9_goesAll_38 3 rfl ?_
      refine v_aload_n hC dX9_goesAll_40 0 rfl ?_
      refine v_get (C := RX9) (T := TX9) (N := 45) (ci := 8) (k := 8) (v := .int (gI s11 0 8)) hC hO0 hi_X9_goesAll_X9 rfl (by decide) (by decide) rfl rfl fl74_X9_goesAll dX9_goesAll_41 rfl ?_
      refine v_icmp_ne (tgt := 51) hC dX9_goesAll_44 (by decide) (fun c_13 => ?_) (fun c_13 => ?_)
      · replace h := ifn c_13 h
        refine v_lconst (v := 0) hC dX9_goesAll_51 (by decide) ?_
        exact w_X9_goesAll_52 hG (hO0) (hO0) hC (fun _ _ _ _ h => ih _ _ _ _ h) h
      · replace h := ift c_13 h
        refine v_lconst (v := 1) hC dX9_goesAll_47 (by decide) ?_
        refine v_goto (tgt := 52) hC dX9_goesAll_48 (by decide) ?_
        exact w_X9_goesAll_52 hG (hO0) (hO0) hC (fun _ _ _ _ h => ih _ _ _ _ h) h
def c_X9_goesAll (p1 : Int32) (p2 : Int32) (σ : HS) : Option HS := (bi1 (c_X9_putsAside σ) (fun s2 => (lt (sJ s2 0 32 0) (fun s3 => (lt (sJ s3 0 33 0) (fun s5 => (lt (sI s5 0 34 (-1)) (fun s7 => (c_X9_goesAll_21 FU p1 p2 1 s7)))))))))
set_option maxHeartbeats 4000000 in
set_option maxRecDepth 100000 in
theorem w_X9_goesAll {p : Program} {l : Launch} {e : Env} {s : State} {m : MethodId} {args : Array Value} {below : List Frame} {meth : Method} {c : Code} {A : Nat → Prop} {G : WD}  {τ : HS} {p1 : Int32} {p2 : Int32} {σ : HS}  (hG : GX G mY) (hO0 : Ob G mY 0 8) (hC : Cx mE G.1 G.2.1 mY cX9_goesAll 5 none RX9 wsX9_goesAll p s m args meth c A) (h : c_X9_goesAll p1 p2 σ = some τ) : V p l e rmX9_goesAll s m args below meth c 5 A G mY 0 0 (MQ below (QV G mY A τ) args s 0 0 A) σ 0 [(0, .ref (G.2.2.1 0)), (1, .int p1), (2, .int p2)] [] := by
  rw [c_X9_goesAll] at h
  refine v_aload_n hC dX9_goesAll_0 0 rfl ?_
  obtain ⟨s2, hc_1, h⟩ := bd1 h
  refine v_callVV hC mE_ok (n := 0) (As := []) (k_X9_putsAside l hG (hO0) hc_1) (cwV 0 hC.1.2.2.2.2 gX9_goesAll_X9_putsAside rfl rfl rfl (by decide +kernel) ⟨(Nat.le_of_ble_eq_true rfl), (Nat.le_of_ble_eq_true rfl)⟩) hO0 (by decide) rfl rfl rfl (Nat.le_of_ble_eq_true rfl) ⟨Nat.zero_le _, Nat.zero_le _⟩ dX9_goesAll_1 rfl ?_
  refine v_aload_n hC dX9_goesAll_4 0 rfl ?_
  refine v_lconst (v := 0) hC dX9_goesAll_5 (by decide) ?_
  refine v_putJ (C := RX9) (T := TX9) (N := 45) (ci := 8) (k := 32) hC hO0 hi_X9_goesAll_X9 rfl (by decide) (by decide) rfl rfl tyX9_ok nmX9 fl299_X9_goesAll rfl rfl rfl dX9_goesAll_6 ?_
  obtain ⟨s3, e4, h⟩ := ld h
  refine V.eq e4 ?_
  refine v_aload_n hC dX9_goesAll_9 0 rfl ?_
  refine v_lconst (v := 0) hC dX9_goesAll_10 (by decide) ?_
  refine v_putJ (C := RX9) (T := TX9) (N := 45) (ci := 8) (k := 33) hC hO0 hi_X9_goesAll_X9 rfl (by decide) (by decide) rfl rfl tyX9_ok nmX9 fl302_X9_goesAll rfl rfl rfl dX9_goesAll_11 ?_
  obtain ⟨s5, e6, h⟩ := ld h
  refine V.eq e6 ?_
  refine v_aload_n hC dX9_goesAll_14 0 rfl ?_
  refine v_iconst (v := (-1)) hC dX9_goesAll_15 (by decide) ?_
  refine v_putI (C := RX9) (T := TX9) (N := 45) (ci := 8) (k := 34) (ty := .int) hC hO0 hi_X9_goesAll_X9 rfl (by decide) (by decide) rfl rfl tyX9_ok nmX9 fl305_X9_goesAll rfl rfl rfl rfl rfl dX9_goesAll_16 ?_
  obtain ⟨s7, e8, h⟩ := ld h
  refine V.eq e8 ?_
  refine v_iconst (v := 1) hC dX9_goesAll_19 (by decide) ?_
  refine v_istore_n (L' := [(0, .ref (G.2.2.1 0)), (1, .int p1), (2, .int p2), (3, .int 1)]) hC dX9_goesAll_20 (by decide) [1, 2, 3, 0] rfl ?_
  exact w_X9_goesAll_21 hG (hO0) hC FU _ _ _ _ h
theorem k_X9_goesAll (l : Launch) {G : WD}   {τ : HS} {p1 : Int32} {p2 : Int32} {σ : HS}  (hG : GX G mY) (hO0 : Ob G mY 0 8) (h : c_X9_goesAll p1 p2 σ = some τ) : MV mE l yX9_goesAll wsX9_goesAll rmX9_goesAll G mY [.ref (G.2.2.1 0), .int p1, .int p2] σ τ :=
  MV.of RX9 (by decide) rfl rfl (Nat.le_of_ble_eq_true rfl) rfl rfl (fun p e s m below meth c hC => w_X9_goesAll  hG hO0 hC h)
abbrev rmX9_isFew : Room := { frames := 0, cells := 0, slots := 0, locals := 0 }
def c_X9_isFew (σ : HS) : Option (Int32 × HS) := (if 7 < (gI σ 0 8) then (some (0, σ)) else (some (1, σ)))
set_option maxHeartbeats 4000000 in
set_option maxRecDepth 100000 in
theorem w_X9_isFew {p : Program} {l : Launch} {e : Env} {s : State} {m : MethodId} {args : Array Value} {below : List Frame} {meth : Method} {c : Code} {A : Nat → Prop} {G : WD}  {r0 : Int32} {τ : HS}  {σ : HS}  (hG : GX G mY) (hO0 : Ob G mY 0 8) (hC : Cx mE G.1 G.2.1 mY cX9_isFew 1 (some .boolean) RX9 wsX9_isFew p s m args meth c A) (h : c_X9_isFew  σ = some (r0, τ)) : V p l e rmX9_isFew s m args below meth c 1 A G mY 0 0 (MQ below (QI G mY A r0 τ) args s 0 0 A) σ 0 [(0, .ref (G.2.2.1 0))] [] := by
  rw [c_X9_isFew] at h
  refine v_aload_n hC dX9_isFew_0 0 rfl ?_
  refine v_get (C := RX9) (T := TX9) (N := 45) (ci := 8) (k := 8) (v := .int (gI σ 0 8)) hC hO0 hi_X9_isFew_X9 rfl (by decide) (by decide) rfl rfl fl74_X9_isFew dX9_isFew_1 rfl ?_
  refine v_bipush (v := 7) hC dX9_isFew_4 (by decide) ?_
  refine v_icmp_gt (tgt := 13) hC dX9_isFew_6 (by decide) (fun c_1 => ?_) (fun c_1 => ?_)
  · replace h := ift c_1 h
    refine v_iconst (v := 0) hC dX9_isFew_13 (by decide) ?_
    exact v_zret hC rfl rfl dX9_isFew_14 h
  · replace h := ifn c_1 h
    refine v_iconst (v := 1) hC dX9_isFew_9 (by decide) ?_
    refine v_goto (tgt := 14) hC dX9_isFew_10 (by decide) ?_
    exact v_zret hC rfl rfl dX9_isFew_14 h
theorem k_X9_isFew (l : Launch) {G : WD}   {r0 : Int32} {τ : HS}  {σ : HS}  (hG : GX G mY) (hO0 : Ob G mY 0 8) (h : c_X9_isFew  σ = some (r0, τ)) : MI mE l yX9_isFew wsX9_isFew rmX9_isFew G mY [.ref (G.2.2.1 0)] σ r0 τ :=
  MI.of RX9 (by decide) rfl rfl (Nat.le_of_ble_eq_true rfl) rfl rfl (fun p e s m below meth c hC => w_X9_isFew  hG hO0 hC h)
abbrev rmX9_wins : Room := { frames := 160, cells := 0, slots := 0, locals := 7219 }
def c_X9_wins (p1 : Int32) (p2 : Int32) (σ : HS) : Option (Int64 × HS) := (bi2 (c_X9_isPlan p1 σ) (fun r3 s2 => (if r3 = 0 then (some ((-4611686018427387904), s2)) else (bi2 (c_X9_in (Int32.toInt64 p2) 0 1 s2) (fun r7 s6 => (if r7 = 0 then (some ((-4611686018427387904), s6)) else (bi2 (c_X9_isFew s6) (fun r11 s10 => (if r11 = 0 then (some ((-4611686018427387904), s10)) else (if p2 = 1 then (bi2 (c_X9_all (gI s10 0 8) s10) (fun r20 s19 => (some (r20, s19)))) else (if inb p1 8 = true then (if inb p1 8 = true then (bi1 (c_X9_goesAll (gI s10 5 (ix p1)) (gI s10 6 (ix p1)) s10) (fun s17 => (some ((gJ s17 0 32), s17)))) else none) else none)))))))))))
set_option maxHeartbeats 4000000 in
set_option maxRecDepth 100000 in
theorem w_X9_wins {p : Program} {l : Launch} {e : Env} {s : State} {m : MethodId} {args : Array Value} {below : List Frame} {meth : Method} {c : Code} {A : Nat → Prop} {G : WD}  {r0 : Int64} {τ : HS} {p1 : Int32} {p2 : Int32} {σ : HS}  (hG : GX G mY) (hO0 : Ob G mY 0 8) (hC : Cx mE G.1 G.2.1 mY cX9_wins 3 (some .long) RX9 wsX9_wins p s m args meth c A) (h : c_X9_wins p1 p2 σ = some (r0, τ)) : V p l e rmX9_wins s m args below meth c 3 A G mY 0 0 (MQ below (QJ G mY A r0 τ) args s 0 0 A) σ 0 [(0, .ref (G.2.2.1 0)), (1, .int p1), (2, .int p2)] [] := by
  rw [c_X9_wins] at h
  refine v_aload_n hC dX9_wins_0 0 rfl ?_
  refine v_iload_n hC dX9_wins_1 1 rfl ?_
  obtain ⟨r3, s2, hc_1, h⟩ := bd2 h
  refine v_callVI hC mE_ok (n := 1) (As := [.int p1]) (k_X9_isPlan l hG (hO0) hc_1) (cwV 1 hC.1.2.2.2.2 gX9_wins_X9_isPlan rfl rfl rfl (by decide +kernel) ⟨(Nat.le_of_ble_eq_true rfl), (Nat.le_of_ble_eq_true rfl)⟩) hO0 (by decide) rfl rfl rfl (Nat.le_of_ble_eq_true rfl) ⟨Nat.zero_le _, Nat.zero_le _⟩ dX9_wins_2 rfl ?_
  refine v_if_eq (tgt := 25) hC dX9_wins_5 (by decide) (fun c_4 => ?_) (fun c_4 => ?_)
  · replace h := ift c_4 h
    refine v_ldc2 (v := (-4611686018427387904)) hC lc294_X9_wins dX9_wins_25 ?_
    exact v_lret hC rfl dX9_wins_28 h
  · replace h := ifn c_4 h
    refine v_iload_n hC dX9_wins_8 2 rfl ?_
    refine v_i2l hC dX9_wins_9 ?_
    refine v_lconst (v := 0) hC dX9_wins_10 (by decide) ?_
    refine v_lconst (v := 1) hC dX9_wins_11 (by decide) ?_
    obtain ⟨r7, s6, hc_5, h⟩ := bd2 h
    refine v_callSI hC mE_ok (n := 3) (As := [.long (Int32.toInt64 p2), .long 0, .long 1]) (k_X9_in l hG hc_5) (va_cwS 3 hC.1.2.2.2.2 gX9_wins_X9_in rfl rfl rfl (by decide +kernel) ⟨(Nat.le_of_ble_eq_true rfl), (Nat.le_of_ble_eq_true rfl)⟩) rfl (Nat.le_of_ble_eq_true rfl) ⟨Nat.zero_le _, Nat.zero_le _⟩ dX9_wins_12 rfl ?_
    refine v_if_eq (tgt := 25) hC dX9_wins_15 (by decide) (fun c_8 => ?_) (fun c_8 => ?_)
    · replace h := ift c_8 h
      refine v_ldc2 (v := (-4611686018427387904)) hC lc294_X9_wins dX9_wins_25 ?_
      exact v_lret hC rfl dX9_wins_28 h
    · replace h := ifn c_8 h
      refine v_aload_n hC dX9_wins_18 0 rfl ?_
      obtain ⟨r11, s10, hc_9, h⟩ := bd2 h
      refine v_callVI hC mE_ok (n := 0) (As := []) (k_X9_isFew l hG (hO0) hc_9) (cwV 0 hC.1.2.2.2.2 gX9_wins_X9_isFew rfl rfl rfl (by decide +kernel) ⟨(Nat.le_of_ble_eq_true rfl), (Nat.le_of_ble_eq_true rfl)⟩) hO0 (by decide) rfl rfl rfl (Nat.le_of_ble_eq_true rfl) ⟨Nat.zero_le _, Nat.zero_le _⟩ dX9_wins_19 rfl ?_
      refine v_if_ne (tgt := 29) hC dX9_wins_22 (by decide) (fun c_12 => ?_) (fun c_12 => ?_)
      · replace h := ifn c_12 h
        refine v_iload_n hC dX9_wins_29 2 rfl ?_
        refine v_iconst (v := 1) hC dX9_wins_30 (by decide) ?_
        refine v_icmp_ne (tgt := 42) hC dX9_wins_31 (by decide) (fun c_13 => ?_) (fun c_13 => ?_)
        · replace h := ifn c_13 h
          refine v_aload_n hC dX9_wins_42 0 rfl ?_
          refine v_aload_n hC dX9_wins_43 0 rfl ?_
          refine v_get (C := RX9) (T := TX9) (N := 45) (ci := 8) (k := 24) (v := .ref (G.2.2.1 5)) hC hO0 hi_X9_wins_X9 rfl (by decide) (by decide) rfl rfl fl26_X9_wins dX9_wins_44 rfl ?_
          refine v_iload_n hC dX9_wins_47 1 rfl ?_
          obtain ⟨g_14, h⟩ := gd h
          refine v_iald hC (obM_8_24 hG hO0).1 (obM_8_24 hG hO0).2 (t0 := 0) rfl g_14 dX9_wins_48 ?_
          refine v_aload_n hC dX9_wins_49 0 rfl ?_
          refine v_get (C := RX9) (T := TX9) (N := 45) (ci := 8) (k := 25) (v := .ref (G.2.2.1 6)) hC hO0 hi_X9_wins_X9 rfl (by decide) (by decide) rfl rfl fl29_X9_wins dX9_wins_50 rfl ?_
          refine v_iload_n hC dX9_wins_53 1 rfl ?_
          obtain ⟨g_15, h⟩ := gd h
          refine v_iald hC (obM_8_25 hG hO0).1 (obM_8_25 hG hO0).2 (t0 := 0) rfl g_15 dX9_wins_54 ?_
          obtain ⟨s17, hc_16, h⟩ := bd1 h
          refine v_callVV hC mE_ok (n := 2) (As := [.int (gI s10 5 (ix p1)), .int (gI s10 6 (ix p1))]) (k_X9_goesAll l hG (hO0) hc_16) (cwV 2 hC.1.2.2.2.2 gX9_wins_X9_goesAll rfl rfl rfl (by decide +kernel) ⟨(Nat.le_of_ble_eq_true rfl), (Nat.le_of_ble_eq_true rfl)⟩) hO0 (by decide) rfl rfl rfl (Nat.le_of_ble_eq_true rfl) ⟨Nat.zero_le _, Nat.zero_le _⟩ dX9_wins_55 rfl ?_
          refine v_aload_n hC dX9_wins_58 0 rfl ?_
          refine v_get (C := RX9) (T := TX9) (N := 45) (ci := 8) (k := 32) (v := .long (gJ s17 0 32)) hC hO0 hi_X9_wins_X9 rfl (by decide) (by decide) rfl rfl fl299_X9_wins dX9_wins_59 rfl ?_
          exact v_lret hC rfl dX9_wins_62 h
        · replace h := ift c_13 h
          refine v_aload_n hC dX9_wins_34 0 rfl ?_
          refine v_get (C := RX9) (T := TX9) (N := 45) (ci := 8) (k := 8) (v := .int (gI s10 0 8)) hC hO0 hi_X9_wins_X9 rfl (by decide) (by decide) rfl rfl fl74_X9_wins dX9_wins_35 rfl ?_
          obtain ⟨r20, s19, hc_18, h⟩ := bd2 h
          refine v_callSJ hC mE_ok (n := 1) (As := [.int (gI s10 0 8)]) (k_X9_all l hG hc_18) (va_cwS 1 hC.1.2.2.2.2 gX9_wins_X9_all rfl rfl rfl (by decide +kernel) ⟨(Nat.le_of_ble_eq_true rfl), (Nat.le_of_ble_eq_true rfl)⟩) rfl (Nat.le_of_ble_eq_true rfl) ⟨Nat.zero_le _, Nat.zero_le _⟩ dX9_wins_38 rfl ?_
          exact v_lret hC rfl dX9_wins_41 h
      · replace h := ift c_12 h
        refine v_ldc2 (v := (-4611686018427387904)) hC lc294_X9_wins dX9_wins_25 ?_
        exact v_lret hC rfl dX9_wins_28 h
theorem k_X9_wins (l : Launch) {G : WD}   {r0 : Int64} {τ : HS} {p1 : Int32} {p2 : Int32} {σ : HS}  (hG : GX G mY) (hO0 : Ob G mY 0 8) (h : c_X9_wins p1 p2 σ = some (r0, τ)) : MJ mE l yX9_wins wsX9_wins rmX9_wins G mY [.ref (G.2.2.1 0), .int p1, .int p2] σ r0 τ :=
  MJ.of RX9 (by decide) rfl rfl (Nat.le_of_ble_eq_true rfl) rfl rfl (fun p e s m below meth c hC => w_X9_wins  hG hO0 hC h)
abbrev rmX9_common : Room := { frames := 0, cells := 0, slots := 0, locals := 0 }
def c_X9_common_6 : Nat → Int64 → Int64 → HS → Option (Int64 × HS)
  | 0, _, _, _ => none
  | n + 1, x4, x6, σ => (if (lg_cmp x6 0) = 0 then (some (x4, σ)) else (if x6 = 0 then none else (c_X9_common_6 n x6 (lrm x4 x6) σ)))
set_option maxHeartbeats 4000000 in
set_option maxRecDepth 100000 in
theorem w_X9_common_6 {p : Program} {l : Launch} {e : Env} {s : State} {m : MethodId} {args : Array Value} {below : List Frame} {meth : Method} {c : Code} {A : Nat → Prop} {G : WD}  {r0 : Int64} {τ : HS}   (hG : GX G mY)  (hC : Cx mE G.1 G.2.1 mY cX9_common 10 (some .long) RX9 wsX9_common p s m args meth c A)  : ∀ (n : Nat) (x4 : Int64) (x6 : Int64) (σ : HS), c_X9_common_6 n x4 x6 σ = some (r0, τ) → V p l e rmX9_common s m args below meth c 10 A G mY 0 0 (MQ below (QJ G mY A r0 τ) args s 0 0 A) σ 6 [(4, .long x4), (6, .long x6)] [] := by
  intro n
  induction n with
  | zero => intro x4 x6 σ h; exact nof h
  | succ n ih =>
    intro x4 x6 σ h
    rw [c_X9_common_6] at h
    refine v_lload hC dX9_common_6 1 rfl ?_
    refine v_lconst (v := 0) hC dX9_common_8 (by decide) ?_
    refine v_lcmp hC dX9_common_9 ?_
    refine v_if_eq (tgt := 31) hC dX9_common_10 (by decide) (fun c_1 => ?_) (fun c_1 => ?_)
    · replace h := ift c_1 h
      refine v_lload hC dX9_common_31 0 rfl ?_
      exact v_lret hC rfl dX9_common_33 h
    · replace h := ifn c_1 h
      refine v_lload hC dX9_common_13 0 rfl ?_
      refine v_lload hC dX9_common_15 1 rfl ?_
      obtain ⟨g_2, h⟩ := gdn h
      refine v_lrem hC dX9_common_17 g_2 ?_
      refine v_lstore (L' := [(6, .long x6), (8, .long (lrm x4 x6))]) hC dX9_common_18 (by decide) [2, 0] rfl ?_
      refine v_lload hC dX9_common_20 0 rfl ?_
      refine v_lstore (L' := [(4, .long x6), (8, .long (lrm x4 x6))]) hC dX9_common_22 (by decide) [0, 2] rfl ?_
      refine v_lload hC dX9_common_24 1 rfl ?_
      refine v_lstore (L' := [(4, .long x6), (6, .long (lrm x4 x6))]) hC dX9_common_26 (by decide) [1, 0] rfl ?_
      refine v_goto (tgt := 6) hC dX9_common_28 (by decide) ?_
      exact ih _ _ _ h
def c_X9_common (p0 : Int64) (p2 : Int64) (σ : HS) : Option (Int64 × HS) := (c_X9_common_6 FU p0 p2 σ)
set_option maxHeartbeats 4000000 in
set_option maxRecDepth 100000 in
theorem w_X9_common {p : Program} {l : Launch} {e : Env} {s : State} {m : MethodId} {args : Array Value} {below : List Frame} {meth : Method} {c : Code} {A : Nat → Prop} {G : WD}  {r0 : Int64} {τ : HS} {p0 : Int64} {p2 : Int64} {σ : HS}  (hG : GX G mY)  (hC : Cx mE G.1 G.2.1 mY cX9_common 10 (some .long) RX9 wsX9_common p s m args meth c A) (h : c_X9_common p0 p2 σ = some (r0, τ)) : V p l e rmX9_common s m args below meth c 10 A G mY 0 0 (MQ below (QJ G mY A r0 τ) args s 0 0 A) σ 0 [(0, .long p0), (2, .long p2)] [] := by
  rw [c_X9_common] at h
  refine v_lload_n hC dX9_common_0 0 rfl ?_
  refine v_lstore (L' := [(2, .long p2), (4, .long p0)]) hC dX9_common_1 (by decide) [2, 0] rfl ?_
  refine v_lload_n hC dX9_common_3 0 rfl ?_
  refine v_lstore (L' := [(4, .long p0), (6, .long p2)]) hC dX9_common_4 (by decide) [2, 0] rfl ?_
  exact w_X9_common_6 hG hC FU _ _ _ h
theorem k_X9_common (l : Launch) {G : WD}   {r0 : Int64} {τ : HS} {p0 : Int64} {p2 : Int64} {σ : HS}  (hG : GX G mY)  (h : c_X9_common p0 p2 σ = some (r0, τ)) : MJ mE l yX9_common wsX9_common rmX9_common G mY [.long p0, .long p2] σ r0 τ :=
  MJ.of RX9 (by decide) rfl rfl (Nat.le_of_ble_eq_true rfl) rfl rfl (fun p e s m below meth c hC => w_X9_common  hG  hC h)
abbrev rmX9_mean : Room := { frames := 160, cells := 0, slots := 0, locals := 7219 }
def c_X9_mean_63 (y0 : Int64) (σ : HS) : Option (Int64 × HS) := (bi2 (c_X9_all (gI σ 0 8) σ) (fun r23 s22 => (bi2 (c_X9_common (gJ σ 0 33) r23 s22) (fun r26 s25 => (if r26 = 0 then none else (some ((y0 / r26), s25)))))))
set_option maxHeartbeats 4000000 in
set_option maxRecDepth 100000 in
theorem w_X9_mean_63 {p : Program} {l : Launch} {e : Env} {s : State} {m : MethodId} {args : Array Value} {below : List Frame} {meth : Method} {c : Code} {A : Nat → Prop} {G : WD}  {r0 : Int64} {τ : HS}  {y0 : Int64} {σ : HS}  (hG : GX G mY) (hO0 : Ob G mY 0 8) (hC : Cx mE G.1 G.2.1 mY cX9_mean 3 (some .long) RX9 wsX9_mean p s m args meth c A)  (h : c_X9_mean_63 y0 σ = some (r0, τ)) : V p l e rmX9_mean s m args below meth c 3 A G mY 0 0 (MQ below (QJ G mY A r0 τ) args s 0 0 A) σ 63 [(0, .ref (G.2.2.1 0))] [.long y0] := by
  rw [c_X9_mean_63] at h
  refine v_aload_n hC dX9_mean_63 0 rfl ?_
  refine v_get (C := RX9) (T := TX9) (N := 45) (ci := 8) (k := 33) (v := .long (gJ σ 0 33)) hC hO0 hi_X9_mean_X9 rfl (by decide) (by decide) rfl rfl fl302_X9_mean dX9_mean_64 rfl ?_
  refine v_aload_n hC dX9_mean_67 0 rfl ?_
  refine v_get (C := RX9) (T := TX9) (N := 45) (ci := 8) (k := 8) (v := .int (gI σ 0 8)) hC hO0 hi_X9_mean_X9 rfl (by decide) (by decide) rfl rfl fl74_X9_mean dX9_mean_68 rfl ?_
  obtain ⟨r23, s22, hc_21, h⟩ := bd2 h
  refine v_callSJ hC mE_ok (n := 1) (As := [.int (gI σ 0 8)]) (k_X9_all l hG hc_21) (va_cwS 1 hC.1.2.2.2.2 gX9_mean_X9_all rfl rfl rfl (by decide +kernel) ⟨(Nat.le_of_ble_eq_true rfl), (Nat.le_of_ble_eq_true rfl)⟩) rfl (Nat.le_of_ble_eq_true rfl) ⟨Nat.zero_le _, Nat.zero_le _⟩ dX9_mean_71 rfl ?_
  obtain ⟨r26, s25, hc_24, h⟩ := bd2 h
  refine v_callSJ hC mE_ok (n := 2) (As := [.long (gJ σ 0 33), .long r23]) (k_X9_common l hG hc_24) (va_cwS 2 hC.1.2.2.2.2 gX9_mean_X9_common rfl rfl rfl (by decide +kernel) ⟨(Nat.le_of_ble_eq_true rfl), (Nat.le_of_ble_eq_true rfl)⟩) rfl (Nat.le_of_ble_eq_true rfl) ⟨Nat.zero_le _, Nat.zero_le _⟩ dX9_mean_74 rfl ?_
  obtain ⟨g_27, h⟩ := gdn h
  refine v_ldiv hC dX9_mean_77 g_27 ?_
  exact v_lret hC rfl dX9_mean_78 h
def c_X9_mean (p1 : Int32) (p2 : Int32) (σ : HS) : Option (Int64 × HS) := (bi2 (c_X9_isPlan p1 σ) (fun r3 s2 => (if r3 = 0 then (some ((-4611686018427387904), s2)) else (bi2 (c_X9_in (Int32.toInt64 p2) 0 1 s2) (fun r7 s6 => (if r7 = 0 then (some ((-4611686018427387904), s6)) else (bi2 (c_X9_isFew s6) (fun r11 s10 => (if r11 = 0 then (some ((-4611686018427387904), s10)) else (if inb p1 8 = true then (if inb p1 8 = true then (bi1 (c_X9_goesAll (gI s10 5 (ix p1)) (gI s10 6 (ix p1)) s10) (fun s16 => (if p2 = 0 then (c_X9_mean_63 (gJ s16 0 33) s16) else (bi2 (c_X9_all (gI s16 0 8) s16) (fun r20 s19 => (c_X9_mean_63 r20 s19)))))) else none) else none))))))))))
set_option maxHeartbeats 4000000 in
set_option maxRecDepth 100000 in
theorem w_X9_mean {p : Program} {l : Launch} {e : Env} {s : State} {m : MethodId} {args : Array Value} {below : List Frame} {meth : Method} {c : Code} {A : Nat → Prop} {G : WD}  {r0 : Int64} {τ : HS} {p1 : Int32} {p2 : Int32} {σ : HS}  (hG : GX G mY) (hO0 : Ob G mY 0 8) (hC : Cx mE G.1 G.2.1 mY cX9_mean 3 (some .long) RX9 wsX9_mean p s m args meth c A) (h : c_X9_mean p1 p2 σ = some (r0, τ)) : V p l e rmX9_mean s m args below meth c 3 A G mY 0 0 (MQ below (QJ G mY A r0 τ) args s 0 0 A) σ 0 [(0, .ref (G.2.2.1 0)), (1, .int p1), (2, .int p2)] [] := by
  rw [c_X9_mean] at h
  refine v_aload_n hC dX9_mean_0 0 rfl ?_
  refine v_iload_n hC dX9_mean_1 1 rfl ?_
  obtain ⟨r3, s2, hc_1, h⟩ := bd2 h
  refine v_callVI hC mE_ok (n := 1) (As := [.int p1]) (k_X9_isPlan l hG (hO0) hc_1) (cwV 1 hC.1.2.2.2.2 gX9_mean_X9_isPlan rfl rfl rfl (by decide +kernel) ⟨(Nat.le_of_ble_eq_true rfl), (Nat.le_of_ble_eq_true rfl)⟩) hO0 (by decide) rfl rfl rfl (Nat.le_of_ble_eq_true rfl) ⟨Nat.zero_le _, Nat.zero_le _⟩ dX9_mean_2 rfl ?_
  refine v_if_eq (tgt := 25) hC dX9_mean_5 (by decide) (fun c_4 => ?_) (fun c_4 => ?_)
  · replace h := ift c_4 h
    refine v_ldc2 (v := (-4611686018427387904)) hC lc294_X9_mean dX9_mean_25 ?_
    exact v_lret hC rfl dX9_mean_28 h
  · replace h := ifn c_4 h
    refine v_iload_n hC dX9_mean_8 2 rfl ?_
    refine v_i2l hC dX9_mean_9 ?_
    refine v_lconst (v := 0) hC dX9_mean_10 (by decide) ?_
    refine v_lconst (v := 1) hC dX9_mean_11 (by decide) ?_
    obtain ⟨r7, s6, hc_5, h⟩ := bd2 h
    refine v_callSI hC mE_ok (n := 3) (As := [.long (Int32.toInt64 p2), .long 0, .long 1]) (k_X9_in l hG hc_5) (va_cwS 3 hC.1.2.2.2.2 gX9_mean_X9_in rfl rfl rfl (by decide +kernel) ⟨(Nat.le_of_ble_eq_true rfl), (Nat.le_of_ble_eq_true rfl)⟩) rfl (Nat.le_of_ble_eq_true rfl) ⟨Nat.zero_le _, Nat.zero_le _⟩ dX9_mean_12 rfl ?_
    refine v_if_eq (tgt := 25) hC dX9_mean_15 (by decide) (fun c_8 => ?_) (fun c_8 => ?_)
    · replace h := ift c_8 h
      refine v_ldc2 (v := (-4611686018427387904)) hC lc294_X9_mean dX9_mean_25 ?_
      exact v_lret hC rfl dX9_mean_28 h
    · replace h := ifn c_8 h
      refine v_aload_n hC dX9_mean_18 0 rfl ?_
      obtain ⟨r11, s10, hc_9, h⟩ := bd2 h
      refine v_callVI hC mE_ok (n := 0) (As := []) (k_X9_isFew l hG (hO0) hc_9) (cwV 0 hC.1.2.2.2.2 gX9_mean_X9_isFew rfl rfl rfl (by decide +kernel) ⟨(Nat.le_of_ble_eq_true rfl), (Nat.le_of_ble_eq_true rfl)⟩) hO0 (by decide) rfl rfl rfl (Nat.le_of_ble_eq_true rfl) ⟨Nat.zero_le _, Nat.zero_le _⟩ dX9_mean_19 rfl ?_
      refine v_if_ne (tgt := 29) hC dX9_mean_22 (by decide) (fun c_12 => ?_) (fun c_12 => ?_)
      · replace h := ifn c_12 h
        refine v_aload_n hC dX9_mean_29 0 rfl ?_
        refine v_aload_n hC dX9_mean_30 0 rfl ?_
        refine v_get (C := RX9) (T := TX9) (N := 45) (ci := 8) (k := 24) (v := .ref (G.2.2.1 5)) hC hO0 hi_X9_mean_X9 rfl (by decide) (by decide) rfl rfl fl26_X9_mean dX9_mean_31 rfl ?_
        refine v_iload_n hC dX9_mean_34 1 rfl ?_
        obtain ⟨g_13, h⟩ := gd h
        refine v_iald hC (obM_8_24 hG hO0).1 (obM_8_24 hG hO0).2 (t0 := 0) rfl g_13 dX9_mean_35 ?_
        refine v_aload_n hC dX9_mean_36 0 rfl ?_
        refine v_get (C := RX9) (T := TX9) (N := 45) (ci := 8) (k := 25) (v := .ref (G.2.2.1 6)) hC hO0 hi_X9_mean_X9 rfl (by decide) (by decide) rfl rfl fl29_X9_mean dX9_mean_37 rfl ?_
        refine v_iload_n hC dX9_mean_40 1 rfl ?_
        obtain ⟨g_14, h⟩ := gd h
        refine v_iald hC (obM_8_25 hG hO0).1 (obM_8_25 hG hO0).2 (t0 := 0) rfl g_14 dX9_mean_41 ?_
        obtain ⟨s16, hc_15, h⟩ := bd1 h
        refine v_callVV hC mE_ok (n := 2) (As := [.int (gI s10 5 (ix p1)), .int (gI s10 6 (ix p1))]) (k_X9_goesAll l hG (hO0) hc_15) (cwV 2 hC.1.2.2.2.2 gX9_mean_X9_goesAll rfl rfl rfl (by decide +kernel) ⟨(Nat.le_of_ble_eq_true rfl), (Nat.le_of_ble_eq_true rfl)⟩) hO0 (by decide) rfl rfl rfl (Nat.le_of_ble_eq_true rfl) ⟨Nat.zero_le _, Nat.zero_le _⟩ dX9_mean_42 rfl ?_
        refine v_iload_n hC dX9_mean_45 2 rfl ?_
        refine v_if_ne (tgt := 56) hC dX9_mean_46 (by decide) (fun c_17 => ?_) (fun c_17 => ?_)
        · replace h := ifn c_17 h
          refine v_aload_n hC dX9_mean_56 0 rfl ?_
          refine v_get (C := RX9) (T := TX9) (N := 45) (ci := 8) (k := 8) (v := .int (gI s16 0 8)) hC hO0 hi_X9_mean_X9 rfl (by decide) (by decide) rfl rfl fl74_X9_mean dX9_mean_57 rfl ?_
          obtain ⟨r20, s19, hc_18, h⟩ := bd2 h
          refine v_callSJ hC mE_ok (n := 1) (As := [.int (gI s16 0 8)]) (k_X9_all l hG hc_18) (va_cwS 1 hC.1.2.2.2.2 gX9_mean_X9_all rfl rfl rfl (by decide +kernel) ⟨(Nat.le_of_ble_eq_true rfl), (Nat.le_of_ble_eq_true rfl)⟩) rfl (Nat.le_of_ble_eq_true rfl) ⟨Nat.zero_le _, Nat.zero_le _⟩ dX9_mean_60 rfl ?_
          refine V.sub (L' := [(0, .ref (G.2.2.1 0))]) [0] rfl ?_
          exact w_X9_mean_63 hG (hO0) hC h
        · replace h := ift c_17 h
          refine v_aload_n hC dX9_mean_49 0 rfl ?_
          refine v_get (C := RX9) (T := TX9) (N := 45) (ci := 8) (k := 33) (v := .long (gJ s16 0 33)) hC hO0 hi_X9_mean_X9 rfl (by decide) (by decide) rfl rfl fl302_X9_mean dX9_mean_50 rfl ?_
          refine v_goto (tgt := 63) hC dX9_mean_53 (by decide) ?_
          refine V.sub (L' := [(0, .ref (G.2.2.1 0))]) [0] rfl ?_
          exact w_X9_mean_63 hG (hO0) hC h
      · replace h := ift c_12 h
        refine v_ldc2 (v := (-4611686018427387904)) hC lc294_X9_mean dX9_mean_25 ?_
        exact v_lret hC rfl dX9_mean_28 h
theorem k_X9_mean (l : Launch) {G : WD}   {r0 : Int64} {τ : HS} {p1 : Int32} {p2 : Int32} {σ : HS}  (hG : GX G mY) (hO0 : Ob G mY 0 8) (h : c_X9_mean p1 p2 σ = some (r0, τ)) : MJ mE l yX9_mean wsX9_mean rmX9_mean G mY [.ref (G.2.2.1 0), .int p1, .int p2] σ r0 τ :=
  MJ.of RX9 (by decide) rfl rfl (Nat.le_of_ble_eq_true rfl) rfl rfl (fun p e s m below meth c hC => w_X9_mean  hG hO0 hC h)
abbrev rmX9_worst : Room := { frames := 160, cells := 0, slots := 0, locals := 7219 }
def c_X9_worst (p1 : Int32) (p2 : Int32) (σ : HS) : Option (Int32 × HS) := (bi2 (c_X9_isPlan p1 σ) (fun r3 s2 => (if r3 = 0 then (some ((-2), s2)) else (bi2 (c_X9_in (Int32.toInt64 p2) 0 1 s2) (fun r7 s6 => (if r7 = 0 then (some ((-2), s6)) else (bi2 (c_X9_isFew s6) (fun r11 s10 => (if r11 = 0 then (some ((-3), s10)) else (if inb p1 8 = true then (if inb p1 8 = true then (bi1 (c_X9_goesAll (gI s10 5 (ix p1)) (gI s10 6 (ix p1)) s10) (fun s16 => (if p2 = 0 then (some ((gI s16 0 34), s16)) else (some ((gI s16 0 35), s16))))) else none) else none))))))))))
set_option maxHeartbeats 4000000 in
set_option maxRecDepth 100000 in
theorem w_X9_worst {p : Program} {l : Launch} {e : Env} {s : State} {m : MethodId} {args : Array Value} {below : List Frame} {meth : Method} {c : Code} {A : Nat → Prop} {G : WD}  {r0 : Int32} {τ : HS} {p1 : Int32} {p2 : Int32} {σ : HS}  (hG : GX G mY) (hO0 : Ob G mY 0 8) (hC : Cx mE G.1 G.2.1 mY cX9_worst 3 (some .int) RX9 wsX9_worst p s m args meth c A) (h : c_X9_worst p1 p2 σ = some (r0, τ)) : V p l e rmX9_worst s m args below meth c 3 A G mY 0 0 (MQ below (QI G mY A r0 τ) args s 0 0 A) σ 0 [(0, .ref (G.2.2.1 0)), (1, .int p1), (2, .int p2)] [] := by
  rw [c_X9_worst] at h
  refine v_aload_n hC dX9_worst_0 0 rfl ?_
  refine v_iload_n hC dX9_worst_1 1 rfl ?_
  obtain ⟨r3, s2, hc_1, h⟩ := bd2 h
  refine v_callVI hC mE_ok (n := 1) (As := [.int p1]) (k_X9_isPlan l hG (hO0) hc_1) (cwV 1 hC.1.2.2.2.2 gX9_worst_X9_isPlan rfl rfl rfl (by decide +kernel) ⟨(Nat.le_of_ble_eq_true rfl), (Nat.le_of_ble_eq_true rfl)⟩) hO0 (by decide) rfl rfl rfl (Nat.le_of_ble_eq_true rfl) ⟨Nat.zero_le _, Nat.zero_le _⟩ dX9_worst_2 rfl ?_
  refine v_if_eq (tgt := 18) hC dX9_worst_5 (by decide) (fun c_4 => ?_) (fun c_4 => ?_)
  · replace h := ift c_4 h
    refine v_bipush (v := (-2)) hC dX9_worst_18 (by decide) ?_
    exact v_iret hC rfl dX9_worst_20 h
  · replace h := ifn c_4 h
    refine v_iload_n hC dX9_worst_8 2 rfl ?_
    refine v_i2l hC dX9_worst_9 ?_
    refine v_lconst (v := 0) hC dX9_worst_10 (by decide) ?_
    refine v_lconst (v := 1) hC dX9_worst_11 (by decide) ?_
    obtain ⟨r7, s6, hc_5, h⟩ := bd2 h
    refine v_callSI hC mE_ok (n := 3) (As := [.long (Int32.toInt64 p2), .long 0, .long 1]) (k_X9_in l hG hc_5) (va_cwS 3 hC.1.2.2.2.2 gX9_worst_X9_in rfl rfl rfl (by decide +kernel) ⟨(Nat.le_of_ble_eq_true rfl), (Nat.le_of_ble_eq_true rfl)⟩) rfl (Nat.le_of_ble_eq_true rfl) ⟨Nat.zero_le _, Nat.zero_le _⟩ dX9_worst_12 rfl ?_
    refine v_if_ne (tgt := 21) hC dX9_worst_15 (by decide) (fun c_8 => ?_) (fun c_8 => ?_)
    · replace h := ifn c_8 h
      refine v_aload_n hC dX9_worst_21 0 rfl ?_
      obtain ⟨r11, s10, hc_9, h⟩ := bd2 h
      refine v_callVI hC mE_ok (n := 0) (As := []) (k_X9_isFew l hG (hO0) hc_9) (cwV 0 hC.1.2.2.2.2 gX9_worst_X9_isFew rfl rfl rfl (by decide +kernel) ⟨(Nat.le_of_ble_eq_true rfl), (Nat.le_of_ble_eq_true rfl)⟩) hO0 (by decide) rfl rfl rfl (Nat.le_of_ble_eq_true rfl) ⟨Nat.zero_le _, Nat.zero_le _⟩ dX9_worst_22 rfl ?_
      refine v_if_ne (tgt := 31) hC dX9_worst_25 (by decide) (fun c_12 => ?_) (fun c_12 => ?_)
      · replace h := ifn c_12 h
        refine v_aload_n hC dX9_worst_31 0 rfl ?_
        refine v_aload_n hC dX9_worst_32 0 rfl ?_
        refine v_get (C := RX9) (T := TX9) (N := 45) (ci := 8) (k := 24) (v := .ref (G.2.2.1 5)) hC hO0 hi_X9_worst_X9 rfl (by decide) (by decide) rfl rfl fl26_X9_worst dX9_worst_33 rfl ?_
        refine v_iload_n hC dX9_worst_36 1 rfl ?_
        obtain ⟨g_13, h⟩ := gd h
        refine v_iald hC (obM_8_24 hG hO0).1 (obM_8_24 hG hO0).2 (t0 := 0) rfl g_13 dX9_worst_37 ?_
        refine v_aload_n hC dX9_worst_38 0 rfl ?_
        refine v_get (C := RX9) (T := TX9) (N := 45) (ci := 8) (k := 25) (v := .ref (G.2.2.1 6)) hC hO0 hi_X9_worst_X9 rfl (by decide) (by decide) rfl rfl fl29_X9_worst dX9_worst_39 rfl ?_
        refine v_iload_n hC dX9_worst_42 1 rfl ?_
        obtain ⟨g_14, h⟩ := gd h
        refine v_iald hC (obM_8_25 hG hO0).1 (obM_8_25 hG hO0).2 (t0 := 0) rfl g_14 dX9_worst_43 ?_
        obtain ⟨s16, hc_15, h⟩ := bd1 h
        refine v_callVV hC mE_ok (n := 2) (As := [.int (gI s10 5 (ix p1)), .int (gI s10 6 (ix p1))]) (k_X9_goesAll l hG (hO0) hc_15) (cwV 2 hC.1.2.2.2.2 gX9_worst_X9_goesAll rfl rfl rfl (by decide +kernel) ⟨(Nat.le_of_ble_eq_true rfl), (Nat.le_of_ble_eq_true rfl)⟩) hO0 (by decide) rfl rfl rfl (Nat.le_of_ble_eq_true rfl) ⟨Nat.zero_le _, Nat.zero_le _⟩ dX9_worst_44 rfl ?_
        refine v_iload_n hC dX9_worst_47 2 rfl ?_
        refine v_if_ne (tgt := 58) hC dX9_worst_48 (by decide) (fun c_17 => ?_) (fun c_17 => ?_)
        · replace h := ifn c_17 h
          refine v_aload_n hC dX9_worst_58 0 rfl ?_
          refine v_get (C := RX9) (T := TX9) (N := 45) (ci := 8) (k := 35) (v := .int (gI s16 0 35)) hC hO0 hi_X9_worst_X9 rfl (by decide) (by decide) rfl rfl fl311_X9_worst dX9_worst_59 rfl ?_
          exact v_iret hC rfl dX9_worst_62 h
        · replace h := ift c_17 h
          refine v_aload_n hC dX9_worst_51 0 rfl ?_
          refine v_get (C := RX9) (T := TX9) (N := 45) (ci := 8) (k := 34) (v := .int (gI s16 0 34)) hC hO0 hi_X9_worst_X9 rfl (by decide) (by decide) rfl rfl fl305_X9_worst dX9_worst_52 rfl ?_
          refine v_goto (tgt := 62) hC dX9_worst_55 (by decide) ?_
          exact v_iret hC rfl dX9_worst_62 h
      · replace h := ift c_12 h
        refine v_bipush (v := (-3)) hC dX9_worst_28 (by decide) ?_
        exact v_iret hC rfl dX9_worst_30 h
    · replace h := ift c_8 h
      refine v_bipush (v := (-2)) hC dX9_worst_18 (by decide) ?_
      exact v_iret hC rfl dX9_worst_20 h
theorem k_X9_worst (l : Launch) {G : WD}   {r0 : Int32} {τ : HS} {p1 : Int32} {p2 : Int32} {σ : HS}  (hG : GX G mY) (hO0 : Ob G mY 0 8) (h : c_X9_worst p1 p2 σ = some (r0, τ)) : MI mE l yX9_worst wsX9_worst rmX9_worst G mY [.ref (G.2.2.1 0), .int p1, .int p2] σ r0 τ :=
  MI.of RX9 (by decide) rfl rfl (Nat.le_of_ble_eq_true rfl) rfl rfl (fun p e s m below meth c hC => w_X9_worst  hG hO0 hC h)
abbrev rmX9_drawsNow : Room := { frames := 159, cells := 0, slots := 0, locals := 7195 }
def c_X9_drawsNow_31 (k4 : Int32 → Int32 → HS → Option (Int32 × HS)) (x2 : Int32) (y0 : Int32) (y1 : Int32) (σ : HS) : Option (Int32 × HS) := (k4 (y0 + y1) (x2 + 1) σ)
set_option maxHeartbeats 4000000 in
set_option maxRecDepth 100000 in
theorem w_X9_drawsNow_31 {p : Program} {l : Launch} {e : Env} {s : State} {m : MethodId} {args : Array Value} {below : List Frame} {meth : Method} {c : Code} {A : Nat → Prop} {G : WD}  {r0 : Int32} {τ : HS}  {k4 : Int32 → Int32 → HS → Option (Int32 × HS)} {x2 : Int32} {y0 : Int32} {y1 : Int32} {σ : HS}  (hG : GX G mY) (hO0 : Ob G mY 0 8) (hC : Cx mE G.1 G.2.1 mY cX9_drawsNow 3 (some .int) RX9 wsX9_drawsNow p s m args meth c A) (hk4 : ∀ (x1 : Int32) (x2 : Int32) (σ : HS), k4 x1 x2 σ = some (r0, τ) → V p l e rmX9_drawsNow s m args below meth c 3 A G mY 0 0 (MQ below (QI G mY A r0 τ) args s 0 0 A) σ 4 [(0, .ref (G.2.2.1 0)), (1, .int x1), (2, .int x2)] []) (h : c_X9_drawsNow_31 k4 x2 y0 y1 σ = some (r0, τ)) : V p l e rmX9_drawsNow s m args below meth c 3 A G mY 0 0 (MQ below (QI G mY A r0 τ) args s 0 0 A) σ 31 [(0, .ref (G.2.2.1 0)), (2, .int x2)] [.int y1, .int y0] := by
  rw [c_X9_drawsNow_31] at h
  refine v_iadd hC dX9_drawsNow_31 ?_
  refine v_istore_n (L' := [(0, .ref (G.2.2.1 0)), (1, .int (y0 + y1)), (2, .int x2)]) hC dX9_drawsNow_32 (by decide) [1, 0, 2] rfl ?_
  refine v_iinc (v := (x2 + 1)) (L' := [(0, .ref (G.2.2.1 0)), (1, .int (y0 + y1)), (2, .int (x2 + 1))]) hC dX9_drawsNow_33 2 rfl rfl (by decide) [1, 2, 0] rfl ?_
  refine v_goto (tgt := 4) hC dX9_drawsNow_36 (by decide) ?_
  exact hk4 _ _ _ h
def c_X9_drawsNow_4 : Nat → Int32 → Int32 → HS → Option (Int32 × HS)
  | 0, _, _, _ => none
  | n + 1, x1, x2, σ => (if (gI σ 0 8) ≤ x2 then (some (x1, σ)) else (bi2 (c_X9_goHome 3 x2 σ) (fun r4 s3 => (if r4 = (gI s3 0 8) then (c_X9_drawsNow_31 (fun z0 z1 z2 => c_X9_drawsNow_4 n z0 z1 z2) x2 x1 1 s3) else (c_X9_drawsNow_31 (fun z0 z1 z2 => c_X9_drawsNow_4 n z0 z1 z2) x2 x1 0 s3)))))
set_option maxHeartbeats 4000000 in
set_option maxRecDepth 100000 in
theorem w_X9_drawsNow_4 {p : Program} {l : Launch} {e : Env} {s : State} {m : MethodId} {args : Array Value} {below : List Frame} {meth : Method} {c : Code} {A : Nat → Prop} {G : WD}  {r0 : Int32} {τ : HS}   (hG : GX G mY) (hO0 : Ob G mY 0 8) (hC : Cx mE G.1 G.2.1 mY cX9_drawsNow 3 (some .int) RX9 wsX9_drawsNow p s m args meth c A)  : ∀ (n : Nat) (x1 : Int32) (x2 : Int32) (σ : HS), c_X9_drawsNow_4 n x1 x2 σ = some (r0, τ) → V p l e rmX9_drawsNow s m args below meth c 3 A G mY 0 0 (MQ below (QI G mY A r0 τ) args s 0 0 A) σ 4 [(0, .ref (G.2.2.1 0)), (1, .int x1), (2, .int x2)] [] := by
  intro n
  induction n with
  | zero => intro x1 x2 σ h; exact nof h
  | succ n ih =>
    intro x1 x2 σ h
    rw [c_X9_drawsNow_4] at h
    refine v_iload_n hC dX9_drawsNow_4 2 rfl ?_
    refine v_aload_n hC dX9_drawsNow_5 0 rfl ?_
    refine v_get (C := RX9) (T := TX9) (N := 45) (ci := 8) (k := 8) (v := .int (gI σ 0 8)) hC hO0 hi_X9_drawsNow_X9 rfl (by decide) (by decide) rfl rfl fl74_X9_drawsNow dX9_drawsNow_6 rfl ?_
    refine v_icmp_ge (tgt := 39) hC dX9_drawsNow_9 (by decide) (fun c_1 => ?_) (fun c_1 => ?_)
    · replace h := ift c_1 h
      refine v_iload_n hC dX9_drawsNow_39 1 rfl ?_
      exact v_iret hC rfl dX9_drawsNow_40 h
    · replace h := ifn c_1 h
      refine v_iload_n hC dX9_drawsNow_12 1 rfl ?_
      refine v_aload_n hC dX9_drawsNow_13 0 rfl ?_
      refine v_iconst (v := 3) hC dX9_drawsNow_14 (by decide) ?_
      refine v_iload_n hC dX9_drawsNow_15 2 rfl ?_
      obtain ⟨r4, s3, hc_2, h⟩ := bd2 h
      refine v_callVI hC mE_ok (n := 2) (As := [.int 3, .int x2]) (k_X9_goHome l hG (hO0) hc_2) (cwV 2 hC.1.2.2.2.2 gX9_drawsNow_X9_goHome rfl rfl rfl (by decide +kernel) ⟨(Nat.le_of_ble_eq_true rfl), (Nat.le_of_ble_eq_true rfl)⟩) hO0 (by decide) rfl rfl rfl (Nat.le_of_ble_eq_true rfl) ⟨Nat.zero_le _, Nat.zero_le _⟩ dX9_drawsNow_16 rfl ?_
      refine v_aload_n hC dX9_drawsNow_19 0 rfl ?_
      refine v_get (C := RX9) (T := TX9) (N := 45) (ci := 8) (k := 8) (v := .int (gI s3 0 8)) hC hO0 hi_X9_drawsNow_X9 rfl (by decide) (by decide) rfl rfl fl74_X9_drawsNow dX9_drawsNow_20 rfl ?_
      refine v_icmp_ne (tgt := 30) hC dX9_drawsNow_23 (by decide) (fun c_5 => ?_) (fun c_5 => ?_)
      · replace h := ifn c_5 h
        refine v_iconst (v := 0) hC dX9_drawsNow_30 (by decide) ?_
        refine V.sub (L' := [(0, .ref (G.2.2.1 0)), (2, .int x2)]) [0, 2] rfl ?_
        exact w_X9_drawsNow_31 hG (hO0) hC (fun _ _ _ h => ih _ _ _ h) h
      · replace h := ift c_5 h
        refine v_iconst (v := 1) hC dX9_drawsNow_26 (by decide) ?_
        refine v_goto (tgt := 31) hC dX9_drawsNow_27 (by decide) ?_
        refine V.sub (L' := [(0, .ref (G.2.2.1 0)), (2, .int x2)]) [0, 2] rfl ?_
        exact w_X9_drawsNow_31 hG (hO0) hC (fun _ _ _ h => ih _ _ _ h) h
def c_X9_drawsNow (σ : HS) : Option (Int32 × HS) := (c_X9_drawsNow_4 FU 0 0 σ)
set_option maxHeartbeats 4000000 in
set_option maxRecDepth 100000 in
theorem w_X9_drawsNow {p : Program} {l : Launch} {e : Env} {s : State} {m : MethodId} {args : Array Value} {below : List Frame} {meth : Method} {c : Code} {A : Nat → Prop} {G : WD}  {r0 : Int32} {τ : HS}  {σ : HS}  (hG : GX G mY) (hO0 : Ob G mY 0 8) (hC : Cx mE G.1 G.2.1 mY cX9_drawsNow 3 (some .int) RX9 wsX9_drawsNow p s m args meth c A) (h : c_X9_drawsNow  σ = some (r0, τ)) : V p l e rmX9_drawsNow s m args below meth c 3 A G mY 0 0 (MQ below (QI G mY A r0 τ) args s 0 0 A) σ 0 [(0, .ref (G.2.2.1 0))] [] := by
  rw [c_X9_drawsNow] at h
  refine v_iconst (v := 0) hC dX9_drawsNow_0 (by decide) ?_
  refine v_istore_n (L' := [(0, .ref (G.2.2.1 0)), (1, .int 0)]) hC dX9_drawsNow_1 (by decide) [1, 0] rfl ?_
  refine v_iconst (v := 0) hC dX9_drawsNow_2 (by decide) ?_
  refine v_istore_n (L' := [(0, .ref (G.2.2.1 0)), (1, .int 0), (2, .int 0)]) hC dX9_drawsNow_3 (by decide) [1, 2, 0] rfl ?_
  exact w_X9_drawsNow_4 hG (hO0) hC FU _ _ _ h
theorem k_X9_drawsNow (l : Launch) {G : WD}   {r0 : Int32} {τ : HS}  {σ : HS}  (hG : GX G mY) (hO0 : Ob G mY 0 8) (h : c_X9_drawsNow  σ = some (r0, τ)) : MI mE l yX9_drawsNow wsX9_drawsNow rmX9_drawsNow G mY [.ref (G.2.2.1 0)] σ r0 τ :=
  MI.of RX9 (by decide) rfl rfl (Nat.le_of_ble_eq_true rfl) rfl rfl (fun p e s m below meth c hC => w_X9_drawsNow  hG hO0 hC h)
abbrev rmX9_draws : Room := { frames := 160, cells := 0, slots := 0, locals := 7217 }
def c_X9_draws_63 (k41 : Int32 → Int32 → HS → Option (Int32 × HS)) (y0 : Int32) (σ : HS) : Option (Int32 × HS) := (bi2 (c_X9_goesOn σ) (fun r24 s23 => (k41 y0 r24 s23)))
set_option maxHeartbeats 4000000 in
set_option maxRecDepth 100000 in
theorem w_X9_draws_63 {p : Program} {l : Launch} {e : Env} {s : State} {m : MethodId} {args : Array Value} {below : List Frame} {meth : Method} {c : Code} {A : Nat → Prop} {G : WD}  {r0 : Int32} {τ : HS}  {k41 : Int32 → Int32 → HS → Option (Int32 × HS)} {y0 : Int32} {σ : HS}  (hG : GX G mY) (hO0 : Ob G mY 0 8) (hC : Cx mE G.1 G.2.1 mY cX9_draws 5 (some .int) RX9 wsX9_draws p s m args meth c A) (hk41 : ∀ (x2 : Int32) (x3 : Int32) (σ : HS), k41 x2 x3 σ = some (r0, τ) → V p l e rmX9_draws s m args below meth c 5 A G mY 0 0 (MQ below (QI G mY A r0 τ) args s 0 0 A) σ 41 [(0, .ref (G.2.2.1 0)), (2, .int x2), (3, .int x3)] []) (h : c_X9_draws_63 k41 y0 σ = some (r0, τ)) : V p l e rmX9_draws s m args below meth c 5 A G mY 0 0 (MQ below (QI G mY A r0 τ) args s 0 0 A) σ 63 [(0, .ref (G.2.2.1 0))] [.int y0] := by
  rw [c_X9_draws_63] at h
  refine v_istore_n (L' := [(0, .ref (G.2.2.1 0)), (2, .int y0)]) hC dX9_draws_63 (by decide) [1, 0] rfl ?_
  refine v_aload_n hC dX9_draws_64 0 rfl ?_
  obtain ⟨r24, s23, hc_22, h⟩ := bd2 h
  refine v_callVI hC mE_ok (n := 0) (As := []) (k_X9_goesOn l hG (hO0) hc_22) (cwV 0 hC.1.2.2.2.2 gX9_draws_X9_goesOn rfl rfl rfl (by decide +kernel) ⟨(Nat.le_of_ble_eq_true rfl), (Nat.le_of_ble_eq_true rfl)⟩) hO0 (by decide) rfl rfl rfl (Nat.le_of_ble_eq_true rfl) ⟨Nat.zero_le _, Nat.zero_le _⟩ dX9_draws_65 rfl ?_
  refine v_istore_n (L' := [(0, .ref (G.2.2.1 0)), (2, .int y0), (3, .int r24)]) hC dX9_draws_68 (by decide) [1, 2, 0] rfl ?_
  refine v_goto (tgt := 41) hC dX9_draws_69 (by decide) ?_
  exact hk41 _ _ _ h
def c_X9_draws_72 (x2 : Int32) (σ : HS) : Option (Int32 × HS) := (bi1 (c_X9_laysBack σ) (fun s21 => (some (x2, s21))))
set_option maxHeartbeats 4000000 in
set_option maxRecDepth 100000 in
theorem w_X9_draws_72 {p : Program} {l : Launch} {e : Env} {s : State} {m : MethodId} {args : Array Value} {below : List Frame} {meth : Method} {c : Code} {A : Nat → Prop} {G : WD}  {r0 : Int32} {τ : HS}  {x2 : Int32} {σ : HS}  (hG : GX G mY) (hO0 : Ob G mY 0 8) (hC : Cx mE G.1 G.2.1 mY cX9_draws 5 (some .int) RX9 wsX9_draws p s m args meth c A)  (h : c_X9_draws_72 x2 σ = some (r0, τ)) : V p l e rmX9_draws s m args below meth c 5 A G mY 0 0 (MQ below (QI G mY A r0 τ) args s 0 0 A) σ 72 [(0, .ref (G.2.2.1 0)), (2, .int x2)] [] := by
  rw [c_X9_draws_72] at h
  refine v_aload_n hC dX9_draws_72 0 rfl ?_
  obtain ⟨s21, hc_20, h⟩ := bd1 h
  refine v_callVV hC mE_ok (n := 0) (As := []) (k_X9_laysBack l hG (hO0) hc_20) (cwV 0 hC.1.2.2.2.2 gX9_draws_X9_laysBack rfl rfl rfl (by decide +kernel) ⟨(Nat.le_of_ble_eq_true rfl), (Nat.le_of_ble_eq_true rfl)⟩) hO0 (by decide) rfl rfl rfl (Nat.le_of_ble_eq_true rfl) ⟨Nat.zero_le _, Nat.zero_le _⟩ dX9_draws_73 rfl ?_
  refine v_iload_n hC dX9_draws_76 1 rfl ?_
  exact v_iret hC rfl dX9_draws_77 h
def c_X9_draws_41 : Nat → Int32 → Int32 → HS → Option (Int32 × HS)
  | 0, _, _, _ => none
  | n + 1, x2, x3, σ => (if x3 = 0 then (c_X9_draws_72 x2 σ) else (bi2 (c_X9_drawsNow σ) (fun r18 s17 => (if x2 ≤ r18 then (c_X9_draws_63 (fun z0 z1 z2 => c_X9_draws_41 n z0 z1 z2) x2 s17) else (c_X9_draws_63 (fun z0 z1 z2 => c_X9_draws_41 n z0 z1 z2) r18 s17)))))
set_option maxHeartbeats 4000000 in
set_option maxRecDepth 100000 in
theorem w_X9_draws_41 {p : Program} {l : Launch} {e : Env} {s : State} {m : MethodId} {args : Array Value} {below : List Frame} {meth : Method} {c : Code} {A : Nat → Prop} {G : WD}  {r0 : Int32} {τ : HS}   (hG : GX G mY) (hO0 : Ob G mY 0 8) (hC : Cx mE G.1 G.2.1 mY cX9_draws 5 (some .int) RX9 wsX9_draws p s m args meth c A)  : ∀ (n : Nat) (x2 : Int32) (x3 : Int32) (σ : HS), c_X9_draws_41 n x2 x3 σ = some (r0, τ) → V p l e rmX9_draws s m args below meth c 5 A G mY 0 0 (MQ below (QI G mY A r0 τ) args s 0 0 A) σ 41 [(0, .ref (G.2.2.1 0)), (2, .int x2), (3, .int x3)] [] := by
  intro n
  induction n with
  | zero => intro x2 x3 σ h; exact nof h
  | succ n ih =>
    intro x2 x3 σ h
    rw [c_X9_draws_41] at h
    refine v_iload_n hC dX9_draws_41 2 rfl ?_
    refine v_if_eq (tgt := 72) hC dX9_draws_42 (by decide) (fun c_15 => ?_) (fun c_15 => ?_)
    · replace h := ift c_15 h
      refine V.sub (L' := [(0, .ref (G.2.2.1 0)), (2, .int x2)]) [0, 1] rfl ?_
      exact w_X9_draws_72 hG (hO0) hC h
    · replace h := ifn c_15 h
      refine v_aload_n hC dX9_draws_45 0 rfl ?_
      obtain ⟨r18, s17, hc_16, h⟩ := bd2 h
      refine v_callVI hC mE_ok (n := 0) (As := []) (k_X9_drawsNow l hG (hO0) hc_16) (cwV 0 hC.1.2.2.2.2 gX9_draws_X9_drawsNow rfl rfl rfl (by decide +kernel) ⟨(Nat.le_of_ble_eq_true rfl), (Nat.le_of_ble_eq_true rfl)⟩) hO0 (by decide) rfl rfl rfl (Nat.le_of_ble_eq_true rfl) ⟨Nat.zero_le _, Nat.zero_le _⟩ dX9_draws_46 rfl ?_
      refine v_istore (L' := [(0, .ref (G.2.2.1 0)), (2, .int x2), (4, .int r18)]) hC dX9_draws_49 (by decide) [1, 2, 0] rfl ?_
      refine v_iload hC dX9_draws_51 2 rfl ?_
      refine v_iload_n hC dX9_draws_53 1 rfl ?_
      refine v_icmp_ge (tgt := 62) hC dX9_draws_54 (by decide) (fun c_19 => ?_) (fun c_19 => ?_)
      · replace h := ift c_19 h
        refine v_iload_n hC dX9_draws_62 1 rfl ?_
        refine V.sub (L' := [(0, .ref (G.2.2.1 0))]) [0] rfl ?_
        exact w_X9_draws_63 hG (hO0) hC (fun _ _ _ h => ih _ _ _ h) h
      · replace h := ifn c_19 h
        refine v_iload hC dX9_draws_57 2 rfl ?_
        refine v_goto (tgt := 63) hC dX9_draws_59 (by decide) ?_
        refine V.sub (L' := [(0, .ref (G.2.2.1 0))]) [0] rfl ?_
        exact w_X9_draws_63 hG (hO0) hC (fun _ _ _ h => ih _ _ _ h) h
def c_X9_draws (p1 : Int32) (σ : HS) : Option (Int32 × HS) := (bi2 (c_X9_in (Int32.toInt64 p1) 0 1 σ) (fun r3 s2 => (if r3 = 0 then (some ((-2), s2)) else (if p1 = 0 then (bi2 (c_X9_drawsNow s2) (fun r14 s13 => (some (r14, s13)))) else (bi2 (c_X9_isFew s2) (fun r8 s7 => (if r8 = 0 then (some ((-3), s7)) else (bi1 (c_X9_putsAside s7) (fun s11 => (c_X9_draws_41 FU 12 1 s11))))))))))
set_option maxHeartbeats 4000000 in
set_option maxRecDepth 100000 in
theorem w_X9_draws {p : Program} {l : Launch} {e : Env} {s : State} {m : MethodId} {args : Array Value} {below : List Frame} {meth : Method} {c : Code} {A : Nat → Prop} {G : WD}  {r0 : Int32} {τ : HS} {p1 : Int32} {σ : HS}  (hG : GX G mY) (hO0 : Ob G mY 0 8) (hC : Cx mE G.1 G.2.1 mY cX9_draws 5 (some .int) RX9 wsX9_draws p s m args meth c A) (h : c_X9_draws p1 σ = some (r0, τ)) : V p l e rmX9_draws s m args below meth c 5 A G mY 0 0 (MQ below (QI G mY A r0 τ) args s 0 0 A) σ 0 [(0, .ref (G.2.2.1 0)), (1, .int p1)] [] := by
  rw [c_X9_draws] at h
  refine v_iload_n hC dX9_draws_0 1 rfl ?_
  refine v_i2l hC dX9_draws_1 ?_
  refine v_lconst (v := 0) hC dX9_draws_2 (by decide) ?_
  refine v_lconst (v := 1) hC dX9_draws_3 (by decide) ?_
  obtain ⟨r3, s2, hc_1, h⟩ := bd2 h
  refine v_callSI hC mE_ok (n := 3) (As := [.long (Int32.toInt64 p1), .long 0, .long 1]) (k_X9_in l hG hc_1) (va_cwS 3 hC.1.2.2.2.2 gX9_draws_X9_in rfl rfl rfl (by decide +kernel) ⟨(Nat.le_of_ble_eq_true rfl), (Nat.le_of_ble_eq_true rfl)⟩) rfl (Nat.le_of_ble_eq_true rfl) ⟨Nat.zero_le _, Nat.zero_le _⟩ dX9_draws_4 rfl ?_
  refine v_if_ne (tgt := 13) hC dX9_draws_7 (by decide) (fun c_4 => ?_) (fun c_4 => ?_)
  · replace h := ifn c_4 h
    refine v_iload_n hC dX9_draws_13 1 rfl ?_
    refine v_if_ne (tgt := 22) hC dX9_draws_14 (by decide) (fun c_5 => ?_) (fun c_5 => ?_)
    · replace h := ifn c_5 h
      refine v_aload_n hC dX9_draws_22 0 rfl ?_
      obtain ⟨r8, s7, hc_6, h⟩ := bd2 h
      refine v_callVI hC mE_ok (n := 0) (As := []) (k_X9_isFew l hG (hO0) hc_6) (cwV 0 hC.1.2.2.2.2 gX9_draws_X9_isFew rfl rfl rfl (by decide +kernel) ⟨(Nat.le_of_ble_eq_true rfl), (Nat.le_of_ble_eq_true rfl)⟩) hO0 (by decide) rfl rfl rfl (Nat.le_of_ble_eq_true rfl) ⟨Nat.zero_le _, Nat.zero_le _⟩ dX9_draws_23 rfl ?_
      refine v_if_ne (tgt := 32) hC dX9_draws_26 (by decide) (fun c_9 => ?_) (fun c_9 => ?_)
      · replace h := ifn c_9 h
        refine v_aload_n hC dX9_draws_32 0 rfl ?_
        obtain ⟨s11, hc_10, h⟩ := bd1 h
        refine v_callVV hC mE_ok (n := 0) (As := []) (k_X9_putsAside l hG (hO0) hc_10) (cwV 0 hC.1.2.2.2.2 gX9_draws_X9_putsAside rfl rfl rfl (by decide +kernel) ⟨(Nat.le_of_ble_eq_true rfl), (Nat.le_of_ble_eq_true rfl)⟩) hO0 (by decide) rfl rfl rfl (Nat.le_of_ble_eq_true rfl) ⟨Nat.zero_le _, Nat.zero_le _⟩ dX9_draws_33 rfl ?_
        refine v_bipush (v := 12) hC dX9_draws_36 (by decide) ?_
        refine v_istore_n (L' := [(0, .ref (G.2.2.1 0)), (2, .int 12)]) hC dX9_draws_38 (by decide) [1, 0] rfl ?_
        refine v_iconst (v := 1) hC dX9_draws_39 (by decide) ?_
        refine v_istore_n (L' := [(0, .ref (G.2.2.1 0)), (2, .int 12), (3, .int 1)]) hC dX9_draws_40 (by decide) [1, 2, 0] rfl ?_
        exact w_X9_draws_41 hG (hO0) hC FU _ _ _ h
      · replace h := ift c_9 h
        refine v_bipush (v := (-3)) hC dX9_draws_29 (by decide) ?_
        exact v_iret hC rfl dX9_draws_31 h
    · replace h := ift c_5 h
      refine v_aload_n hC dX9_draws_17 0 rfl ?_
      obtain ⟨r14, s13, hc_12, h⟩ := bd2 h
      refine v_callVI hC mE_ok (n := 0) (As := []) (k_X9_drawsNow l hG (hO0) hc_12) (cwV 0 hC.1.2.2.2.2 gX9_draws_X9_drawsNow rfl rfl rfl (by decide +kernel) ⟨(Nat.le_of_ble_eq_true rfl), (Nat.le_of_ble_eq_true rfl)⟩) hO0 (by decide) rfl rfl rfl (Nat.le_of_ble_eq_true rfl) ⟨Nat.zero_le _, Nat.zero_le _⟩ dX9_draws_18 rfl ?_
      exact v_iret hC rfl dX9_draws_21 h
  · replace h := ift c_4 h
    refine v_bipush (v := (-2)) hC dX9_draws_10 (by decide) ?_
    exact v_iret hC rfl dX9_draws_12 h
theorem k_X9_draws (l : Launch) {G : WD}   {r0 : Int32} {τ : HS} {p1 : Int32} {σ : HS}  (hG : GX G mY) (hO0 : Ob G mY 0 8) (h : c_X9_draws p1 σ = some (r0, τ)) : MI mE l yX9_draws wsX9_draws rmX9_draws G mY [.ref (G.2.2.1 0), .int p1] σ r0 τ :=
  MI.of RX9 (by decide) rfl rfl (Nat.le_of_ble_eq_true rfl) rfl rfl (fun p e s m below meth c hC => w_X9_draws  hG hO0 hC h)
abbrev rmX9_costs : Room := { frames := 160, cells := 0, slots := 0, locals := 7219 }
def c_X9_costs (p1 : Int32) (σ : HS) : Option (Int64 × HS) := (bi2 (c_X9_isPlan p1 σ) (fun r3 s2 => (if r3 = 0 then (some ((-4611686018427387904), s2)) else (bi2 (c_X9_isFew s2) (fun r7 s6 => (if r7 = 0 then (some ((-4611686018427387904), s6)) else (bi1 (c_X9_goesAll 2 0 s6) (fun s10 => (if inb p1 8 = true then (if inb p1 8 = true then (bi1 (c_X9_goesAll (gI s10 5 (ix p1)) (gI s10 6 (ix p1)) s10) (fun s14 => (some (((gJ s10 0 33) - (gJ s14 0 33)), s14)))) else none) else none)))))))))
set_option maxHeartbeats 4000000 in
set_option maxRecDepth 100000 in
theorem w_X9_costs {p : Program} {l : Launch} {e : Env} {s : State} {m : MethodId} {args : Array Value} {below : List Frame} {meth : Method} {c : Code} {A : Nat → Prop} {G : WD}  {r0 : Int64} {τ : HS} {p1 : Int32} {σ : HS}  (hG : GX G mY) (hO0 : Ob G mY 0 8) (hC : Cx mE G.1 G.2.1 mY cX9_costs 4 (some .long) RX9 wsX9_costs p s m args meth c A) (h : c_X9_costs p1 σ = some (r0, τ)) : V p l e rmX9_costs s m args below meth c 4 A G mY 0 0 (MQ below (QJ G mY A r0 τ) args s 0 0 A) σ 0 [(0, .ref (G.2.2.1 0)), (1, .int p1)] [] := by
  rw [c_X9_costs] at h
  refine v_aload_n hC dX9_costs_0 0 rfl ?_
  refine v_iload_n hC dX9_costs_1 1 rfl ?_
  obtain ⟨r3, s2, hc_1, h⟩ := bd2 h
  refine v_callVI hC mE_ok (n := 1) (As := [.int p1]) (k_X9_isPlan l hG (hO0) hc_1) (cwV 1 hC.1.2.2.2.2 gX9_costs_X9_isPlan rfl rfl rfl (by decide +kernel) ⟨(Nat.le_of_ble_eq_true rfl), (Nat.le_of_ble_eq_true rfl)⟩) hO0 (by decide) rfl rfl rfl (Nat.le_of_ble_eq_true rfl) ⟨Nat.zero_le _, Nat.zero_le _⟩ dX9_costs_2 rfl ?_
  refine v_if_eq (tgt := 15) hC dX9_costs_5 (by decide) (fun c_4 => ?_) (fun c_4 => ?_)
  · replace h := ift c_4 h
    refine v_ldc2 (v := (-4611686018427387904)) hC lc294_X9_costs dX9_costs_15 ?_
    exact v_lret hC rfl dX9_costs_18 h
  · replace h := ifn c_4 h
    refine v_aload_n hC dX9_costs_8 0 rfl ?_
    obtain ⟨r7, s6, hc_5, h⟩ := bd2 h
    refine v_callVI hC mE_ok (n := 0) (As := []) (k_X9_isFew l hG (hO0) hc_5) (cwV 0 hC.1.2.2.2.2 gX9_costs_X9_isFew rfl rfl rfl (by decide +kernel) ⟨(Nat.le_of_ble_eq_true rfl), (Nat.le_of_ble_eq_true rfl)⟩) hO0 (by decide) rfl rfl rfl (Nat.le_of_ble_eq_true rfl) ⟨Nat.zero_le _, Nat.zero_le _⟩ dX9_costs_9 rfl ?_
    refine v_if_ne (tgt := 19) hC dX9_costs_12 (by decide) (fun c_8 => ?_) (fun c_8 => ?_)
    · replace h := ifn c_8 h
      refine v_aload_n hC dX9_costs_19 0 rfl ?_
      refine v_iconst (v := 2) hC dX9_costs_20 (by decide) ?_
      refine v_iconst (v := 0) hC dX9_costs_21 (by decide) ?_
      obtain ⟨s10, hc_9, h⟩ := bd1 h
      refine v_callVV hC mE_ok (n := 2) (As := [.int 2, .int 0]) (k_X9_goesAll l hG (hO0) hc_9) (cwV 2 hC.1.2.2.2.2 gX9_costs_X9_goesAll rfl rfl rfl (by decide +kernel) ⟨(Nat.le_of_ble_eq_true rfl), (Nat.le_of_ble_eq_true rfl)⟩) hO0 (by decide) rfl rfl rfl (Nat.le_of_ble_eq_true rfl) ⟨Nat.zero_le _, Nat.zero_le _⟩ dX9_costs_22 rfl ?_
      refine v_aload_n hC dX9_costs_25 0 rfl ?_
      refine v_get (C := RX9) (T := TX9) (N := 45) (ci := 8) (k := 33) (v := .long (gJ s10 0 33)) hC hO0 hi_X9_costs_X9 rfl (by decide) (by decide) rfl rfl fl302_X9_costs dX9_costs_26 rfl ?_
      refine v_lstore_n (L' := [(0, .ref (G.2.2.1 0)), (1, .int p1), (2, .long (gJ s10 0 33))]) hC dX9_costs_29 (by decide) [1, 2, 0] rfl ?_
      refine v_aload_n hC dX9_costs_30 0 rfl ?_
      refine v_aload_n hC dX9_costs_31 0 rfl ?_
      refine v_get (C := RX9) (T := TX9) (N := 45) (ci := 8) (k := 24) (v := .ref (G.2.2.1 5)) hC hO0 hi_X9_costs_X9 rfl (by decide) (by decide) rfl rfl fl26_X9_costs dX9_costs_32 rfl ?_
      refine v_iload_n hC dX9_costs_35 1 rfl ?_
      obtain ⟨g_11, h⟩ := gd h
      refine v_iald hC (obM_8_24 hG hO0).1 (obM_8_24 hG hO0).2 (t0 := 0) rfl g_11 dX9_costs_36 ?_
      refine v_aload_n hC dX9_costs_37 0 rfl ?_
      refine v_get (C := RX9) (T := TX9) (N := 45) (ci := 8) (k := 25) (v := .ref (G.2.2.1 6)) hC hO0 hi_X9_costs_X9 rfl (by decide) (by decide) rfl rfl fl29_X9_costs dX9_costs_38 rfl ?_
      refine v_iload_n hC dX9_costs_41 1 rfl ?_
      obtain ⟨g_12, h⟩ := gd h
      refine v_iald hC (obM_8_25 hG hO0).1 (obM_8_25 hG hO0).2 (t0 := 0) rfl g_12 dX9_costs_42 ?_
      obtain ⟨s14, hc_13, h⟩ := bd1 h
      refine v_callVV hC mE_ok (n := 2) (As := [.int (gI s10 5 (ix p1)), .int (gI s10 6 (ix p1))]) (k_X9_goesAll l hG (hO0) hc_13) (cwV 2 hC.1.2.2.2.2 gX9_costs_X9_goesAll rfl rfl rfl (by decide +kernel) ⟨(Nat.le_of_ble_eq_true rfl), (Nat.le_of_ble_eq_true rfl)⟩) hO0 (by decide) rfl rfl rfl (Nat.le_of_ble_eq_true rfl) ⟨Nat.zero_le _, Nat.zero_le _⟩ dX9_costs_43 rfl ?_
      refine v_lload_n hC dX9_costs_46 2 rfl ?_
      refine v_aload_n hC dX9_costs_47 0 rfl ?_
      refine v_get (C := RX9) (T := TX9) (N := 45) (ci := 8) (k := 33) (v := .long (gJ s14 0 33)) hC hO0 hi_X9_costs_X9 rfl (by decide) (by decide) rfl rfl fl302_X9_costs dX9_costs_48 rfl ?_
      refine v_lsub hC dX9_costs_51 ?_
      exact v_lret hC rfl dX9_costs_52 h
    · replace h := ift c_8 h
      refine v_ldc2 (v := (-4611686018427387904)) hC lc294_X9_costs dX9_costs_15 ?_
      exact v_lret hC rfl dX9_costs_18 h
theorem k_X9_costs (l : Launch) {G : WD}   {r0 : Int64} {τ : HS} {p1 : Int32} {σ : HS}  (hG : GX G mY) (hO0 : Ob G mY 0 8) (h : c_X9_costs p1 σ = some (r0, τ)) : MJ mE l yX9_costs wsX9_costs rmX9_costs G mY [.ref (G.2.2.1 0), .int p1] σ r0 τ :=
  MJ.of RX9 (by decide) rfl rfl (Nat.le_of_ble_eq_true rfl) rfl rfl (fun p e s m below meth c hC => w_X9_costs  hG hO0 hC h)
abbrev rmX9_help : Room := { frames := 2, cells := 0, slots := 0, locals := 49 }
def c_X9_help_98 (k29 : Int32 → Int32 → Int32 → Int32 → HS → Option (Int32 × HS)) (k44 : Int32 → Int32 → Int32 → Int32 → Int32 → HS → Option (Int32 × HS)) (x1 : Int32) (x2 : Int32) (x3 : Int32) (x4 : Int32) (x5 : Int32) (σ : HS) : Option (Int32 × HS) := (k44 x1 x2 x3 x4 (x5 + 1) σ)
set_option maxHeartbeats 4000000 in
set_option maxRecDepth 100000 in
theorem w_X9_help_98 {p : Program} {l : Launch} {e : Env} {s : State} {m : MethodId} {args : Array Value} {below : List Frame} {meth : Method} {c : Code} {A : Nat → Prop} {G : WD}  {r0 : Int32} {τ : HS}  {k29 : Int32 → Int32 → Int32 → Int32 → HS → Option (Int32 × HS)} {k44 : Int32 → Int32 → Int32 → Int32 → Int32 → HS → Option (Int32 × HS)} {x1 : Int32} {x2 : Int32} {x3 : Int32} {x4 : Int32} {x5 : Int32} {σ : HS}  (hG : GX G mY) (hO0 : Ob G mY 0 8) (hC : Cx mE G.1 G.2.1 mY cX9_help 6 (some .int) RX9 wsX9_help p s m args meth c A) (hk29 : ∀ (x1 : Int32) (x2 : Int32) (x3 : Int32) (x4 : Int32) (σ : HS), k29 x1 x2 x3 x4 σ = some (r0, τ) → V p l e rmX9_help s m args below meth c 6 A G mY 0 0 (MQ below (QI G mY A r0 τ) args s 0 0 A) σ 29 [(0, .ref (G.2.2.1 0)), (1, .int x1), (2, .int x2), (3, .int x3), (4, .int x4)] []) (hk44 : ∀ (x1 : Int32) (x2 : Int32) (x3 : Int32) (x4 : Int32) (x5 : Int32) (σ : HS), k44 x1 x2 x3 x4 x5 σ = some (r0, τ) → V p l e rmX9_help s m args below meth c 6 A G mY 0 0 (MQ below (QI G mY A r0 τ) args s 0 0 A) σ 44 [(0, .ref (G.2.2.1 0)), (1, .int x1), (2, .int x2), (3, .int x3), (4, .int x4), (5, .int x5)] []) (h : c_X9_help_98 k29 k44 x1 x2 x3 x4 x5 σ = some (r0, τ)) : V p l e rmX9_help s m args below meth c 6 A G mY 0 0 (MQ below (QI G mY A r0 τ) args s 0 0 A) σ 98 [(0, .ref (G.2.2.1 0)), (1, .int x1), (2, .int x2), (3, .int x3), (4, .int x4), (5, .int x5)] [] := by
  rw [c_X9_help_98] at h
  refine v_iinc (v := (x5 + 1)) (L' := [(0, .ref (G.2.2.1 0)), (1, .int x1), (2, .int x2), (3, .int x3), (4, .int x4), (5, .int (x5 + 1))]) hC dX9_help_98 5 rfl rfl (by decide) [1, 2, 3, 4, 5, 0] rfl ?_
  refine v_goto (tgt := 44) hC dX9_help_101 (by decide) ?_
  exact hk44 _ _ _ _ _ _ h
def c_X9_help_104 (k29 : Int32 → Int32 → Int32 → Int32 → HS → Option (Int32 × HS)) (x1 : Int32) (x2 : Int32) (x3 : Int32) (x4 : Int32) (σ : HS) : Option (Int32 × HS) := (k29 x1 x2 x3 (x4 + 1) σ)
set_option maxHeartbeats 4000000 in
set_option maxRecDepth 100000 in
theorem w_X9_help_104 {p : Program} {l : Launch} {e : Env} {s : State} {m : MethodId} {args : Array Value} {below : List Frame} {meth : Method} {c : Code} {A : Nat → Prop} {G : WD}  {r0 : Int32} {τ : HS}  {k29 : Int32 → Int32 → Int32 → Int32 → HS → Option (Int32 × HS)} {x1 : Int32} {x2 : Int32} {x3 : Int32} {x4 : Int32} {σ : HS}  (hG : GX G mY) (hO0 : Ob G mY 0 8) (hC : Cx mE G.1 G.2.1 mY cX9_help 6 (some .int) RX9 wsX9_help p s m args meth c A) (hk29 : ∀ (x1 : Int32) (x2 : Int32) (x3 : Int32) (x4 : Int32) (σ : HS), k29 x1 x2 x3 x4 σ = some (r0, τ) → V p l e rmX9_help s m args below meth c 6 A G mY 0 0 (MQ below (QI G mY A r0 τ) args s 0 0 A) σ 29 [(0, .ref (G.2.2.1 0)), (1, .int x1), (2, .int x2), (3, .int x3), (4, .int x4)] []) (h : c_X9_help_104 k29 x1 x2 x3 x4 σ = some (r0, τ)) : V p l e rmX9_help s m args below meth c 6 A G mY 0 0 (MQ below (QI G mY A r0 τ) args s 0 0 A) σ 104 [(0, .ref (G.2.2.1 0)), (1, .int x1), (2, .int x2), (3, .int x3), (4, .int x4)] [] := by
  rw [c_X9_help_104] at h
  refine v_iinc (v := (x4 + 1)) (L' := [(0, .ref (G.2.2.1 0)), (1, .int x1), (2, .int x2), (3, .int x3), (4, .int (x4 + 1))]) hC dX9_help_104 4 rfl rfl (by decide) [1, 2, 3, 4, 0] rfl ?_
  refine v_goto (tgt := 29) hC dX9_help_107 (by decide) ?_
  exact hk29 _ _ _ _ _ h
def c_X9_help_44 (k29 : Int32 → Int32 → Int32 → Int32 → HS → Option (Int32 × HS)) : Nat → Int32 → Int32 → Int32 → Int32 → Int32 → HS → Option (Int32 × HS)
  | 0, _, _, _, _, _, _ => none
  | n + 1, x1, x2, x3, x4, x5, σ => (if (gI σ 0 8) ≤ x5 then (c_X9_help_104 k29 x1 x2 x3 x4 σ) else (bi1 (c_X9_changes x4 x5 σ) (fun s17 => (bi1 (c_X9_lays s17) (fun s19 => (bi1 (c_X9_changes x4 x5 s19) (fun s21 => (if (gI s21 0 11) < x2 then (c_X9_help_98 k29 (fun z0 z1 z2 z3 z4 z5 => c_X9_help_44 k29 n z0 z1 z2 z3 z4 z5) x1 (gI s21 0 11) ((12 * x4) + x5) x4 x5 s21) else (c_X9_help_98 k29 (fun z0 z1 z2 z3 z4 z5 => c_X9_help_44 k29 n z0 z1 z2 z3 z4 z5) x1 x2 x3 x4 x5 s21)))))))))
set_option maxHeartbeats 4000000 in
set_option maxRecDepth 100000 in
theorem w_X9_help_44 {p : Program} {l : Launch} {e : Env} {s : State} {m : MethodId} {args : Array Value} {below : List Frame} {meth : Method} {c : Code} {A : Nat → Prop} {G : WD}  {r0 : Int32} {τ : HS}  {k29 : Int32 → Int32 → Int32 → Int32 → HS → Option (Int32 × HS)}  (hG : GX G mY) (hO0 : Ob G mY 0 8) (hC : Cx mE G.1 G.2.1 mY cX9_help 6 (some .int) RX9 wsX9_help p s m args meth c A) (hk29 : ∀ (x1 : Int32) (x2 : Int32) (x3 : Int32) (x4 : Int32) (σ : HS), k29 x1 x2 x3 x4 σ = some (r0, τ) → V p l e rmX9_help s m args below meth c 6 A G mY 0 0 (MQ below (QI G mY A r0 τ) args s 0 0 A) σ 29 [(0, .ref (G.2.2.1 0)), (1, .int x1), (2, .int x2), (3, .int x3), (4, .int x4)] []) : ∀ (n : Nat) (x1 : Int32) (x2 : Int32) (x3 : Int32) (x4 : Int32) (x5 : Int32) (σ : HS), c_X9_help_44 k29 n x1 x2 x3 x4 x5 σ = some (r0, τ) → V p l e rmX9_help s m args below meth c 6 A G mY 0 0 (MQ below (QI G mY A r0 τ) args s 0 0 A) σ 44 [(0, .ref (G.2.2.1 0)), (1, .int x1), (2, .int x2), (3, .int x3), (4, .int x4), (5, .int x5)] [] := by
  intro n
  induction n with
  | zero => intro x1 x2 x3 x4 x5 σ h; exact nof h
  | succ n ih =>
    intro x1 x2 x3 x4 x5 σ h
    rw [c_X9_help_44] at h
    refine v_iload hC dX9_help_44 5 rfl ?_
    refine v_aload_n hC dX9_help_46 0 rfl ?_
    refine v_get (C := RX9) (T := TX9) (N := 45) (ci := 8) (k := 8) (v := .int (gI σ 0 8)) hC hO0 hi_X9_help_X9 rfl (by decide) (by decide) rfl rfl fl74_X9_help dX9_help_47 rfl ?_
    refine v_icmp_ge (tgt := 104) hC dX9_help_50 (by decide) (fun c_15 => ?_) (fun c_15 => ?_)
    · replace h := ift c_15 h
      refine V.sub (L' := [(0, .ref (G.2.2.1 0)), (1, .int x1), (2, .int x2), (3, .int x3), (4, .int x4)]) [0, 1, 2, 3, 4] rfl ?_
      exact w_X9_help_104 hG (hO0) hC hk29 h
    · replace h := ifn c_15 h
      refine v_aload_n hC dX9_help_53 0 rfl ?_
      refine v_iload hC dX9_help_54 4 rfl ?_
      refine v_iload hC dX9_help_56 5 rfl ?_
      obtain ⟨s17, hc_16, h⟩ := bd1 h
      refine v_callVV hC mE_ok (n := 2) (As := [.int x4, .int x5]) (k_X9_changes l hG (hO0) hc_16) (cwV 2 hC.1.2.2.2.2 gX9_help_X9_changes rfl rfl rfl (by decide +kernel) ⟨(Nat.le_of_ble_eq_true rfl), (Nat.le_of_ble_eq_true rfl)⟩) hO0 (by decide) rfl rfl rfl (Nat.le_of_ble_eq_true rfl) ⟨Nat.zero_le _, Nat.zero_le _⟩ dX9_help_58 rfl ?_
      refine v_aload_n hC dX9_help_61 0 rfl ?_
      obtain ⟨s19, hc_18, h⟩ := bd1 h
      refine v_callVV hC mE_ok (n := 0) (As := []) (k_X9_lays l hG (hO0) hc_18) (cwV 0 hC.1.2.2.2.2 gX9_help_X9_lays rfl rfl rfl (by decide +kernel) ⟨(Nat.le_of_ble_eq_true rfl), (Nat.le_of_ble_eq_true rfl)⟩) hO0 (by decide) rfl rfl rfl (Nat.le_of_ble_eq_true rfl) ⟨Nat.zero_le _, Nat.zero_le _⟩ dX9_help_62 rfl ?_
      refine v_aload_n hC dX9_help_65 0 rfl ?_
      refine v_iload hC dX9_help_66 4 rfl ?_
      refine v_iload hC dX9_help_68 5 rfl ?_
      obtain ⟨s21, hc_20, h⟩ := bd1 h
      refine v_callVV hC mE_ok (n := 2) (As := [.int x4, .int x5]) (k_X9_changes l hG (hO0) hc_20) (cwV 2 hC.1.2.2.2.2 gX9_help_X9_changes rfl rfl rfl (by decide +kernel) ⟨(Nat.le_of_ble_eq_true rfl), (Nat.le_of_ble_eq_true rfl)⟩) hO0 (by decide) rfl rfl rfl (Nat.le_of_ble_eq_true rfl) ⟨Nat.zero_le _, Nat.zero_le _⟩ dX9_help_70 rfl ?_
      refine v_aload_n hC dX9_help_73 0 rfl ?_
      refine v_get (C := RX9) (T := TX9) (N := 45) (ci := 8) (k := 11) (v := .int (gI s21 0 11)) hC hO0 hi_X9_help_X9 rfl (by decide) (by decide) rfl rfl fl108_X9_help dX9_help_74 rfl ?_
      refine v_iload_n hC dX9_help_77 2 rfl ?_
      refine v_icmp_lt (tgt := 84) hC dX9_help_78 (by decide) (fun c_22 => ?_) (fun c_22 => ?_)
      · replace h := ift c_22 h
        refine v_aload_n hC dX9_help_84 0 rfl ?_
        refine v_get (C := RX9) (T := TX9) (N := 45) (ci := 8) (k := 11) (v := .int (gI s21 0 11)) hC hO0 hi_X9_help_X9 rfl (by decide) (by decide) rfl rfl fl108_X9_help dX9_help_85 rfl ?_
        refine v_istore_n (L' := [(0, .ref (G.2.2.1 0)), (1, .int x1), (2, .int (gI s21 0 11)), (4, .int x4), (5, .int x5)]) hC dX9_help_88 (by decide) [1, 2, 0, 4, 5] rfl ?_
        refine v_bipush (v := 12) hC dX9_help_89 (by decide) ?_
        refine v_iload hC dX9_help_91 3 rfl ?_
        refine v_imul hC dX9_help_93 ?_
        refine v_iload hC dX9_help_94 4 rfl ?_
        refine v_iadd hC dX9_help_96 ?_
        refine v_istore_n (L' := [(0, .ref (G.2.2.1 0)), (1, .int x1), (2, .int (gI s21 0 11)), (3, .int ((12 * x4) + x5)), (4, .int x4), (5, .int x5)]) hC dX9_help_97 (by decide) [1, 2, 3, 0, 4, 5] rfl ?_
        exact w_X9_help_98 hG (hO0) hC hk29 (fun _ _ _ _ _ _ h => ih _ _ _ _ _ _ h) h
      · replace h := ifn c_22 h
        refine v_goto (tgt := 98) hC dX9_help_81 (by decide) ?_
        exact w_X9_help_98 hG (hO0) hC hk29 (fun _ _ _ _ _ _ h => ih _ _ _ _ _ _ h) h
def c_X9_help_110 (x1 : Int32) (x2 : Int32) (x3 : Int32) (σ : HS) : Option (Int32 × HS) := (bi1 (c_X9_lays σ) (fun s9 => (if x3 = (-1) then (some (x3, s9)) else (if x1 = 0 then (some (x3, s9)) else (if x1 = 1 then (some (x2, s9)) else (if (gI s9 0 9) < x2 then (some (0, s9)) else (if (gI s9 0 12) = 0 then (some (1, s9)) else (some (0, s9)))))))))
set_option maxHeartbeats 4000000 in
set_option maxRecDepth 100000 in
theorem w_X9_help_110 {p : Program} {l : Launch} {e : Env} {s : State} {m : MethodId} {args : Array Value} {below : List Frame} {meth : Method} {c : Code} {A : Nat → Prop} {G : WD}  {r0 : Int32} {τ : HS}  {x1 : Int32} {x2 : Int32} {x3 : Int32} {σ : HS}  (hG : GX G mY) (hO0 : Ob G mY 0 8) (hC : Cx mE G.1 G.2.1 mY cX9_help 6 (some .int) RX9 wsX9_help p s m args meth c A)  (h : c_X9_help_110 x1 x2 x3 σ = some (r0, τ)) : V p l e rmX9_help s m args below meth c 6 A G mY 0 0 (MQ below (QI G mY A r0 τ) args s 0 0 A) σ 110 [(0, .ref (G.2.2.1 0)), (1, .int x1), (2, .int x2), (3, .int x3)] [] := by
  rw [c_X9_help_110] at h
  refine v_aload_n hC dX9_help_110 0 rfl ?_
  obtain ⟨s9, hc_8, h⟩ := bd1 h
  refine v_callVV hC mE_ok (n := 0) (As := []) (k_X9_lays l hG (hO0) hc_8) (cwV 0 hC.1.2.2.2.2 gX9_help_X9_lays rfl rfl rfl (by decide +kernel) ⟨(Nat.le_of_ble_eq_true rfl), (Nat.le_of_ble_eq_true rfl)⟩) hO0 (by decide) rfl rfl rfl (Nat.le_of_ble_eq_true rfl) ⟨Nat.zero_le _, Nat.zero_le _⟩ dX9_help_111 rfl ?_
  refine v_iload_n hC dX9_help_114 3 rfl ?_
  refine v_iconst (v := (-1)) hC dX9_help_115 (by decide) ?_
  refine v_icmp_eq (tgt := 123) hC dX9_help_116 (by decide) (fun c_10 => ?_) (fun c_10 => ?_)
  · replace h := ift c_10 h
    refine v_iload_n hC dX9_help_123 3 rfl ?_
    refine v_goto (tgt := 156) hC dX9_help_124 (by decide) ?_
    exact v_iret hC rfl dX9_help_156 h
  · replace h := ifn c_10 h
    refine v_iload_n hC dX9_help_119 1 rfl ?_
    refine v_if_ne (tgt := 127) hC dX9_help_120 (by decide) (fun c_11 => ?_) (fun c_11 => ?_)
    · replace h := ifn c_11 h
      refine v_iload_n hC dX9_help_127 1 rfl ?_
      refine v_iconst (v := 1) hC dX9_help_128 (by decide) ?_
      refine v_icmp_ne (tgt := 136) hC dX9_help_129 (by decide) (fun c_12 => ?_) (fun c_12 => ?_)
      · replace h := ifn c_12 h
        refine v_iload_n hC dX9_help_136 2 rfl ?_
        refine v_aload_n hC dX9_help_137 0 rfl ?_
        refine v_get (C := RX9) (T := TX9) (N := 45) (ci := 8) (k := 9) (v := .int (gI s9 0 9)) hC hO0 hi_X9_help_X9 rfl (by decide) (by decide) rfl rfl fl77_X9_help dX9_help_138 rfl ?_
        refine v_icmp_gt (tgt := 155) hC dX9_help_141 (by decide) (fun c_13 => ?_) (fun c_13 => ?_)
        · replace h := ift c_13 h
          refine v_iconst (v := 0) hC dX9_help_155 (by decide) ?_
          exact v_iret hC rfl dX9_help_156 h
        · replace h := ifn c_13 h
          refine v_aload_n hC dX9_help_144 0 rfl ?_
          refine v_get (C := RX9) (T := TX9) (N := 45) (ci := 8) (k := 12) (v := .int (gI s9 0 12)) hC hO0 hi_X9_help_X9 rfl (by decide) (by decide) rfl rfl fl111_X9_help dX9_help_145 rfl ?_
          refine v_if_ne (tgt := 155) hC dX9_help_148 (by decide) (fun c_14 => ?_) (fun c_14 => ?_)
          · replace h := ifn c_14 h
            refine v_iconst (v := 0) hC dX9_help_155 (by decide) ?_
            exact v_iret hC rfl dX9_help_156 h
          · replace h := ift c_14 h
            refine v_iconst (v := 1) hC dX9_help_151 (by decide) ?_
            refine v_goto (tgt := 156) hC dX9_help_152 (by decide) ?_
            exact v_iret hC rfl dX9_help_156 h
      · replace h := ift c_12 h
        refine v_iload_n hC dX9_help_132 2 rfl ?_
        refine v_goto (tgt := 156) hC dX9_help_133 (by decide) ?_
        exact v_iret hC rfl dX9_help_156 h
    · replace h := ift c_11 h
      refine v_iload_n hC dX9_help_123 3 rfl ?_
      refine v_goto (tgt := 156) hC dX9_help_124 (by decide) ?_
      exact v_iret hC rfl dX9_help_156 h
def c_X9_help_29 : Nat → Int32 → Int32 → Int32 → Int32 → HS → Option (Int32 × HS)
  | 0, _, _, _, _, _ => none
  | n + 1, x1, x2, x3, x4, σ => (if (gI σ 0 8) ≤ x4 then (c_X9_help_110 x1 x2 x3 σ) else (c_X9_help_44 (fun z0 z1 z2 z3 z4 => c_X9_help_29 n z0 z1 z2 z3 z4) FU x1 x2 x3 x4 (x4 + 1) σ))
set_option maxHeartbeats 4000000 in
set_option maxRecDepth 100000 in
theorem w_X9_help_29 {p : Program} {l : Launch} {e : Env} {s : State} {m : MethodId} {args : Array Value} {below : List Frame} {meth : Method} {c : Code} {A : Nat → Prop} {G : WD}  {r0 : Int32} {τ : HS}   (hG : GX G mY) (hO0 : Ob G mY 0 8) (hC : Cx mE G.1 G.2.1 mY cX9_help 6 (some .int) RX9 wsX9_help p s m args meth c A)  : ∀ (n : Nat) (x1 : Int32) (x2 : Int32) (x3 : Int32) (x4 : Int32) (σ : HS), c_X9_help_29 n x1 x2 x3 x4 σ = some (r0, τ) → V p l e rmX9_help s m args below meth c 6 A G mY 0 0 (MQ below (QI G mY A r0 τ) args s 0 0 A) σ 29 [(0, .ref (G.2.2.1 0)), (1, .int x1), (2, .int x2), (3, .int x3), (4, .int x4)] [] := by
  intro n
  induction n with
  | zero => intro x1 x2 x3 x4 σ h; exact nof h
  | succ n ih =>
    intro x1 x2 x3 x4 σ h
    rw [c_X9_help_29] at h
    refine v_iload hC dX9_help_29 4 rfl ?_
    refine v_aload_n hC dX9_help_31 0 rfl ?_
    refine v_get (C := RX9) (T := TX9) (N := 45) (ci := 8) (k := 8) (v := .int (gI σ 0 8)) hC hO0 hi_X9_help_X9 rfl (by decide) (by decide) rfl rfl fl74_X9_help dX9_help_32 rfl ?_
    refine v_icmp_ge (tgt := 110) hC dX9_help_35 (by decide) (fun c_7 => ?_) (fun c_7 => ?_)
    · replace h := ift c_7 h
      refine V.sub (L' := [(0, .ref (G.2.2.1 0)), (1, .int x1), (2, .int x2), (3, .int x3)]) [0, 1, 2, 3] rfl ?_
      exact w_X9_help_110 hG (hO0) hC h
    · replace h := ifn c_7 h
      refine v_iload hC dX9_help_38 4 rfl ?_
      refine v_iconst (v := 1) hC dX9_help_40 (by decide) ?_
      refine v_iadd hC dX9_help_41 ?_
      refine v_istore (L' := [(0, .ref (G.2.2.1 0)), (1, .int x1), (2, .int x2), (3, .int x3), (4, .int x4), (5, .int (x4 + 1))]) hC dX9_help_42 (by decide) [1, 2, 3, 4, 5, 0] rfl ?_
      exact w_X9_help_44 hG (hO0) hC (fun _ _ _ _ _ h => ih _ _ _ _ _ h) FU _ _ _ _ _ _ h
def c_X9_help (p1 : Int32) (σ : HS) : Option (Int32 × HS) := (bi2 (c_X9_in (Int32.toInt64 p1) 0 2 σ) (fun r3 s2 => (if r3 = 0 then (some ((-2), s2)) else (bi1 (c_X9_lays s2) (fun s6 => (c_X9_help_29 FU p1 (gI s6 0 11) (-1) 0 s6))))))
set_option maxHeartbeats 4000000 in
set_option maxRecDepth 100000 in
theorem w_X9_help {p : Program} {l : Launch} {e : Env} {s : State} {m : MethodId} {args : Array Value} {below : List Frame} {meth : Method} {c : Code} {A : Nat → Prop} {G : WD}  {r0 : Int32} {τ : HS} {p1 : Int32} {σ : HS}  (hG : GX G mY) (hO0 : Ob G mY 0 8) (hC : Cx mE G.1 G.2.1 mY cX9_help 6 (some .int) RX9 wsX9_help p s m args meth c A) (h : c_X9_help p1 σ = some (r0, τ)) : V p l e rmX9_help s m args below meth c 6 A G mY 0 0 (MQ below (QI G mY A r0 τ) args s 0 0 A) σ 0 [(0, .ref (G.2.2.1 0)), (1, .int p1)] [] := by
  rw [c_X9_help] at h
  refine v_iload_n hC dX9_help_0 1 rfl ?_
  refine v_i2l hC dX9_help_1 ?_
  refine v_lconst (v := 0) hC dX9_help_2 (by decide) ?_
  refine v_ldc2 (v := 2) hC lc117_X9_help dX9_help_3 ?_
  obtain ⟨r3, s2, hc_1, h⟩ := bd2 h
  refine v_callSI hC mE_ok (n := 3) (As := [.long (Int32.toInt64 p1), .long 0, .long 2]) (k_X9_in l hG hc_1) (va_cwS 3 hC.1.2.2.2.2 gX9_help_X9_in rfl rfl rfl (by decide +kernel) ⟨(Nat.le_of_ble_eq_true rfl), (Nat.le_of_ble_eq_true rfl)⟩) rfl (Nat.le_of_ble_eq_true rfl) ⟨Nat.zero_le _, Nat.zero_le _⟩ dX9_help_6 rfl ?_
  refine v_if_ne (tgt := 15) hC dX9_help_9 (by decide) (fun c_4 => ?_) (fun c_4 => ?_)
  · replace h := ifn c_4 h
    refine v_aload_n hC dX9_help_15 0 rfl ?_
    obtain ⟨s6, hc_5, h⟩ := bd1 h
    refine v_callVV hC mE_ok (n := 0) (As := []) (k_X9_lays l hG (hO0) hc_5) (cwV 0 hC.1.2.2.2.2 gX9_help_X9_lays rfl rfl rfl (by decide +kernel) ⟨(Nat.le_of_ble_eq_true rfl), (Nat.le_of_ble_eq_true rfl)⟩) hO0 (by decide) rfl rfl rfl (Nat.le_of_ble_eq_true rfl) ⟨Nat.zero_le _, Nat.zero_le _⟩ dX9_help_16 rfl ?_
    refine v_aload_n hC dX9_help_19 0 rfl ?_
    refine v_get (C := RX9) (T := TX9) (N := 45) (ci := 8) (k := 11) (v := .int (gI s6 0 11)) hC hO0 hi_X9_help_X9 rfl (by decide) (by decide) rfl rfl fl108_X9_help dX9_help_20 rfl ?_
    refine v_istore_n (L' := [(0, .ref (G.2.2.1 0)), (1, .int p1), (2, .int (gI s6 0 11))]) hC dX9_help_23 (by decide) [1, 2, 0] rfl ?_
    refine v_iconst (v := (-1)) hC dX9_help_24 (by decide) ?_
    refine v_istore_n (L' := [(0, .ref (G.2.2.1 0)), (1, .int p1), (2, .int (gI s6 0 11)), (3, .int (-1))]) hC dX9_help_25 (by decide) [1, 2, 3, 0] rfl ?_
    refine v_iconst (v := 0) hC dX9_help_26 (by decide) ?_
    refine v_istore (L' := [(0, .ref (G.2.2.1 0)), (1, .int p1), (2, .int (gI s6 0 11)), (3, .int (-1)), (4, .int 0)]) hC dX9_help_27 (by decide) [1, 2, 3, 4, 0] rfl ?_
    exact w_X9_help_29 hG (hO0) hC FU _ _ _ _ _ h
  · replace h := ift c_4 h
    refine v_bipush (v := (-2)) hC dX9_help_12 (by decide) ?_
    exact v_iret hC rfl dX9_help_14 h
theorem k_X9_help (l : Launch) {G : WD}   {r0 : Int32} {τ : HS} {p1 : Int32} {σ : HS}  (hG : GX G mY) (hO0 : Ob G mY 0 8) (h : c_X9_help p1 σ = some (r0, τ)) : MI mE l yX9_help wsX9_help rmX9_help G mY [.ref (G.2.2.1 0), .int p1] σ r0 τ :=
  MI.of RX9 (by decide) rfl rfl (Nat.le_of_ble_eq_true rfl) rfl rfl (fun p e s m below meth c hC => w_X9_help  hG hO0 hC h)
abbrev rmX9_enough : Room := { frames := 1, cells := 0, slots := 0, locals := 26 }
def c_X9_enough_29 : Nat → Int32 → Int32 → Int32 → HS → Option (Int32 × HS)
  | 0, _, _, _, _ => none
  | n + 1, x1, x2, x3, σ => (bi2 (c_X9_closedBy x1 x3 σ) (fun r11 s10 => (bi2 (c_X9_all x1 s10) (fun r14 s13 => (if 0 ≤ (lg_cmp (r11 * 100) ((Int32.toInt64 x2) * r14)) then (some (x3, s13)) else (c_X9_enough_29 n x1 x2 (x3 + 1) s13))))))
set_option maxHeartbeats 4000000 in
set_option maxRecDepth 100000 in
theorem w_X9_enough_29 {p : Program} {l : Launch} {e : Env} {s : State} {m : MethodId} {args : Array Value} {below : List Frame} {meth : Method} {c : Code} {A : Nat → Prop} {G : WD}  {r0 : Int32} {τ : HS}   (hG : GX G mY) (hO0 : Ob G mY 0 8) (hC : Cx mE G.1 G.2.1 mY cX9_enough 4 (some .int) RX9 wsX9_enough p s m args meth c A)  : ∀ (n : Nat) (x1 : Int32) (x2 : Int32) (x3 : Int32) (σ : HS), c_X9_enough_29 n x1 x2 x3 σ = some (r0, τ) → V p l e rmX9_enough s m args below meth c 4 A G mY 0 0 (MQ below (QI G mY A r0 τ) args s 0 0 A) σ 29 [(0, .ref (G.2.2.1 0)), (1, .int x1), (2, .int x2), (3, .int x3)] [] := by
  intro n
  induction n with
  | zero => intro x1 x2 x3 σ h; exact nof h
  | succ n ih =>
    intro x1 x2 x3 σ h
    rw [c_X9_enough_29] at h
    refine v_aload_n hC dX9_enough_29 0 rfl ?_
    refine v_iload_n hC dX9_enough_30 1 rfl ?_
    refine v_iload_n hC dX9_enough_31 3 rfl ?_
    obtain ⟨r11, s10, hc_9, h⟩ := bd2 h
    refine v_callVJ hC mE_ok (n := 2) (As := [.int x1, .int x3]) (k_X9_closedBy l hG (hO0) hc_9) (cwV 2 hC.1.2.2.2.2 gX9_enough_X9_closedBy rfl rfl rfl (by decide +kernel) ⟨(Nat.le_of_ble_eq_true rfl), (Nat.le_of_ble_eq_true rfl)⟩) hO0 (by decide) rfl rfl rfl (Nat.le_of_ble_eq_true rfl) ⟨Nat.zero_le _, Nat.zero_le _⟩ dX9_enough_32 rfl ?_
    refine v_ldc2 (v := 100) hC lc337_X9_enough dX9_enough_35 ?_
    refine v_lmul hC dX9_enough_38 ?_
    refine v_iload_n hC dX9_enough_39 2 rfl ?_
    refine v_i2l hC dX9_enough_40 ?_
    refine v_iload_n hC dX9_enough_41 1 rfl ?_
    obtain ⟨r14, s13, hc_12, h⟩ := bd2 h
    refine v_callSJ hC mE_ok (n := 1) (As := [.int x1]) (k_X9_all l hG hc_12) (va_cwS 1 hC.1.2.2.2.2 gX9_enough_X9_all rfl rfl rfl (by decide +kernel) ⟨(Nat.le_of_ble_eq_true rfl), (Nat.le_of_ble_eq_true rfl)⟩) rfl (Nat.le_of_ble_eq_true rfl) ⟨Nat.zero_le _, Nat.zero_le _⟩ dX9_enough_42 rfl ?_
    refine v_lmul hC dX9_enough_45 ?_
    refine v_lcmp hC dX9_enough_46 ?_
    refine v_if_ge (tgt := 56) hC dX9_enough_47 (by decide) (fun c_15 => ?_) (fun c_15 => ?_)
    · replace h := ift c_15 h
      refine v_iload_n hC dX9_enough_56 3 rfl ?_
      exact v_iret hC rfl dX9_enough_57 h
    · replace h := ifn c_15 h
      refine v_iinc (v := (x3 + 1)) (L' := [(0, .ref (G.2.2.1 0)), (1, .int x1), (2, .int x2), (3, .int (x3 + 1))]) hC dX9_enough_50 3 rfl rfl (by decide) [1, 2, 3, 0] rfl ?_
      refine v_goto (tgt := 29) hC dX9_enough_53 (by decide) ?_
      exact ih _ _ _ _ h
def c_X9_enough (p1 : Int32) (p2 : Int32) (σ : HS) : Option (Int32 × HS) := (bi2 (c_X9_in (Int32.toInt64 p1) 1 12 σ) (fun r3 s2 => (if r3 = 0 then (some ((-2), s2)) else (bi2 (c_X9_in (Int32.toInt64 p2) 0 100 s2) (fun r7 s6 => (if r7 = 0 then (some ((-2), s6)) else (c_X9_enough_29 FU p1 p2 0 s6)))))))
set_option maxHeartbeats 4000000 in
set_option maxRecDepth 100000 in
theorem w_X9_enough {p : Program} {l : Launch} {e : Env} {s : State} {m : MethodId} {args : Array Value} {below : List Frame} {meth : Method} {c : Code} {A : Nat → Prop} {G : WD}  {r0 : Int32} {τ : HS} {p1 : Int32} {p2 : Int32} {σ : HS}  (hG : GX G mY) (hO0 : Ob G mY 0 8) (hC : Cx mE G.1 G.2.1 mY cX9_enough 4 (some .int) RX9 wsX9_enough p s m args meth c A) (h : c_X9_enough p1 p2 σ = some (r0, τ)) : V p l e rmX9_enough s m args below meth c 4 A G mY 0 0 (MQ below (QI G mY A r0 τ) args s 0 0 A) σ 0 [(0, .ref (G.2.2.1 0)), (1, .int p1), (2, .int p2)] [] := by
  rw [c_X9_enough] at h
  refine v_iload_n hC dX9_enough_0 1 rfl ?_
  refine v_i2l hC dX9_enough_1 ?_
  refine v_lconst (v := 1) hC dX9_enough_2 (by decide) ?_
  refine v_ldc2 (v := 12) hC lc89_X9_enough dX9_enough_3 ?_
  obtain ⟨r3, s2, hc_1, h⟩ := bd2 h
  refine v_callSI hC mE_ok (n := 3) (As := [.long (Int32.toInt64 p1), .long 1, .long 12]) (k_X9_in l hG hc_1) (va_cwS 3 hC.1.2.2.2.2 gX9_enough_X9_in rfl rfl rfl (by decide +kernel) ⟨(Nat.le_of_ble_eq_true rfl), (Nat.le_of_ble_eq_true rfl)⟩) rfl (Nat.le_of_ble_eq_true rfl) ⟨Nat.zero_le _, Nat.zero_le _⟩ dX9_enough_6 rfl ?_
  refine v_if_eq (tgt := 24) hC dX9_enough_9 (by decide) (fun c_4 => ?_) (fun c_4 => ?_)
  · replace h := ift c_4 h
    refine v_bipush (v := (-2)) hC dX9_enough_24 (by decide) ?_
    exact v_iret hC rfl dX9_enough_26 h
  · replace h := ifn c_4 h
    refine v_iload_n hC dX9_enough_12 2 rfl ?_
    refine v_i2l hC dX9_enough_13 ?_
    refine v_lconst (v := 0) hC dX9_enough_14 (by decide) ?_
    refine v_ldc2 (v := 100) hC lc337_X9_enough dX9_enough_15 ?_
    obtain ⟨r7, s6, hc_5, h⟩ := bd2 h
    refine v_callSI hC mE_ok (n := 3) (As := [.long (Int32.toInt64 p2), .long 0, .long 100]) (k_X9_in l hG hc_5) (va_cwS 3 hC.1.2.2.2.2 gX9_enough_X9_in rfl rfl rfl (by decide +kernel) ⟨(Nat.le_of_ble_eq_true rfl), (Nat.le_of_ble_eq_true rfl)⟩) rfl (Nat.le_of_ble_eq_true rfl) ⟨Nat.zero_le _, Nat.zero_le _⟩ dX9_enough_18 rfl ?_
    refine v_if_ne (tgt := 27) hC dX9_enough_21 (by decide) (fun c_8 => ?_) (fun c_8 => ?_)
    · replace h := ifn c_8 h
      refine v_iconst (v := 0) hC dX9_enough_27 (by decide) ?_
      refine v_istore_n (L' := [(0, .ref (G.2.2.1 0)), (1, .int p1), (2, .int p2), (3, .int 0)]) hC dX9_enough_28 (by decide) [1, 2, 3, 0] rfl ?_
      exact w_X9_enough_29 hG (hO0) hC FU _ _ _ _ h
    · replace h := ift c_8 h
      refine v_bipush (v := (-2)) hC dX9_enough_24 (by decide) ?_
      exact v_iret hC rfl dX9_enough_26 h
theorem k_X9_enough (l : Launch) {G : WD}   {r0 : Int32} {τ : HS} {p1 : Int32} {p2 : Int32} {σ : HS}  (hG : GX G mY) (hO0 : Ob G mY 0 8) (h : c_X9_enough p1 p2 σ = some (r0, τ)) : MI mE l yX9_enough wsX9_enough rmX9_enough G mY [.ref (G.2.2.1 0), .int p1, .int p2] σ r0 τ :=
  MI.of RX9 (by decide) rfl rfl (Nat.le_of_ble_eq_true rfl) rfl rfl (fun p e s m below meth c hC => w_X9_enough  hG hO0 hC h)
abbrev rmX9_order : Room := { frames := 2, cells := 0, slots := 0, locals := 45 }
def c_X9_order_176 (k97 : Int32 → Int32 → Int32 → Int32 → Int32 → HS → Option (Int32 × HS)) (k121 : Int32 → Int32 → Int32 → Int32 → Int32 → Int32 → Int32 → HS → Option (Int32 × HS)) (x1 : Int32) (x2 : Int32) (x3 : Int32) (x4 : Int32) (x5 : Int32) (x6 : Int32) (x7 : Int32) (σ : HS) : Option (Int32 × HS) := (k121 x1 x2 x3 x4 x5 x6 (x7 + 1) σ)
set_option maxHeartbeats 4000000 in
set_option maxRecDepth 100000 in
theorem w_X9_order_176 {p : Program} {l : Launch} {e : Env} {s : State} {m : MethodId} {args : Array Value} {below : List Frame} {meth : Method} {c : Code} {A : Nat → Prop} {G : WD}  {r0 : Int32} {τ : HS}  {k97 : Int32 → Int32 → Int32 → Int32 → Int32 → HS → Option (Int32 × HS)} {k121 : Int32 → Int32 → Int32 → Int32 → Int32 → Int32 → Int32 → HS → Option (Int32 × HS)} {x1 : Int32} {x2 : Int32} {x3 : Int32} {x4 : Int32} {x5 : Int32} {x6 : Int32} {x7 : Int32} {σ : HS}  (hG : GX G mY) (hO0 : Ob G mY 0 8) (hC : Cx mE G.1 G.2.1 mY cX9_order 8 (some .int) RX9 wsX9_order p s m args meth c A) (hk97 : ∀ (x1 : Int32) (x2 : Int32) (x3 : Int32) (x4 : Int32) (x5 : Int32) (σ : HS), k97 x1 x2 x3 x4 x5 σ = some (r0, τ) → V p l e rmX9_order s m args below meth c 8 A G mY 0 0 (MQ below (QI G mY A r0 τ) args s 0 0 A) σ 97 [(0, .ref (G.2.2.1 0)), (1, .int x1), (2, .int x2), (3, .int x3), (4, .int x4), (5, .int x5)] []) (hk121 : ∀ (x1 : Int32) (x2 : Int32) (x3 : Int32) (x4 : Int32) (x5 : Int32) (x6 : Int32) (x7 : Int32) (σ : HS), k121 x1 x2 x3 x4 x5 x6 x7 σ = some (r0, τ) → V p l e rmX9_order s m args below meth c 8 A G mY 0 0 (MQ below (QI G mY A r0 τ) args s 0 0 A) σ 121 [(0, .ref (G.2.2.1 0)), (1, .int x1), (2, .int x2), (3, .int x3), (4, .int x4), (5, .int x5), (6, .int x6), (7, .int x7)] []) (h : c_X9_order_176 k97 k121 x1 x2 x3 x4 x5 x6 x7 σ = some (r0, τ)) : V p l e rmX9_order s m args below meth c 8 A G mY 0 0 (MQ below (QI G mY A r0 τ) args s 0 0 A) σ 176 [(0, .ref (G.2.2.1 0)), (1, .int x1), (2, .int x2), (3, .int x3), (4, .int x4), (5, .int x5), (6, .int x6), (7, .int x7)] [] := by
  rw [c_X9_order_176] at h
  refine v_iinc (v := (x7 + 1)) (L' := [(0, .ref (G.2.2.1 0)), (1, .int x1), (2, .int x2), (3, .int x3), (4, .int x4), (5, .int x5), (6, .int x6), (7, .int (x7 + 1))]) hC dX9_order_176 7 rfl rfl (by decide) [1, 2, 3, 4, 5, 6, 7, 0] rfl ?_
  refine v_goto (tgt := 121) hC dX9_order_179 (by decide) ?_
  exact hk121 _ _ _ _ _ _ _ _ h
def c_X9_order_172 (k97 : Int32 → Int32 → Int32 → Int32 → Int32 → HS → Option (Int32 × HS)) (k121 : Int32 → Int32 → Int32 → Int32 → Int32 → Int32 → Int32 → HS → Option (Int32 × HS)) (x1 : Int32) (x2 : Int32) (x3 : Int32) (x4 : Int32) (x5 : Int32) (x7 : Int32) (σ : HS) : Option (Int32 × HS) := (c_X9_order_176 k97 k121 x1 x2 x3 x4 x5 x7 x7 σ)
set_option maxHeartbeats 4000000 in
set_option maxRecDepth 100000 in
theorem w_X9_order_172 {p : Program} {l : Launch} {e : Env} {s : State} {m : MethodId} {args : Array Value} {below : List Frame} {meth : Method} {c : Code} {A : Nat → Prop} {G : WD}  {r0 : Int32} {τ : HS}  {k97 : Int32 → Int32 → Int32 → Int32 → Int32 → HS → Option (Int32 × HS)} {k121 : Int32 → Int32 → Int32 → Int32 → Int32 → Int32 → Int32 → HS → Option (Int32 × HS)} {x1 : Int32} {x2 : Int32} {x3 : Int32} {x4 : Int32} {x5 : Int32} {x7 : Int32} {σ : HS}  (hG : GX G mY) (hO0 : Ob G mY 0 8) (hC : Cx mE G.1 G.2.1 mY cX9_order 8 (some .int) RX9 wsX9_order p s m args meth c A) (hk97 : ∀ (x1 : Int32) (x2 : Int32) (x3 : Int32) (x4 : Int32) (x5 : Int32) (σ : HS), k97 x1 x2 x3 x4 x5 σ = some (r0, τ) → V p l e rmX9_order s m args below meth c 8 A G mY 0 0 (MQ below (QI G mY A r0 τ) args s 0 0 A) σ 97 [(0, .ref (G.2.2.1 0)), (1, .int x1), (2, .int x2), (3, .int x3), (4, .int x4), (5, .int x5)] []) (hk121 : ∀ (x1 : Int32) (x2 : Int32) (x3 : Int32) (x4 : Int32) (x5 : Int32) (x6 : Int32) (x7 : Int32) (σ : HS), k121 x1 x2 x3 x4 x5 x6 x7 σ = some (r0, τ) → V p l e rmX9_order s m args below meth c 8 A G mY 0 0 (MQ below (QI G mY A r0 τ) args s 0 0 A) σ 121 [(0, .ref (G.2.2.1 0)), (1, .int x1), (2, .int x2), (3, .int x3), (4, .int x4), (5, .int x5), (6, .int x6), (7, .int x7)] []) (h : c_X9_order_172 k97 k121 x1 x2 x3 x4 x5 x7 σ = some (r0, τ)) : V p l e rmX9_order s m args below meth c 8 A G mY 0 0 (MQ below (QI G mY A r0 τ) args s 0 0 A) σ 172 [(0, .ref (G.2.2.1 0)), (1, .int x1), (2, .int x2), (3, .int x3), (4, .int x4), (5, .int x5), (7, .int x7)] [] := by
  rw [c_X9_order_172] at h
  refine v_iload hC dX9_order_172 6 rfl ?_
  refine v_istore (L' := [(0, .ref (G.2.2.1 0)), (1, .int x1), (2, .int x2), (3, .int x3), (4, .int x4), (5, .int x5), (6, .int x7), (7, .int x7)]) hC dX9_order_174 (by decide) [1, 2, 3, 4, 5, 6, 0, 7] rfl ?_
  exact w_X9_order_176 hG (hO0) hC hk97 hk121 h
def c_X9_order_182 (k97 : Int32 → Int32 → Int32 → Int32 → Int32 → HS → Option (Int32 × HS)) (x1 : Int32) (x2 : Int32) (x3 : Int32) (x4 : Int32) (x5 : Int32) (x6 : Int32) (σ : HS) : Option (Int32 × HS) := (if inb ((40 * x1) + x6) 160 = true then (k97 x1 x2 (x3 ||| (1 <<< (x6 &&& 31))) (x4 + (gI σ 13 (ix ((40 * x1) + x6)))) (x5 + 1) σ) else none)
set_option maxHeartbeats 4000000 in
set_option maxRecDepth 100000 in
theorem w_X9_order_182 {p : Program} {l : Launch} {e : Env} {s : State} {m : MethodId} {args : Array Value} {below : List Frame} {meth : Method} {c : Code} {A : Nat → Prop} {G : WD}  {r0 : Int32} {τ : HS}  {k97 : Int32 → Int32 → Int32 → Int32 → Int32 → HS → Option (Int32 × HS)} {x1 : Int32} {x2 : Int32} {x3 : Int32} {x4 : Int32} {x5 : Int32} {x6 : Int32} {σ : HS}  (hG : GX G mY) (hO0 : Ob G mY 0 8) (hC : Cx mE G.1 G.2.1 mY cX9_order 8 (some .int) RX9 wsX9_order p s m args meth c A) (hk97 : ∀ (x1 : Int32) (x2 : Int32) (x3 : Int32) (x4 : Int32) (x5 : Int32) (σ : HS), k97 x1 x2 x3 x4 x5 σ = some (r0, τ) → V p l e rmX9_order s m args below meth c 8 A G mY 0 0 (MQ below (QI G mY A r0 τ) args s 0 0 A) σ 97 [(0, .ref (G.2.2.1 0)), (1, .int x1), (2, .int x2), (3, .int x3), (4, .int x4), (5, .int x5)] []) (h : c_X9_order_182 k97 x1 x2 x3 x4 x5 x6 σ = some (r0, τ)) : V p l e rmX9_order s m args below meth c 8 A G mY 0 0 (MQ below (QI G mY A r0 τ) args s 0 0 A) σ 182 [(0, .ref (G.2.2.1 0)), (1, .int x1), (2, .int x2), (3, .int x3), (4, .int x4), (5, .int x5), (6, .int x6)] [] := by
  rw [c_X9_order_182] at h
  refine v_iload_n hC dX9_order_182 3 rfl ?_
  refine v_iconst (v := 1) hC dX9_order_183 (by decide) ?_
  refine v_iload hC dX9_order_184 6 rfl ?_
  refine v_ishl hC dX9_order_186 ?_
  refine v_ior hC dX9_order_187 ?_
  refine v_istore_n (L' := [(0, .ref (G.2.2.1 0)), (1, .int x1), (2, .int x2), (3, .int (x3 ||| (1 <<< (x6 &&& 31)))), (4, .int x4), (5, .int x5), (6, .int x6)]) hC dX9_order_188 (by decide) [1, 2, 3, 0, 4, 5, 6] rfl ?_
  refine v_iload hC dX9_order_189 4 rfl ?_
  refine v_aload_n hC dX9_order_191 0 rfl ?_
  refine v_get (C := RX9) (T := TX9) (N := 45) (ci := 8) (k := 44) (v := .ref (G.2.2.1 13)) hC hO0 hi_X9_order_X9 rfl (by decide) (by decide) rfl rfl fl52_X9_order dX9_order_192 rfl ?_
  refine v_bipush (v := 40) hC dX9_order_195 (by decide) ?_
  refine v_iload_n hC dX9_order_197 1 rfl ?_
  refine v_imul hC dX9_order_198 ?_
  refine v_iload hC dX9_order_199 6 rfl ?_
  refine v_iadd hC dX9_order_201 ?_
  obtain ⟨g_28, h⟩ := gd h
  refine v_iald hC (obM_8_44 hG hO0).1 (obM_8_44 hG hO0).2 (t0 := 0) rfl g_28 dX9_order_202 ?_
  refine v_iadd hC dX9_order_203 ?_
  refine v_istore (L' := [(0, .ref (G.2.2.1 0)), (1, .int x1), (2, .int x2), (3, .int (x3 ||| (1 <<< (x6 &&& 31)))), (4, .int (x4 + (gI σ 13 (ix ((40 * x1) + x6))))), (5, .int x5)]) hC dX9_order_204 (by decide) [1, 2, 3, 4, 0, 5] rfl ?_
  refine v_iinc (v := (x5 + 1)) (L' := [(0, .ref (G.2.2.1 0)), (1, .int x1), (2, .int x2), (3, .int (x3 ||| (1 <<< (x6 &&& 31)))), (4, .int (x4 + (gI σ 13 (ix ((40 * x1) + x6))))), (5, .int (x5 + 1))]) hC dX9_order_206 5 rfl rfl (by decide) [1, 2, 3, 4, 5, 0] rfl ?_
  refine v_goto (tgt := 97) hC dX9_order_209 (by decide) ?_
  exact hk97 _ _ _ _ _ _ h
def c_X9_order_121 (k97 : Int32 → Int32 → Int32 → Int32 → Int32 → HS → Option (Int32 × HS)) : Nat → Int32 → Int32 → Int32 → Int32 → Int32 → Int32 → Int32 → HS → Option (Int32 × HS)
  | 0, _, _, _, _, _, _, _, _ => none
  | n + 1, x1, x2, x3, x4, x5, x6, x7, σ => (if (gI σ 0 8) ≤ x7 then (c_X9_order_182 k97 x1 x2 x3 x4 x5 x6 σ) else (if ((x3 >>> (x7 &&& 31)) &&& 1) = 0 then (if x6 = (-1) then (c_X9_order_172 k97 (fun z0 z1 z2 z3 z4 z5 z6 z7 => c_X9_order_121 k97 n z0 z1 z2 z3 z4 z5 z6 z7) x1 x2 x3 x4 x5 x7 σ) else (if inb ((40 * x1) + x7) 160 = true then (if inb ((40 * x1) + x6) 160 = true then (if (gI σ 13 (ix ((40 * x1) + x7))) ≤ (gI σ 13 (ix ((40 * x1) + x6))) then (c_X9_order_176 k97 (fun z0 z1 z2 z3 z4 z5 z6 z7 => c_X9_order_121 k97 n z0 z1 z2 z3 z4 z5 z6 z7) x1 x2 x3 x4 x5 x6 x7 σ) else (c_X9_order_172 k97 (fun z0 z1 z2 z3 z4 z5 z6 z7 => c_X9_order_121 k97 n z0 z1 z2 z3 z4 z5 z6 z7) x1 x2 x3 x4 x5 x7 σ)) else none) else none)) else (c_X9_order_176 k97 (fun z0 z1 z2 z3 z4 z5 z6 z7 => c_X9_order_121 k97 n z0 z1 z2 z3 z4 z5 z6 z7) x1 x2 x3 x4 x5 x6 x7 σ)))
set_option maxHeartbeats 4000000 in
set_option maxRecDepth 100000 in
theorem w_X9_order_121 {p : Program} {l : Launch} {e : Env} {s : State} {m : MethodId} {args : Array Value} {below : List Frame} {meth : Method} {c : Code} {A : Nat → Prop} {G : WD}  {r0 : Int32} {τ : HS}  {k97 : Int32 → Int32 → Int32 → Int32 → Int32 → HS → Option (Int32 × HS)}  (hG : GX G mY) (hO0 : Ob G mY 0 8) (hC : Cx mE G.1 G.2.1 mY cX9_order 8 (some .int) RX9 wsX9_order p s m args meth c A) (hk97 : ∀ (x1 : Int32) (x2 : Int32) (x3 : Int32) (x4 : Int32) (x5 : Int32) (σ : HS), k97 x1 x2 x3 x4 x5 σ = some (r0, τ) → V p l e rmX9_order s m args below meth c 8 A G mY 0 0 (MQ below (QI G mY A r0 τ) args s 0 0 A) σ 97 [(0, .ref (G.2.2.1 0)), (1, .int x1), (2, .int x2), (3, .int x3), (4, .int x4), (5, .int x5)] []) : ∀ (n : Nat) (x1 : Int32) (x2 : Int32) (x3 : Int32) (x4 : Int32) (x5 : Int32) (x6 : Int32) (x7 : Int32) (σ : HS), c_X9_order_121 k97 n x1 x2 x3 x4 x5 x6 x7 σ = some (r0, τ) → V p l e rmX9_order s m args below meth c 8 A G mY 0 0 (MQ below (QI G mY A r0 τ) args s 0 0 A) σ 121 [(0, .ref (G.2.2.1 0)), (1, .int x1), (2, .int x2), (3, .int x3), (4, .int x4), (5, .int x5), (6, .int x6), (7, .int x7)] [] := by
  intro n
  induction n with
  | zero => intro x1 x2 x3 x4 x5 x6 x7 σ h; exact nof h
  | succ n ih =>
    intro x1 x2 x3 x4 x5 x6 x7 σ h
    rw [c_X9_order_121] at h
    refine v_iload hC dX9_order_121 7 rfl ?_
    refine v_aload_n hC dX9_order_123 0 rfl ?_
    refine v_get (C := RX9) (T := TX9) (N := 45) (ci := 8) (k := 8) (v := .int (gI σ 0 8)) hC hO0 hi_X9_order_X9 rfl (by decide) (by decide) rfl rfl fl74_X9_order dX9_order_124 rfl ?_
    refine v_icmp_ge (tgt := 182) hC dX9_order_127 (by decide) (fun c_22 => ?_) (fun c_22 => ?_)
    · replace h := ift c_22 h
      refine V.sub (L' := [(0, .ref (G.2.2.1 0)), (1, .int x1), (2, .int x2), (3, .int x3), (4, .int x4), (5, .int x5), (6, .int x6)]) [0, 1, 2, 3, 4, 5, 6] rfl ?_
      exact w_X9_order_182 hG (hO0) hC hk97 h
    · replace h := ifn c_22 h
      refine v_iload_n hC dX9_order_130 3 rfl ?_
      refine v_iload hC dX9_order_131 7 rfl ?_
      refine v_ishr hC dX9_order_133 ?_
      refine v_iconst (v := 1) hC dX9_order_134 (by decide) ?_
      refine v_iand hC dX9_order_135 ?_
      refine v_if_ne (tgt := 176) hC dX9_order_136 (by decide) (fun c_23 => ?_) (fun c_23 => ?_)
      · replace h := ifn c_23 h
        exact w_X9_order_176 hG (hO0) hC hk97 (fun _ _ _ _ _ _ _ _ h => ih _ _ _ _ _ _ _ _ h) h
      · replace h := ift c_23 h
        refine v_iload hC dX9_order_139 6 rfl ?_
        refine v_iconst (v := (-1)) hC dX9_order_141 (by decide) ?_
        refine v_icmp_eq (tgt := 172) hC dX9_order_142 (by decide) (fun c_24 => ?_) (fun c_24 => ?_)
        · replace h := ift c_24 h
          refine V.sub (L' := [(0, .ref (G.2.2.1 0)), (1, .int x1), (2, .int x2), (3, .int x3), (4, .int x4), (5, .int x5), (7, .int x7)]) [0, 1, 2, 3, 4, 5, 7] rfl ?_
          exact w_X9_order_172 hG (hO0) hC hk97 (fun _ _ _ _ _ _ _ _ h => ih _ _ _ _ _ _ _ _ h) h
        · replace h := ifn c_24 h
          refine v_aload_n hC dX9_order_145 0 rfl ?_
          refine v_get (C := RX9) (T := TX9) (N := 45) (ci := 8) (k := 44) (v := .ref (G.2.2.1 13)) hC hO0 hi_X9_order_X9 rfl (by decide) (by decide) rfl rfl fl52_X9_order dX9_order_146 rfl ?_
          refine v_bipush (v := 40) hC dX9_order_149 (by decide) ?_
          refine v_iload_n hC dX9_order_151 1 rfl ?_
          refine v_imul hC dX9_order_152 ?_
          refine v_iload hC dX9_order_153 7 rfl ?_
          refine v_iadd hC dX9_order_155 ?_
          obtain ⟨g_25, h⟩ := gd h
          refine v_iald hC (obM_8_44 hG hO0).1 (obM_8_44 hG hO0).2 (t0 := 0) rfl g_25 dX9_order_156 ?_
          refine v_aload_n hC dX9_order_157 0 rfl ?_
          refine v_get (C := RX9) (T := TX9) (N := 45) (ci := 8) (k := 44) (v := .ref (G.2.2.1 13)) hC hO0 hi_X9_order_X9 rfl (by decide) (by decide) rfl rfl fl52_X9_order dX9_order_158 rfl ?_
          refine v_bipush (v := 40) hC dX9_order_161 (by decide) ?_
          refine v_iload_n hC dX9_order_163 1 rfl ?_
          refine v_imul hC dX9_order_164 ?_
          refine v_iload hC dX9_order_165 6 rfl ?_
          refine v_iadd hC dX9_order_167 ?_
          obtain ⟨g_26, h⟩ := gd h
          refine v_iald hC (obM_8_44 hG hO0).1 (obM_8_44 hG hO0).2 (t0 := 0) rfl g_26 dX9_order_168 ?_
          refine v_icmp_le (tgt := 176) hC dX9_order_169 (by decide) (fun c_27 => ?_) (fun c_27 => ?_)
          · replace h := ift c_27 h
            exact w_X9_order_176 hG (hO0) hC hk97 (fun _ _ _ _ _ _ _ _ h => ih _ _ _ _ _ _ _ _ h) h
          · replace h := ifn c_27 h
            refine V.sub (L' := [(0, .ref (G.2.2.1 0)), (1, .int x1), (2, .int x2), (3, .int x3), (4, .int x4), (5, .int x5), (7, .int x7)]) [0, 1, 2, 3, 4, 5, 7] rfl ?_
            exact w_X9_order_172 hG (hO0) hC hk97 (fun _ _ _ _ _ _ _ _ h => ih _ _ _ _ _ _ _ _ h) h
def c_X9_order_212 (x2 : Int32) (x3 : Int32) (x4 : Int32) (σ : HS) : Option (Int32 × HS) := (if x2 = 0 then (some (x3, σ)) else (some (x4, σ)))
set_option maxHeartbeats 4000000 in
set_option maxRecDepth 100000 in
theorem w_X9_order_212 {p : Program} {l : Launch} {e : Env} {s : State} {m : MethodId} {args : Array Value} {below : List Frame} {meth : Method} {c : Code} {A : Nat → Prop} {G : WD}  {r0 : Int32} {τ : HS}  {x2 : Int32} {x3 : Int32} {x4 : Int32} {σ : HS}  (hG : GX G mY)  (hC : Cx mE G.1 G.2.1 mY cX9_order 8 (some .int) RX9 wsX9_order p s m args meth c A)  (h : c_X9_order_212 x2 x3 x4 σ = some (r0, τ)) : V p l e rmX9_order s m args below meth c 8 A G mY 0 0 (MQ below (QI G mY A r0 τ) args s 0 0 A) σ 212 [(2, .int x2), (3, .int x3), (4, .int x4)] [] := by
  rw [c_X9_order_212] at h
  refine v_iload_n hC dX9_order_212 0 rfl ?_
  refine v_if_ne (tgt := 220) hC dX9_order_213 (by decide) (fun c_21 => ?_) (fun c_21 => ?_)
  · replace h := ifn c_21 h
    refine v_iload hC dX9_order_220 2 rfl ?_
    exact v_iret hC rfl dX9_order_222 h
  · replace h := ift c_21 h
    refine v_iload_n hC dX9_order_216 1 rfl ?_
    refine v_goto (tgt := 222) hC dX9_order_217 (by decide) ?_
    exact v_iret hC rfl dX9_order_222 h
def c_X9_order_97 : Nat → Int32 → Int32 → Int32 → Int32 → Int32 → HS → Option (Int32 × HS)
  | 0, _, _, _, _, _, _ => none
  | n + 1, x1, x2, x3, x4, x5, σ => (if (gI σ 0 9) ≤ x5 then (c_X9_order_212 x2 x3 x4 σ) else (if (gI σ 0 8) ≤ x5 then (c_X9_order_212 x2 x3 x4 σ) else (c_X9_order_121 (fun z0 z1 z2 z3 z4 z5 => c_X9_order_97 n z0 z1 z2 z3 z4 z5) FU x1 x2 x3 x4 x5 (-1) 0 σ)))
set_option maxHeartbeats 4000000 in
set_option maxRecDepth 100000 in
theorem w_X9_order_97 {p : Program} {l : Launch} {e : Env} {s : State} {m : MethodId} {args : Array Value} {below : List Frame} {meth : Method} {c : Code} {A : Nat → Prop} {G : WD}  {r0 : Int32} {τ : HS}   (hG : GX G mY) (hO0 : Ob G mY 0 8) (hC : Cx mE G.1 G.2.1 mY cX9_order 8 (some .int) RX9 wsX9_order p s m args meth c A)  : ∀ (n : Nat) (x1 : Int32) (x2 : Int32) (x3 : Int32) (x4 : Int32) (x5 : Int32) (σ : HS), c_X9_order_97 n x1 x2 x3 x4 x5 σ = some (r0, τ) → V p l e rmX9_order s m args below meth c 8 A G mY 0 0 (MQ below (QI G mY A r0 τ) args s 0 0 A) σ 97 [(0, .ref (G.2.2.1 0)), (1, .int x1), (2, .int x2), (3, .int x3), (4, .int x4), (5, .int x5)] [] := by
  intro n
  induction n with
  | zero => intro x1 x2 x3 x4 x5 σ h; exact nof h
  | succ n ih =>
    intro x1 x2 x3 x4 x5 σ h
    rw [c_X9_order_97] at h
    refine v_iload hC dX9_order_97 5 rfl ?_
    refine v_aload_n hC dX9_order_99 0 rfl ?_
    refine v_get (C := RX9) (T := TX9) (N := 45) (ci := 8) (k := 9) (v := .int (gI σ 0 9)) hC hO0 hi_X9_order_X9 rfl (by decide) (by decide) rfl rfl fl77_X9_order dX9_order_100 rfl ?_
    refine v_icmp_ge (tgt := 212) hC dX9_order_103 (by decide) (fun c_19 => ?_) (fun c_19 => ?_)
    · replace h := ift c_19 h
      refine V.sub (L' := [(2, .int x2), (3, .int x3), (4, .int x4)]) [2, 3, 4] rfl ?_
      exact w_X9_order_212 hG hC h
    · replace h := ifn c_19 h
      refine v_iload hC dX9_order_106 5 rfl ?_
      refine v_aload_n hC dX9_order_108 0 rfl ?_
      refine v_get (C := RX9) (T := TX9) (N := 45) (ci := 8) (k := 8) (v := .int (gI σ 0 8)) hC hO0 hi_X9_order_X9 rfl (by decide) (by decide) rfl rfl fl74_X9_order dX9_order_109 rfl ?_
      refine v_icmp_ge (tgt := 212) hC dX9_order_112 (by decide) (fun c_20 => ?_) (fun c_20 => ?_)
      · replace h := ift c_20 h
        refine V.sub (L' := [(2, .int x2), (3, .int x3), (4, .int x4)]) [2, 3, 4] rfl ?_
        exact w_X9_order_212 hG hC h
      · replace h := ifn c_20 h
        refine v_iconst (v := (-1)) hC dX9_order_115 (by decide) ?_
        refine v_istore (L' := [(0, .ref (G.2.2.1 0)), (1, .int x1), (2, .int x2), (3, .int x3), (4, .int x4), (5, .int x5), (6, .int (-1))]) hC dX9_order_116 (by decide) [1, 2, 3, 4, 5, 6, 0] rfl ?_
        refine v_iconst (v := 0) hC dX9_order_118 (by decide) ?_
        refine v_istore (L' := [(0, .ref (G.2.2.1 0)), (1, .int x1), (2, .int x2), (3, .int x3), (4, .int x4), (5, .int x5), (6, .int (-1)), (7, .int 0)]) hC dX9_order_119 (by decide) [1, 2, 3, 4, 5, 6, 7, 0] rfl ?_
        exact w_X9_order_121 hG (hO0) hC (fun _ _ _ _ _ _ h => ih _ _ _ _ _ _ h) FU _ _ _ _ _ _ _ _ h
def c_X9_order_89 (x1 : Int32) (x2 : Int32) (σ : HS) : Option (Int32 × HS) := (c_X9_order_97 FU x1 x2 0 0 0 σ)
set_option maxHeartbeats 4000000 in
set_option maxRecDepth 100000 in
theorem w_X9_order_89 {p : Program} {l : Launch} {e : Env} {s : State} {m : MethodId} {args : Array Value} {below : List Frame} {meth : Method} {c : Code} {A : Nat → Prop} {G : WD}  {r0 : Int32} {τ : HS}  {x1 : Int32} {x2 : Int32} {σ : HS}  (hG : GX G mY) (hO0 : Ob G mY 0 8) (hC : Cx mE G.1 G.2.1 mY cX9_order 8 (some .int) RX9 wsX9_order p s m args meth c A)  (h : c_X9_order_89 x1 x2 σ = some (r0, τ)) : V p l e rmX9_order s m args below meth c 8 A G mY 0 0 (MQ below (QI G mY A r0 τ) args s 0 0 A) σ 89 [(0, .ref (G.2.2.1 0)), (1, .int x1), (2, .int x2)] [] := by
  rw [c_X9_order_89] at h
  refine v_iconst (v := 0) hC dX9_order_89 (by decide) ?_
  refine v_istore_n (L' := [(0, .ref (G.2.2.1 0)), (1, .int x1), (2, .int x2), (3, .int 0)]) hC dX9_order_90 (by decide) [1, 2, 3, 0] rfl ?_
  refine v_iconst (v := 0) hC dX9_order_91 (by decide) ?_
  refine v_istore (L' := [(0, .ref (G.2.2.1 0)), (1, .int x1), (2, .int x2), (3, .int 0), (4, .int 0)]) hC dX9_order_92 (by decide) [1, 2, 3, 4, 0] rfl ?_
  refine v_iconst (v := 0) hC dX9_order_94 (by decide) ?_
  refine v_istore (L' := [(0, .ref (G.2.2.1 0)), (1, .int x1), (2, .int x2), (3, .int 0), (4, .int 0), (5, .int 0)]) hC dX9_order_95 (by decide) [1, 2, 3, 4, 5, 0] rfl ?_
  exact w_X9_order_97 hG (hO0) hC FU _ _ _ _ _ _ h
def c_X9_order_50 : Nat → Int32 → Int32 → Int32 → HS → Option (Int32 × HS)
  | 0, _, _, _, _ => none
  | n + 1, x1, x2, x3, σ => (if (gI σ 0 8) ≤ x3 then (c_X9_order_89 x1 x2 σ) else (if inb ((40 * x1) + x3) 160 = true then (bi2 (c_X9_in (Int32.toInt64 (gI σ 13 (ix ((40 * x1) + x3)))) 0 99 σ) (fun r17 s16 => (if r17 = 0 then (some ((-2), s16)) else (c_X9_order_50 n x1 x2 (x3 + 1) s16)))) else none))
set_option maxHeartbeats 4000000 in
set_option maxRecDepth 100000 in
theorem w_X9_order_50 {p : Program} {l : Launch} {e : Env} {s : State} {m : MethodId} {args : Array Value} {below : List Frame} {meth : Method} {c : Code} {A : Nat → Prop} {G : WD}  {r0 : Int32} {τ : HS}   (hG : GX G mY) (hO0 : Ob G mY 0 8) (hC : Cx mE G.1 G.2.1 mY cX9_order 8 (some .int) RX9 wsX9_order p s m args meth c A)  : ∀ (n : Nat) (x1 : Int32) (x2 : Int32) (x3 : Int32) (σ : HS), c_X9_order_50 n x1 x2 x3 σ = some (r0, τ) → V p l e rmX9_order s m args below meth c 8 A G mY 0 0 (MQ below (QI G mY A r0 τ) args s 0 0 A) σ 50 [(0, .ref (G.2.2.1 0)), (1, .int x1), (2, .int x2), (3, .int x3)] [] := by
  intro n
  induction n with
  | zero => intro x1 x2 x3 σ h; exact nof h
  | succ n ih =>
    intro x1 x2 x3 σ h
    rw [c_X9_order_50] at h
    refine v_iload_n hC dX9_order_50 3 rfl ?_
    refine v_aload_n hC dX9_order_51 0 rfl ?_
    refine v_get (C := RX9) (T := TX9) (N := 45) (ci := 8) (k := 8) (v := .int (gI σ 0 8)) hC hO0 hi_X9_order_X9 rfl (by decide) (by decide) rfl rfl fl74_X9_order dX9_order_52 rfl ?_
    refine v_icmp_ge (tgt := 89) hC dX9_order_55 (by decide) (fun c_13 => ?_) (fun c_13 => ?_)
    · replace h := ift c_13 h
      refine V.sub (L' := [(0, .ref (G.2.2.1 0)), (1, .int x1), (2, .int x2)]) [0, 1, 2] rfl ?_
      exact w_X9_order_89 hG (hO0) hC h
    · replace h := ifn c_13 h
      refine v_aload_n hC dX9_order_58 0 rfl ?_
      refine v_get (C := RX9) (T := TX9) (N := 45) (ci := 8) (k := 44) (v := .ref (G.2.2.1 13)) hC hO0 hi_X9_order_X9 rfl (by decide) (by decide) rfl rfl fl52_X9_order dX9_order_59 rfl ?_
      refine v_bipush (v := 40) hC dX9_order_62 (by decide) ?_
      refine v_iload_n hC dX9_order_64 1 rfl ?_
      refine v_imul hC dX9_order_65 ?_
      refine v_iload_n hC dX9_order_66 3 rfl ?_
      refine v_iadd hC dX9_order_67 ?_
      obtain ⟨g_14, h⟩ := gd h
      refine v_iald hC (obM_8_44 hG hO0).1 (obM_8_44 hG hO0).2 (t0 := 0) rfl g_14 dX9_order_68 ?_
      refine v_i2l hC dX9_order_69 ?_
      refine v_lconst (v := 0) hC dX9_order_70 (by decide) ?_
      refine v_ldc2 (v := 99) hC lc339_X9_order dX9_order_71 ?_
      obtain ⟨r17, s16, hc_15, h⟩ := bd2 h
      refine v_callSI hC mE_ok (n := 3) (As := [.long (Int32.toInt64 (gI σ 13 (ix ((40 * x1) + x3)))), .long 0, .long 99]) (k_X9_in l hG hc_15) (va_cwS 3 hC.1.2.2.2.2 gX9_order_X9_in rfl rfl rfl (by decide +kernel) ⟨(Nat.le_of_ble_eq_true rfl), (Nat.le_of_ble_eq_true rfl)⟩) rfl (Nat.le_of_ble_eq_true rfl) ⟨Nat.zero_le _, Nat.zero_le _⟩ dX9_order_74 rfl ?_
      refine v_if_ne (tgt := 83) hC dX9_order_77 (by decide) (fun c_18 => ?_) (fun c_18 => ?_)
      · replace h := ifn c_18 h
        refine v_iinc (v := (x3 + 1)) (L' := [(0, .ref (G.2.2.1 0)), (1, .int x1), (2, .int x2), (3, .int (x3 + 1))]) hC dX9_order_83 3 rfl rfl (by decide) [1, 2, 3, 0] rfl ?_
        refine v_goto (tgt := 50) hC dX9_order_86 (by decide) ?_
        exact ih _ _ _ _ h
      · replace h := ift c_18 h
        refine v_bipush (v := (-2)) hC dX9_order_80 (by decide) ?_
        exact v_iret hC rfl dX9_order_82 h
def c_X9_order (p1 : Int32) (p2 : Int32) (σ : HS) : Option (Int32 × HS) := (bi2 (c_X9_isSheet p1 σ) (fun r3 s2 => (if r3 = 0 then (some ((-2), s2)) else (bi2 (c_X9_in (Int32.toInt64 p2) 0 1 s2) (fun r7 s6 => (if r7 = 0 then (some ((-2), s6)) else (if inb p1 4 = true then (if (gI s6 10 (ix p1)) = 0 then (some ((-11), s6)) else (if inb p1 4 = true then (if (gI s6 12 (ix p1)) = (gI s6 0 8) then (c_X9_order_50 FU p1 p2 0 s6) else (some ((-2), s6))) else none)) else none)))))))
set_option maxHeartbeats 4000000 in
set_option maxRecDepth 100000 in
theorem w_X9_order {p : Program} {l : Launch} {e : Env} {s : State} {m : MethodId} {args : Array Value} {below : List Frame} {meth : Method} {c : Code} {A : Nat → Prop} {G : WD}  {r0 : Int32} {τ : HS} {p1 : Int32} {p2 : Int32} {σ : HS}  (hG : GX G mY) (hO0 : Ob G mY 0 8) (hC : Cx mE G.1 G.2.1 mY cX9_order 8 (some .int) RX9 wsX9_order p s m args meth c A) (h : c_X9_order p1 p2 σ = some (r0, τ)) : V p l e rmX9_order s m args below meth c 8 A G mY 0 0 (MQ below (QI G mY A r0 τ) args s 0 0 A) σ 0 [(0, .ref (G.2.2.1 0)), (1, .int p1), (2, .int p2)] [] := by
  rw [c_X9_order] at h
  refine v_iload_n hC dX9_order_0 1 rfl ?_
  obtain ⟨r3, s2, hc_1, h⟩ := bd2 h
  refine v_callSI hC mE_ok (n := 1) (As := [.int p1]) (k_X9_isSheet l hG hc_1) (va_cwS 1 hC.1.2.2.2.2 gX9_order_X9_isSheet rfl rfl rfl (by decide +kernel) ⟨(Nat.le_of_ble_eq_true rfl), (Nat.le_of_ble_eq_true rfl)⟩) rfl (Nat.le_of_ble_eq_true rfl) ⟨Nat.zero_le _, Nat.zero_le _⟩ dX9_order_1 rfl ?_
  refine v_if_eq (tgt := 17) hC dX9_order_4 (by decide) (fun c_4 => ?_) (fun c_4 => ?_)
  · replace h := ift c_4 h
    refine v_bipush (v := (-2)) hC dX9_order_17 (by decide) ?_
    exact v_iret hC rfl dX9_order_19 h
  · replace h := ifn c_4 h
    refine v_iload_n hC dX9_order_7 2 rfl ?_
    refine v_i2l hC dX9_order_8 ?_
    refine v_lconst (v := 0) hC dX9_order_9 (by decide) ?_
    refine v_lconst (v := 1) hC dX9_order_10 (by decide) ?_
    obtain ⟨r7, s6, hc_5, h⟩ := bd2 h
    refine v_callSI hC mE_ok (n := 3) (As := [.long (Int32.toInt64 p2), .long 0, .long 1]) (k_X9_in l hG hc_5) (va_cwS 3 hC.1.2.2.2.2 gX9_order_X9_in rfl rfl rfl (by decide +kernel) ⟨(Nat.le_of_ble_eq_true rfl), (Nat.le_of_ble_eq_true rfl)⟩) rfl (Nat.le_of_ble_eq_true rfl) ⟨Nat.zero_le _, Nat.zero_le _⟩ dX9_order_11 rfl ?_
    refine v_if_ne (tgt := 20) hC dX9_order_14 (by decide) (fun c_8 => ?_) (fun c_8 => ?_)
    · replace h := ifn c_8 h
      refine v_aload_n hC dX9_order_20 0 rfl ?_
      refine v_get (C := RX9) (T := TX9) (N := 45) (ci := 8) (k := 41) (v := .ref (G.2.2.1 10)) hC hO0 hi_X9_order_X9 rfl (by decide) (by decide) rfl rfl fl42_X9_order dX9_order_21 rfl ?_
      refine v_iload_n hC dX9_order_24 1 rfl ?_
      obtain ⟨g_9, h⟩ := gd h
      refine v_zald hC (obM_8_41 hG hO0).1 (obM_8_41 hG hO0).2 (t0 := 2) rfl g_9 dX9_order_25 ?_
      refine v_if_ne (tgt := 32) hC dX9_order_26 (by decide) (fun c_10 => ?_) (fun c_10 => ?_)
      · replace h := ifn c_10 h
        refine v_aload_n hC dX9_order_32 0 rfl ?_
        refine v_get (C := RX9) (T := TX9) (N := 45) (ci := 8) (k := 43) (v := .ref (G.2.2.1 12)) hC hO0 hi_X9_order_X9 rfl (by decide) (by decide) rfl rfl fl49_X9_order dX9_order_33 rfl ?_
        refine v_iload_n hC dX9_order_36 1 rfl ?_
        obtain ⟨g_11, h⟩ := gd h
        refine v_iald hC (obM_8_43 hG hO0).1 (obM_8_43 hG hO0).2 (t0 := 0) rfl g_11 dX9_order_37 ?_
        refine v_aload_n hC dX9_order_38 0 rfl ?_
        refine v_get (C := RX9) (T := TX9) (N := 45) (ci := 8) (k := 8) (v := .int (gI s6 0 8)) hC hO0 hi_X9_order_X9 rfl (by decide) (by decide) rfl rfl fl74_X9_order dX9_order_39 rfl ?_
        refine v_icmp_eq (tgt := 48) hC dX9_order_42 (by decide) (fun c_12 => ?_) (fun c_12 => ?_)
        · replace h := ift c_12 h
          refine v_iconst (v := 0) hC dX9_order_48 (by decide) ?_
          refine v_istore_n (L' := [(0, .ref (G.2.2.1 0)), (1, .int p1), (2, .int p2), (3, .int 0)]) hC dX9_order_49 (by decide) [1, 2, 3, 0] rfl ?_
          exact w_X9_order_50 hG (hO0) hC FU _ _ _ _ h
        · replace h := ifn c_12 h
          refine v_bipush (v := (-2)) hC dX9_order_45 (by decide) ?_
          exact v_iret hC rfl dX9_order_47 h
      · replace h := ift c_10 h
        refine v_bipush (v := (-11)) hC dX9_order_29 (by decide) ?_
        exact v_iret hC rfl dX9_order_31 h
    · replace h := ift c_8 h
      refine v_bipush (v := (-2)) hC dX9_order_17 (by decide) ?_
      exact v_iret hC rfl dX9_order_19 h
theorem k_X9_order (l : Launch) {G : WD}   {r0 : Int32} {τ : HS} {p1 : Int32} {p2 : Int32} {σ : HS}  (hG : GX G mY) (hO0 : Ob G mY 0 8) (h : c_X9_order p1 p2 σ = some (r0, τ)) : MI mE l yX9_order wsX9_order rmX9_order G mY [.ref (G.2.2.1 0), .int p1, .int p2] σ r0 τ :=
  MI.of RX9 (by decide) rfl rfl (Nat.le_of_ble_eq_true rfl) rfl rfl (fun p e s m below meth c hC => w_X9_order  hG hO0 hC h)
abbrev rmX9_image : Room := { frames := 0, cells := 0, slots := 0, locals := 0 }
def c_X9_image_31 : Nat → Int32 → HS → Option (Int32 × HS)
  | 0, _, _ => none
  | n + 1, x1, σ => (if 12 ≤ x1 then (some ((gI σ 0 8), σ)) else (if inb x1 12 = true then (if inb x1 12 = true then (lt (sI σ 9 (ix x1) (gI σ 4 (ix x1))) (fun s12 => (c_X9_image_31 n (x1 + 1) s12))) else none) else none))
set_option maxHeartbeats 4000000 in
set_option maxRecDepth 100000 in
theorem w_X9_image_31 {p : Program} {l : Launch} {e : Env} {s : State} {m : MethodId} {args : Array Value} {below : List Frame} {meth : Method} {c : Code} {A : Nat → Prop} {G : WD}  {r0 : Int32} {τ : HS}   (hG : GX G mY) (hO0 : Ob G mY 0 8) (hC : Cx mE G.1 G.2.1 mY cX9_image 2 (some .int) RX9 wsX9_image p s m args meth c A)  : ∀ (n : Nat) (x1 : Int32) (σ : HS), c_X9_image_31 n x1 σ = some (r0, τ) → V p l e rmX9_image s m args below meth c 2 A G mY 0 0 (MQ below (QI G mY A r0 τ) args s 0 0 A) σ 31 [(0, .ref (G.2.2.1 0)), (1, .int x1)] [] := by
  intro n
  induction n with
  | zero => intro x1 σ h; exact nof h
  | succ n ih =>
    intro x1 σ h
    rw [c_X9_image_31] at h
    refine v_iload_n hC dX9_image_31 1 rfl ?_
    refine v_bipush (v := 12) hC dX9_image_32 (by decide) ?_
    refine v_icmp_ge (tgt := 55) hC dX9_image_34 (by decide) (fun c_9 => ?_) (fun c_9 => ?_)
    · replace h := ift c_9 h
      refine v_aload_n hC dX9_image_55 0 rfl ?_
      refine v_get (C := RX9) (T := TX9) (N := 45) (ci := 8) (k := 8) (v := .int (gI σ 0 8)) hC hO0 hi_X9_image_X9 rfl (by decide) (by decide) rfl rfl fl74_X9_image dX9_image_56 rfl ?_
      exact v_iret hC rfl dX9_image_59 h
    · replace h := ifn c_9 h
      refine v_aload_n hC dX9_image_37 0 rfl ?_
      refine v_get (C := RX9) (T := TX9) (N := 45) (ci := 8) (k := 36) (v := .ref (G.2.2.1 9)) hC hO0 hi_X9_image_X9 rfl (by decide) (by decide) rfl rfl fl39_X9_image dX9_image_38 rfl ?_
      refine v_iload_n hC dX9_image_41 1 rfl ?_
      refine v_aload_n hC dX9_image_42 0 rfl ?_
      refine v_get (C := RX9) (T := TX9) (N := 45) (ci := 8) (k := 7) (v := .ref (G.2.2.1 4)) hC hO0 hi_X9_image_X9 rfl (by decide) (by decide) rfl rfl fl23_X9_image dX9_image_43 rfl ?_
      refine v_iload_n hC dX9_image_46 1 rfl ?_
      obtain ⟨g_10, h⟩ := gd h
      refine v_iald hC (obM_8_7 hG hO0).1 (obM_8_7 hG hO0).2 (t0 := 0) rfl g_10 dX9_image_47 ?_
      obtain ⟨g_11, h⟩ := gd h
      refine v_iast hC (obM_8_36 hG hO0).1 (obM_8_36 hG hO0).2 (t0 := 0) rfl g_11 dX9_image_48 ?_
      obtain ⟨s12, e13, h⟩ := ld h
      refine V.eq e13 ?_
      refine v_iinc (v := (x1 + 1)) (L' := [(0, .ref (G.2.2.1 0)), (1, .int (x1 + 1))]) hC dX9_image_49 1 rfl rfl (by decide) [1, 0] rfl ?_
      refine v_goto (tgt := 31) hC dX9_image_52 (by decide) ?_
      exact ih _ _ h
def c_X9_image (σ : HS) : Option (Int32 × HS) := (lt (sI σ 0 37 1) (fun s1 => (lt (sI s1 0 38 (gI s1 0 8)) (fun s3 => (lt (sI s3 0 39 (gI s3 0 9)) (fun s5 => (lt (sI s5 0 40 (gI s5 0 4)) (fun s7 => (c_X9_image_31 FU 0 s7)))))))))
set_option maxHeartbeats 4000000 in
set_option maxRecDepth 100000 in
theorem w_X9_image {p : Program} {l : Launch} {e : Env} {s : State} {m : MethodId} {args : Array Value} {below : List Frame} {meth : Method} {c : Code} {A : Nat → Prop} {G : WD}  {r0 : Int32} {τ : HS}  {σ : HS}  (hG : GX G mY) (hO0 : Ob G mY 0 8) (hC : Cx mE G.1 G.2.1 mY cX9_image 2 (some .int) RX9 wsX9_image p s m args meth c A) (h : c_X9_image  σ = some (r0, τ)) : V p l e rmX9_image s m args below meth c 2 A G mY 0 0 (MQ below (QI G mY A r0 τ) args s 0 0 A) σ 0 [(0, .ref (G.2.2.1 0))] [] := by
  rw [c_X9_image] at h
  refine v_aload_n hC dX9_image_0 0 rfl ?_
  refine v_iconst (v := 1) hC dX9_image_1 (by decide) ?_
  refine v_putI (C := RX9) (T := TX9) (N := 45) (ci := 8) (k := 37) (ty := .boolean) hC hO0 hi_X9_image_X9 rfl (by decide) (by decide) rfl rfl tyX9_ok nmX9 fl341_X9_image rfl rfl rfl rfl rfl dX9_image_2 ?_
  obtain ⟨s1, e2, h⟩ := ld h
  refine V.eq e2 ?_
  refine v_aload_n hC dX9_image_5 0 rfl ?_
  refine v_aload_n hC dX9_image_6 0 rfl ?_
  refine v_get (C := RX9) (T := TX9) (N := 45) (ci := 8) (k := 8) (v := .int (gI s1 0 8)) hC hO0 hi_X9_image_X9 rfl (by decide) (by decide) rfl rfl fl74_X9_image dX9_image_7 rfl ?_
  refine v_putI (C := RX9) (T := TX9) (N := 45) (ci := 8) (k := 38) (ty := .int) hC hO0 hi_X9_image_X9 rfl (by decide) (by decide) rfl rfl tyX9_ok nmX9 fl344_X9_image rfl rfl rfl rfl rfl dX9_image_10 ?_
  obtain ⟨s3, e4, h⟩ := ld h
  refine V.eq e4 ?_
  refine v_aload_n hC dX9_image_13 0 rfl ?_
  refine v_aload_n hC dX9_image_14 0 rfl ?_
  refine v_get (C := RX9) (T := TX9) (N := 45) (ci := 8) (k := 9) (v := .int (gI s3 0 9)) hC hO0 hi_X9_image_X9 rfl (by decide) (by decide) rfl rfl fl77_X9_image dX9_image_15 rfl ?_
  refine v_putI (C := RX9) (T := TX9) (N := 45) (ci := 8) (k := 39) (ty := .int) hC hO0 hi_X9_image_X9 rfl (by decide) (by decide) rfl rfl tyX9_ok nmX9 fl347_X9_image rfl rfl rfl rfl rfl dX9_image_18 ?_
  obtain ⟨s5, e6, h⟩ := ld h
  refine V.eq e6 ?_
  refine v_aload_n hC dX9_image_21 0 rfl ?_
  refine v_aload_n hC dX9_image_22 0 rfl ?_
  refine v_get (C := RX9) (T := TX9) (N := 45) (ci := 8) (k := 4) (v := .int (gI s5 0 4)) hC hO0 hi_X9_image_X9 rfl (by decide) (by decide) rfl rfl fl254_X9_image dX9_image_23 rfl ?_
  refine v_putI (C := RX9) (T := TX9) (N := 45) (ci := 8) (k := 40) (ty := .int) hC hO0 hi_X9_image_X9 rfl (by decide) (by decide) rfl rfl tyX9_ok nmX9 fl350_X9_image rfl rfl rfl rfl rfl dX9_image_26 ?_
  obtain ⟨s7, e8, h⟩ := ld h
  refine V.eq e8 ?_
  refine v_iconst (v := 0) hC dX9_image_29 (by decide) ?_
  refine v_istore_n (L' := [(0, .ref (G.2.2.1 0)), (1, .int 0)]) hC dX9_image_30 (by decide) [1, 0] rfl ?_
  exact w_X9_image_31 hG (hO0) hC FU _ _ h
theorem k_X9_image (l : Launch) {G : WD}   {r0 : Int32} {τ : HS}  {σ : HS}  (hG : GX G mY) (hO0 : Ob G mY 0 8) (h : c_X9_image  σ = some (r0, τ)) : MI mE l yX9_image wsX9_image rmX9_image G mY [.ref (G.2.2.1 0)] σ r0 τ :=
  MI.of RX9 (by decide) rfl rfl (Nat.le_of_ble_eq_true rfl) rfl rfl (fun p e s m below meth c hC => w_X9_image  hG hO0 hC h)
abbrev rmX9_back : Room := { frames := 0, cells := 0, slots := 0, locals := 0 }
def c_X9_back_36 : Nat → Int32 → HS → Option (Int32 × HS)
  | 0, _, _ => none
  | n + 1, x1, σ => (if 12 ≤ x1 then (some ((gI σ 0 8), σ)) else (if inb x1 12 = true then (if inb x1 12 = true then (lt (sI σ 4 (ix x1) (gI σ 9 (ix x1))) (fun s11 => (c_X9_back_36 n (x1 + 1) s11))) else none) else none))
set_option maxHeartbeats 4000000 in
set_option maxRecDepth 100000 in
theorem w_X9_back_36 {p : Program} {l : Launch} {e : Env} {s : State} {m : MethodId} {args : Array Value} {below : List Frame} {meth : Method} {c : Code} {A : Nat → Prop} {G : WD}  {r0 : Int32} {τ : HS}   (hG : GX G mY) (hO0 : Ob G mY 0 8) (hC : Cx mE G.1 G.2.1 mY cX9_back 2 (some .int) RX9 wsX9_back p s m args meth c A)  : ∀ (n : Nat) (x1 : Int32) (σ : HS), c_X9_back_36 n x1 σ = some (r0, τ) → V p l e rmX9_back s m args below meth c 2 A G mY 0 0 (MQ below (QI G mY A r0 τ) args s 0 0 A) σ 36 [(0, .ref (G.2.2.1 0)), (1, .int x1)] [] := by
  intro n
  induction n with
  | zero => intro x1 σ h; exact nof h
  | succ n ih =>
    intro x1 σ h
    rw [c_X9_back_36] at h
    refine v_iload_n hC dX9_back_36 1 rfl ?_
    refine v_bipush (v := 12) hC dX9_back_37 (by decide) ?_
    refine v_icmp_ge (tgt := 60) hC dX9_back_39 (by decide) (fun c_8 => ?_) (fun c_8 => ?_)
    · replace h := ift c_8 h
      refine v_aload_n hC dX9_back_60 0 rfl ?_
      refine v_get (C := RX9) (T := TX9) (N := 45) (ci := 8) (k := 8) (v := .int (gI σ 0 8)) hC hO0 hi_X9_back_X9 rfl (by decide) (by decide) rfl rfl fl74_X9_back dX9_back_61 rfl ?_
      exact v_iret hC rfl dX9_back_64 h
    · replace h := ifn c_8 h
      refine v_aload_n hC dX9_back_42 0 rfl ?_
      refine v_get (C := RX9) (T := TX9) (N := 45) (ci := 8) (k := 7) (v := .ref (G.2.2.1 4)) hC hO0 hi_X9_back_X9 rfl (by decide) (by decide) rfl rfl fl23_X9_back dX9_back_43 rfl ?_
      refine v_iload_n hC dX9_back_46 1 rfl ?_
      refine v_aload_n hC dX9_back_47 0 rfl ?_
      refine v_get (C := RX9) (T := TX9) (N := 45) (ci := 8) (k := 36) (v := .ref (G.2.2.1 9)) hC hO0 hi_X9_back_X9 rfl (by decide) (by decide) rfl rfl fl39_X9_back dX9_back_48 rfl ?_
      refine v_iload_n hC dX9_back_51 1 rfl ?_
      obtain ⟨g_9, h⟩ := gd h
      refine v_iald hC (obM_8_36 hG hO0).1 (obM_8_36 hG hO0).2 (t0 := 0) rfl g_9 dX9_back_52 ?_
      obtain ⟨g_10, h⟩ := gd h
      refine v_iast hC (obM_8_7 hG hO0).1 (obM_8_7 hG hO0).2 (t0 := 0) rfl g_10 dX9_back_53 ?_
      obtain ⟨s11, e12, h⟩ := ld h
      refine V.eq e12 ?_
      refine v_iinc (v := (x1 + 1)) (L' := [(0, .ref (G.2.2.1 0)), (1, .int (x1 + 1))]) hC dX9_back_54 1 rfl rfl (by decide) [1, 0] rfl ?_
      refine v_goto (tgt := 36) hC dX9_back_57 (by decide) ?_
      exact ih _ _ h
def c_X9_back (σ : HS) : Option (Int32 × HS) := (if (gI σ 0 37) = 0 then (some ((-3), σ)) else (lt (sI σ 0 8 (gI σ 0 38)) (fun s2 => (lt (sI s2 0 9 (gI s2 0 39)) (fun s4 => (lt (sI s4 0 4 (gI s4 0 40)) (fun s6 => (c_X9_back_36 FU 0 s6))))))))
set_option maxHeartbeats 4000000 in
set_option maxRecDepth 100000 in
theorem w_X9_back {p : Program} {l : Launch} {e : Env} {s : State} {m : MethodId} {args : Array Value} {below : List Frame} {meth : Method} {c : Code} {A : Nat → Prop} {G : WD}  {r0 : Int32} {τ : HS}  {σ : HS}  (hG : GX G mY) (hO0 : Ob G mY 0 8) (hC : Cx mE G.1 G.2.1 mY cX9_back 2 (some .int) RX9 wsX9_back p s m args meth c A) (h : c_X9_back  σ = some (r0, τ)) : V p l e rmX9_back s m args below meth c 2 A G mY 0 0 (MQ below (QI G mY A r0 τ) args s 0 0 A) σ 0 [(0, .ref (G.2.2.1 0))] [] := by
  rw [c_X9_back] at h
  refine v_aload_n hC dX9_back_0 0 rfl ?_
  refine v_get (C := RX9) (T := TX9) (N := 45) (ci := 8) (k := 37) (v := .int (gI σ 0 37)) hC hO0 hi_X9_back_X9 rfl (by decide) (by decide) rfl rfl fl341_X9_back dX9_back_1 rfl ?_
  refine v_if_ne (tgt := 10) hC dX9_back_4 (by decide) (fun c_1 => ?_) (fun c_1 => ?_)
  · replace h := ifn c_1 h
    refine v_aload_n hC dX9_back_10 0 rfl ?_
    refine v_aload_n hC dX9_back_11 0 rfl ?_
    refine v_get (C := RX9) (T := TX9) (N := 45) (ci := 8) (k := 38) (v := .int (gI σ 0 38)) hC hO0 hi_X9_back_X9 rfl (by decide) (by decide) rfl rfl fl344_X9_back dX9_back_12 rfl ?_
    refine v_putI (C := RX9) (T := TX9) (N := 45) (ci := 8) (k := 8) (ty := .int) hC hO0 hi_X9_back_X9 rfl (by decide) (by decide) rfl rfl tyX9_ok nmX9 fl74_X9_back rfl rfl rfl rfl rfl dX9_back_15 ?_
    obtain ⟨s2, e3, h⟩ := ld h
    refine V.eq e3 ?_
    refine v_aload_n hC dX9_back_18 0 rfl ?_
    refine v_aload_n hC dX9_back_19 0 rfl ?_
    refine v_get (C := RX9) (T := TX9) (N := 45) (ci := 8) (k := 39) (v := .int (gI s2 0 39)) hC hO0 hi_X9_back_X9 rfl (by decide) (by decide) rfl rfl fl347_X9_back dX9_back_20 rfl ?_
    refine v_putI (C := RX9) (T := TX9) (N := 45) (ci := 8) (k := 9) (ty := .int) hC hO0 hi_X9_back_X9 rfl (by decide) (by decide) rfl rfl tyX9_ok nmX9 fl77_X9_back rfl rfl rfl rfl rfl dX9_back_23 ?_
    obtain ⟨s4, e5, h⟩ := ld h
    refine V.eq e5 ?_
    refine v_aload_n hC dX9_back_26 0 rfl ?_
    refine v_aload_n hC dX9_back_27 0 rfl ?_
    refine v_get (C := RX9) (T := TX9) (N := 45) (ci := 8) (k := 40) (v := .int (gI s4 0 40)) hC hO0 hi_X9_back_X9 rfl (by decide) (by decide) rfl rfl fl350_X9_back dX9_back_28 rfl ?_
    refine v_putI (C := RX9) (T := TX9) (N := 45) (ci := 8) (k := 4) (ty := .int) hC hO0 hi_X9_back_X9 rfl (by decide) (by decide) rfl rfl tyX9_ok nmX9 fl254_X9_back rfl rfl rfl rfl rfl dX9_back_31 ?_
    obtain ⟨s6, e7, h⟩ := ld h
    refine V.eq e7 ?_
    refine v_iconst (v := 0) hC dX9_back_34 (by decide) ?_
    refine v_istore_n (L' := [(0, .ref (G.2.2.1 0)), (1, .int 0)]) hC dX9_back_35 (by decide) [1, 0] rfl ?_
    exact w_X9_back_36 hG (hO0) hC FU _ _ h
  · replace h := ift c_1 h
    refine v_bipush (v := (-3)) hC dX9_back_7 (by decide) ?_
    exact v_iret hC rfl dX9_back_9 h
theorem k_X9_back (l : Launch) {G : WD}   {r0 : Int32} {τ : HS}  {σ : HS}  (hG : GX G mY) (hO0 : Ob G mY 0 8) (h : c_X9_back  σ = some (r0, τ)) : MI mE l yX9_back wsX9_back rmX9_back G mY [.ref (G.2.2.1 0)] σ r0 τ :=
  MI.of RX9 (by decide) rfl rfl (Nat.le_of_ble_eq_true rfl) rfl rfl (fun p e s m below meth c hC => w_X9_back  hG hO0 hC h)
abbrev rmX9_count : Room := { frames := 0, cells := 0, slots := 0, locals := 0 }
def c_X9_count (p1 : Int32) (σ : HS) : Option (Int32 × HS) := (if p1 = 0 then (some ((gI σ 0 8), σ)) else (if p1 = 1 then (some ((gI σ 0 9), σ)) else (if p1 = 2 then (some ((gI σ 0 26), σ)) else (if p1 = 3 then (some ((gI σ 0 3), σ)) else (if p1 = 4 then (some ((gI σ 0 6), σ)) else (if p1 = 5 then (some ((gI σ 0 4), σ)) else (some ((-2), σ))))))))
set_option maxHeartbeats 4000000 in
set_option maxRecDepth 100000 in
theorem w_X9_count {p : Program} {l : Launch} {e : Env} {s : State} {m : MethodId} {args : Array Value} {below : List Frame} {meth : Method} {c : Code} {A : Nat → Prop} {G : WD}  {r0 : Int32} {τ : HS} {p1 : Int32} {σ : HS}  (hG : GX G mY) (hO0 : Ob G mY 0 8) (hC : Cx mE G.1 G.2.1 mY cX9_count 2 (some .int) RX9 wsX9_count p s m args meth c A) (h : c_X9_count p1 σ = some (r0, τ)) : V p l e rmX9_count s m args below meth c 2 A G mY 0 0 (MQ below (QI G mY A r0 τ) args s 0 0 A) σ 0 [(0, .ref (G.2.2.1 0)), (1, .int p1)] [] := by
  rw [c_X9_count] at h
  refine v_iload_n hC dX9_count_0 1 rfl ?_
  by_cases c_1 : p1 = 0
  · replace h := ift c_1 h
    refine v_tabIn (v := 0) (tgt := 40) c_1 hC dX9_count_1 (by decide) (by decide) rfl (by decide) ?_
    refine v_aload_n hC dX9_count_40 0 rfl ?_
    refine v_get (C := RX9) (T := TX9) (N := 45) (ci := 8) (k := 8) (v := .int (gI σ 0 8)) hC hO0 hi_X9_count_X9 rfl (by decide) (by decide) rfl rfl fl74_X9_count dX9_count_41 rfl ?_
    exact v_iret hC rfl dX9_count_44 h
  · replace h := ifn c_1 h
    by_cases c_2 : p1 = 1
    · replace h := ift c_2 h
      refine v_tabIn (v := 1) (tgt := 45) c_2 hC dX9_count_1 (by decide) (by decide) rfl (by decide) ?_
      refine v_aload_n hC dX9_count_45 0 rfl ?_
      refine v_get (C := RX9) (T := TX9) (N := 45) (ci := 8) (k := 9) (v := .int (gI σ 0 9)) hC hO0 hi_X9_count_X9 rfl (by decide) (by decide) rfl rfl fl77_X9_count dX9_count_46 rfl ?_
      exact v_iret hC rfl dX9_count_49 h
    · replace h := ifn c_2 h
      by_cases c_3 : p1 = 2
      · replace h := ift c_3 h
        refine v_tabIn (v := 2) (tgt := 50) c_3 hC dX9_count_1 (by decide) (by decide) rfl (by decide) ?_
        refine v_aload_n hC dX9_count_50 0 rfl ?_
        refine v_get (C := RX9) (T := TX9) (N := 45) (ci := 8) (k := 26) (v := .int (gI σ 0 26)) hC hO0 hi_X9_count_X9 rfl (by decide) (by decide) rfl rfl fl257_X9_count dX9_count_51 rfl ?_
        exact v_iret hC rfl dX9_count_54 h
      · replace h := ifn c_3 h
        by_cases c_4 : p1 = 3
        · replace h := ift c_4 h
          refine v_tabIn (v := 3) (tgt := 55) c_4 hC dX9_count_1 (by decide) (by decide) rfl (by decide) ?_
          refine v_aload_n hC dX9_count_55 0 rfl ?_
          refine v_get (C := RX9) (T := TX9) (N := 45) (ci := 8) (k := 3) (v := .int (gI σ 0 3)) hC hO0 hi_X9_count_X9 rfl (by decide) (by decide) rfl rfl fl71_X9_count dX9_count_56 rfl ?_
          exact v_iret hC rfl dX9_count_59 h
        · replace h := ifn c_4 h
          by_cases c_5 : p1 = 4
          · replace h := ift c_5 h
            refine v_tabIn (v := 4) (tgt := 60) c_5 hC dX9_count_1 (by decide) (by decide) rfl (by decide) ?_
            refine v_aload_n hC dX9_count_60 0 rfl ?_
            refine v_get (C := RX9) (T := TX9) (N := 45) (ci := 8) (k := 6) (v := .int (gI σ 0 6)) hC hO0 hi_X9_count_X9 rfl (by decide) (by decide) rfl rfl fl124_X9_count dX9_count_61 rfl ?_
            exact v_iret hC rfl dX9_count_64 h
          · replace h := ifn c_5 h
            by_cases c_6 : p1 = 5
            · replace h := ift c_6 h
              refine v_tabIn (v := 5) (tgt := 65) c_6 hC dX9_count_1 (by decide) (by decide) rfl (by decide) ?_
              refine v_aload_n hC dX9_count_65 0 rfl ?_
              refine v_get (C := RX9) (T := TX9) (N := 45) (ci := 8) (k := 4) (v := .int (gI σ 0 4)) hC hO0 hi_X9_count_X9 rfl (by decide) (by decide) rfl rfl fl254_X9_count dX9_count_66 rfl ?_
              exact v_iret hC rfl dX9_count_69 h
            · replace h := ifn c_6 h
              have nc_1 : (Int32.toInt p1) ≠ 0 := fun q => c_1 (Int32.toInt_inj.mp q)
              have nc_2 : (Int32.toInt p1) ≠ 1 := fun q => c_2 (Int32.toInt_inj.mp q)
              have nc_3 : (Int32.toInt p1) ≠ 2 := fun q => c_3 (Int32.toInt_inj.mp q)
              have nc_4 : (Int32.toInt p1) ≠ 3 := fun q => c_4 (Int32.toInt_inj.mp q)
              have nc_5 : (Int32.toInt p1) ≠ 4 := fun q => c_5 (Int32.toInt_inj.mp q)
              have nc_6 : (Int32.toInt p1) ≠ 5 := fun q => c_6 (Int32.toInt_inj.mp q)
              refine v_tableOut (tgt := 70) hC dX9_count_1 (by omega) (by decide) ?_
              refine v_bipush (v := (-2)) hC dX9_count_70 (by decide) ?_
              exact v_iret hC rfl dX9_count_72 h
theorem k_X9_count (l : Launch) {G : WD}   {r0 : Int32} {τ : HS} {p1 : Int32} {σ : HS}  (hG : GX G mY) (hO0 : Ob G mY 0 8) (h : c_X9_count p1 σ = some (r0, τ)) : MI mE l yX9_count wsX9_count rmX9_count G mY [.ref (G.2.2.1 0), .int p1] σ r0 τ :=
  MI.of RX9 (by decide) rfl rfl (Nat.le_of_ble_eq_true rfl) rfl rfl (fun p e s m below meth c hC => w_X9_count  hG hO0 hC h)
abbrev rmX9_sheet : Room := { frames := 2, cells := 0, slots := 0, locals := 45 }
def c_X9_sheet_77 : Nat → Int32 → Int32 → Int32 → Int32 → HS → Option (Int32 × HS)
  | 0, _, _, _, _, _ => none
  | n + 1, x1, x2, x3, x4, σ => (if x3 ≤ x4 then (some (1, σ)) else (if x2 < 0 then (some (1, σ)) else (if inb ((40 * x1) + x4) 160 = true then (lt (sI σ 13 (ix ((40 * x1) + x4)) 0) (fun s26 => (c_X9_sheet_77 n x1 x2 x3 (x4 + 1) s26))) else none)))
set_option maxHeartbeats 4000000 in
set_option maxRecDepth 100000 in
theorem w_X9_sheet_77 {p : Program} {l : Launch} {e : Env} {s : State} {m : MethodId} {args : Array Value} {below : List Frame} {meth : Method} {c : Code} {A : Nat → Prop} {G : WD}  {r0 : Int32} {τ : HS}   (hG : GX G mY) (hO0 : Ob G mY 0 8) (hC : Cx mE G.1 G.2.1 mY cX9_sheet 5 (some .int) RX9 wsX9_sheet p s m args meth c A)  : ∀ (n : Nat) (x1 : Int32) (x2 : Int32) (x3 : Int32) (x4 : Int32) (σ : HS), c_X9_sheet_77 n x1 x2 x3 x4 σ = some (r0, τ) → V p l e rmX9_sheet s m args below meth c 5 A G mY 0 0 (MQ below (QI G mY A r0 τ) args s 0 0 A) σ 77 [(0, .ref (G.2.2.1 0)), (1, .int x1), (2, .int x2), (3, .int x3), (4, .int x4)] [] := by
  intro n
  induction n with
  | zero => intro x1 x2 x3 x4 σ h; exact nof h
  | succ n ih =>
    intro x1 x2 x3 x4 σ h
    rw [c_X9_sheet_77] at h
    refine v_iload hC dX9_sheet_77 4 rfl ?_
    refine v_iload_n hC dX9_sheet_79 3 rfl ?_
    refine v_icmp_ge (tgt := 106) hC dX9_sheet_80 (by decide) (fun c_23 => ?_) (fun c_23 => ?_)
    · replace h := ift c_23 h
      refine v_iconst (v := 1) hC dX9_sheet_106 (by decide) ?_
      exact v_iret hC rfl dX9_sheet_107 h
    · replace h := ifn c_23 h
      refine v_iload_n hC dX9_sheet_83 2 rfl ?_
      refine v_if_lt (tgt := 106) hC dX9_sheet_84 (by decide) (fun c_24 => ?_) (fun c_24 => ?_)
      · replace h := ift c_24 h
        refine v_iconst (v := 1) hC dX9_sheet_106 (by decide) ?_
        exact v_iret hC rfl dX9_sheet_107 h
      · replace h := ifn c_24 h
        refine v_aload_n hC dX9_sheet_87 0 rfl ?_
        refine v_get (C := RX9) (T := TX9) (N := 45) (ci := 8) (k := 44) (v := .ref (G.2.2.1 13)) hC hO0 hi_X9_sheet_X9 rfl (by decide) (by decide) rfl rfl fl52_X9_sheet dX9_sheet_88 rfl ?_
        refine v_bipush (v := 40) hC dX9_sheet_91 (by decide) ?_
        refine v_iload_n hC dX9_sheet_93 1 rfl ?_
        refine v_imul hC dX9_sheet_94 ?_
        refine v_iload hC dX9_sheet_95 4 rfl ?_
        refine v_iadd hC dX9_sheet_97 ?_
        refine v_iconst (v := 0) hC dX9_sheet_98 (by decide) ?_
        obtain ⟨g_25, h⟩ := gd h
        refine v_iast hC (obM_8_44 hG hO0).1 (obM_8_44 hG hO0).2 (t0 := 0) rfl g_25 dX9_sheet_99 ?_
        obtain ⟨s26, e27, h⟩ := ld h
        refine V.eq e27 ?_
        refine v_iinc (v := (x4 + 1)) (L' := [(0, .ref (G.2.2.1 0)), (1, .int x1), (2, .int x2), (3, .int x3), (4, .int (x4 + 1))]) hC dX9_sheet_100 4 rfl rfl (by decide) [1, 2, 3, 4, 0] rfl ?_
        refine v_goto (tgt := 77) hC dX9_sheet_103 (by decide) ?_
        exact ih _ _ _ _ _ h
def c_X9_sheet_59 (x1 : Int32) (x2 : Int32) (x3 : Int32) (y1 : Int32) (y2 : Int32) (σ : HS) : Option (Int32 × HS) := (if inb y1 4 = true then (lt (sI σ 10 (ix y1) (vp_nar .boolean y2)) (fun s15 => (if inb x1 4 = true then (lt (sI s15 11 (ix x1) x2) (fun s18 => (if inb x1 4 = true then (lt (sI s18 12 (ix x1) x3) (fun s21 => (c_X9_sheet_77 FU x1 x2 x3 0 s21))) else none))) else none))) else none)
set_option maxHeartbeats 4000000 in
set_option maxRecDepth 100000 in
theorem w_X9_sheet_59 {p : Program} {l : Launch} {e : Env} {s : State} {m : MethodId} {args : Array Value} {below : List Frame} {meth : Method} {c : Code} {A : Nat → Prop} {G : WD}  {r0 : Int32} {τ : HS}  {x1 : Int32} {x2 : Int32} {x3 : Int32} {y1 : Int32} {y2 : Int32} {σ : HS}  (hG : GX G mY) (hO0 : Ob G mY 0 8) (hP0 : Ob G mY 10 11) (hC : Cx mE G.1 G.2.1 mY cX9_sheet 5 (some .int) RX9 wsX9_sheet p s m args meth c A)  (h : c_X9_sheet_59 x1 x2 x3 y1 y2 σ = some (r0, τ)) : V p l e rmX9_sheet s m args below meth c 5 A G mY 0 0 (MQ below (QI G mY A r0 τ) args s 0 0 A) σ 59 [(0, .ref (G.2.2.1 0)), (1, .int x1), (2, .int x2), (3, .int x3)] [.int y2, .int y1, .ref (G.2.2.1 10)] := by
  rw [c_X9_sheet_59] at h
  obtain ⟨g_14, h⟩ := gd h
  refine v_zast hC hP0 (obM_8_41 hG hO0).2 (t0 := 2) rfl g_14 dX9_sheet_59 ?_
  obtain ⟨s15, e16, h⟩ := ld h
  refine V.eq e16 ?_
  refine v_aload_n hC dX9_sheet_60 0 rfl ?_
  refine v_get (C := RX9) (T := TX9) (N := 45) (ci := 8) (k := 42) (v := .ref (G.2.2.1 11)) hC hO0 hi_X9_sheet_X9 rfl (by decide) (by decide) rfl rfl fl46_X9_sheet dX9_sheet_61 rfl ?_
  refine v_iload_n hC dX9_sheet_64 1 rfl ?_
  refine v_iload_n hC dX9_sheet_65 2 rfl ?_
  obtain ⟨g_17, h⟩ := gd h
  refine v_iast hC (obM_8_42 hG hO0).1 (obM_8_42 hG hO0).2 (t0 := 0) rfl g_17 dX9_sheet_66 ?_
  obtain ⟨s18, e19, h⟩ := ld h
  refine V.eq e19 ?_
  refine v_aload_n hC dX9_sheet_67 0 rfl ?_
  refine v_get (C := RX9) (T := TX9) (N := 45) (ci := 8) (k := 43) (v := .ref (G.2.2.1 12)) hC hO0 hi_X9_sheet_X9 rfl (by decide) (by decide) rfl rfl fl49_X9_sheet dX9_sheet_68 rfl ?_
  refine v_iload_n hC dX9_sheet_71 1 rfl ?_
  refine v_iload_n hC dX9_sheet_72 3 rfl ?_
  obtain ⟨g_20, h⟩ := gd h
  refine v_iast hC (obM_8_43 hG hO0).1 (obM_8_43 hG hO0).2 (t0 := 0) rfl g_20 dX9_sheet_73 ?_
  obtain ⟨s21, e22, h⟩ := ld h
  refine V.eq e22 ?_
  refine v_iconst (v := 0) hC dX9_sheet_74 (by decide) ?_
  refine v_istore (L' := [(0, .ref (G.2.2.1 0)), (1, .int x1), (2, .int x2), (3, .int x3), (4, .int 0)]) hC dX9_sheet_75 (by decide) [1, 2, 3, 4, 0] rfl ?_
  exact w_X9_sheet_77 hG (hO0) hC FU _ _ _ _ _ h
def c_X9_sheet_45 (x1 : Int32) (x2 : Int32) (x3 : Int32) (σ : HS) : Option (Int32 × HS) := (if x2 < 0 then (c_X9_sheet_59 x1 x2 x3 x1 0 σ) else (c_X9_sheet_59 x1 x2 x3 x1 1 σ))
set_option maxHeartbeats 4000000 in
set_option maxRecDepth 100000 in
theorem w_X9_sheet_45 {p : Program} {l : Launch} {e : Env} {s : State} {m : MethodId} {args : Array Value} {below : List Frame} {meth : Method} {c : Code} {A : Nat → Prop} {G : WD}  {r0 : Int32} {τ : HS}  {x1 : Int32} {x2 : Int32} {x3 : Int32} {σ : HS}  (hG : GX G mY) (hO0 : Ob G mY 0 8) (hC : Cx mE G.1 G.2.1 mY cX9_sheet 5 (some .int) RX9 wsX9_sheet p s m args meth c A)  (h : c_X9_sheet_45 x1 x2 x3 σ = some (r0, τ)) : V p l e rmX9_sheet s m args below meth c 5 A G mY 0 0 (MQ below (QI G mY A r0 τ) args s 0 0 A) σ 45 [(0, .ref (G.2.2.1 0)), (1, .int x1), (2, .int x2), (3, .int x3)] [] := by
  rw [c_X9_sheet_45] at h
  refine v_aload_n hC dX9_sheet_45 0 rfl ?_
  refine v_get (C := RX9) (T := TX9) (N := 45) (ci := 8) (k := 41) (v := .ref (G.2.2.1 10)) hC hO0 hi_X9_sheet_X9 rfl (by decide) (by decide) rfl rfl fl42_X9_sheet dX9_sheet_46 rfl ?_
  refine v_iload_n hC dX9_sheet_49 1 rfl ?_
  refine v_iload_n hC dX9_sheet_50 2 rfl ?_
  refine v_if_lt (tgt := 58) hC dX9_sheet_51 (by decide) (fun c_13 => ?_) (fun c_13 => ?_)
  · replace h := ift c_13 h
    refine v_iconst (v := 0) hC dX9_sheet_58 (by decide) ?_
    exact w_X9_sheet_59 hG (hO0) ((obM_8_41 hG hO0).1) hC h
  · replace h := ifn c_13 h
    refine v_iconst (v := 1) hC dX9_sheet_54 (by decide) ?_
    refine v_goto (tgt := 59) hC dX9_sheet_55 (by decide) ?_
    exact w_X9_sheet_59 hG (hO0) ((obM_8_41 hG hO0).1) hC h
def c_X9_sheet_34 (x1 : Int32) (x2 : Int32) (x3 : Int32) (σ : HS) : Option (Int32 × HS) := (if x2 < 0 then (c_X9_sheet_45 x1 x2 x3 σ) else (if 0 ≤ x3 then (c_X9_sheet_45 x1 x2 x3 σ) else (some ((-14), σ))))
set_option maxHeartbeats 4000000 in
set_option maxRecDepth 100000 in
theorem w_X9_sheet_34 {p : Program} {l : Launch} {e : Env} {s : State} {m : MethodId} {args : Array Value} {below : List Frame} {meth : Method} {c : Code} {A : Nat → Prop} {G : WD}  {r0 : Int32} {τ : HS}  {x1 : Int32} {x2 : Int32} {x3 : Int32} {σ : HS}  (hG : GX G mY) (hO0 : Ob G mY 0 8) (hC : Cx mE G.1 G.2.1 mY cX9_sheet 5 (some .int) RX9 wsX9_sheet p s m args meth c A)  (h : c_X9_sheet_34 x1 x2 x3 σ = some (r0, τ)) : V p l e rmX9_sheet s m args below meth c 5 A G mY 0 0 (MQ below (QI G mY A r0 τ) args s 0 0 A) σ 34 [(0, .ref (G.2.2.1 0)), (1, .int x1), (2, .int x2), (3, .int x3)] [] := by
  rw [c_X9_sheet_34] at h
  refine v_iload_n hC dX9_sheet_34 2 rfl ?_
  refine v_if_lt (tgt := 45) hC dX9_sheet_35 (by decide) (fun c_11 => ?_) (fun c_11 => ?_)
  · replace h := ift c_11 h
    exact w_X9_sheet_45 hG (hO0) hC h
  · replace h := ifn c_11 h
    refine v_iload_n hC dX9_sheet_38 3 rfl ?_
    refine v_if_ge (tgt := 45) hC dX9_sheet_39 (by decide) (fun c_12 => ?_) (fun c_12 => ?_)
    · replace h := ift c_12 h
      exact w_X9_sheet_45 hG (hO0) hC h
    · replace h := ifn c_12 h
      refine v_bipush (v := (-14)) hC dX9_sheet_42 (by decide) ?_
      exact v_iret hC rfl dX9_sheet_44 h
def c_X9_sheet (p1 : Int32) (p2 : Int32) (p3 : Int32) (σ : HS) : Option (Int32 × HS) := (bi2 (c_X9_isSheet p1 σ) (fun r3 s2 => (if r3 = 0 then (some ((-2), s2)) else (bi2 (c_X9_in (Int32.toInt64 p2) (-1) 2 s2) (fun r7 s6 => (if r7 = 0 then (some ((-2), s6)) else (if p2 < 0 then (c_X9_sheet_34 p1 p2 p3 s6) else (if p3 ≤ 40 then (c_X9_sheet_34 p1 p2 p3 s6) else (some ((-2), s6))))))))))
set_option maxHeartbeats 4000000 in
set_option maxRecDepth 100000 in
theorem w_X9_sheet {p : Program} {l : Launch} {e : Env} {s : State} {m : MethodId} {args : Array Value} {below : List Frame} {meth : Method} {c : Code} {A : Nat → Prop} {G : WD}  {r0 : Int32} {τ : HS} {p1 : Int32} {p2 : Int32} {p3 : Int32} {σ : HS}  (hG : GX G mY) (hO0 : Ob G mY 0 8) (hC : Cx mE G.1 G.2.1 mY cX9_sheet 5 (some .int) RX9 wsX9_sheet p s m args meth c A) (h : c_X9_sheet p1 p2 p3 σ = some (r0, τ)) : V p l e rmX9_sheet s m args below meth c 5 A G mY 0 0 (MQ below (QI G mY A r0 τ) args s 0 0 A) σ 0 [(0, .ref (G.2.2.1 0)), (1, .int p1), (2, .int p2), (3, .int p3)] [] := by
  rw [c_X9_sheet] at h
  refine v_iload_n hC dX9_sheet_0 1 rfl ?_
  obtain ⟨r3, s2, hc_1, h⟩ := bd2 h
  refine v_callSI hC mE_ok (n := 1) (As := [.int p1]) (k_X9_isSheet l hG hc_1) (va_cwS 1 hC.1.2.2.2.2 gX9_sheet_X9_isSheet rfl rfl rfl (by decide +kernel) ⟨(Nat.le_of_ble_eq_true rfl), (Nat.le_of_ble_eq_true rfl)⟩) rfl (Nat.le_of_ble_eq_true rfl) ⟨Nat.zero_le _, Nat.zero_le _⟩ dX9_sheet_1 rfl ?_
  refine v_if_eq (tgt := 31) hC dX9_sheet_4 (by decide) (fun c_4 => ?_) (fun c_4 => ?_)
  · replace h := ift c_4 h
    refine v_bipush (v := (-2)) hC dX9_sheet_31 (by decide) ?_
    exact v_iret hC rfl dX9_sheet_33 h
  · replace h := ifn c_4 h
    refine v_iload_n hC dX9_sheet_7 2 rfl ?_
    refine v_i2l hC dX9_sheet_8 ?_
    refine v_ldc2 (v := (-1)) hC lc95_X9_sheet dX9_sheet_9 ?_
    refine v_ldc2 (v := 2) hC lc117_X9_sheet dX9_sheet_12 ?_
    obtain ⟨r7, s6, hc_5, h⟩ := bd2 h
    refine v_callSI hC mE_ok (n := 3) (As := [.long (Int32.toInt64 p2), .long (-1), .long 2]) (k_X9_in l hG hc_5) (va_cwS 3 hC.1.2.2.2.2 gX9_sheet_X9_in rfl rfl rfl (by decide +kernel) ⟨(Nat.le_of_ble_eq_true rfl), (Nat.le_of_ble_eq_true rfl)⟩) rfl (Nat.le_of_ble_eq_true rfl) ⟨Nat.zero_le _, Nat.zero_le _⟩ dX9_sheet_15 rfl ?_
    refine v_if_eq (tgt := 31) hC dX9_sheet_18 (by decide) (fun c_8 => ?_) (fun c_8 => ?_)
    · replace h := ift c_8 h
      refine v_bipush (v := (-2)) hC dX9_sheet_31 (by decide) ?_
      exact v_iret hC rfl dX9_sheet_33 h
    · replace h := ifn c_8 h
      refine v_iload_n hC dX9_sheet_21 2 rfl ?_
      refine v_if_lt (tgt := 34) hC dX9_sheet_22 (by decide) (fun c_9 => ?_) (fun c_9 => ?_)
      · replace h := ift c_9 h
        exact w_X9_sheet_34 hG (hO0) hC h
      · replace h := ifn c_9 h
        refine v_iload_n hC dX9_sheet_25 3 rfl ?_
        refine v_bipush (v := 40) hC dX9_sheet_26 (by decide) ?_
        refine v_icmp_le (tgt := 34) hC dX9_sheet_28 (by decide) (fun c_10 => ?_) (fun c_10 => ?_)
        · replace h := ift c_10 h
          exact w_X9_sheet_34 hG (hO0) hC h
        · replace h := ifn c_10 h
          refine v_bipush (v := (-2)) hC dX9_sheet_31 (by decide) ?_
          exact v_iret hC rfl dX9_sheet_33 h
theorem k_X9_sheet (l : Launch) {G : WD}   {r0 : Int32} {τ : HS} {p1 : Int32} {p2 : Int32} {p3 : Int32} {σ : HS}  (hG : GX G mY) (hO0 : Ob G mY 0 8) (h : c_X9_sheet p1 p2 p3 σ = some (r0, τ)) : MI mE l yX9_sheet wsX9_sheet rmX9_sheet G mY [.ref (G.2.2.1 0), .int p1, .int p2, .int p3] σ r0 τ :=
  MI.of RX9 (by decide) rfl rfl (Nat.le_of_ble_eq_true rfl) rfl rfl (fun p e s m below meth c hC => w_X9_sheet  hG hO0 hC h)
abbrev rmX9_cell : Room := { frames := 2, cells := 0, slots := 0, locals := 45 }
def c_X9_cell (p1 : Int32) (p2 : Int32) (p3 : Int32) (σ : HS) : Option (Int32 × HS) := (bi2 (c_X9_isSheet p1 σ) (fun r3 s2 => (if r3 = 0 then (some ((-2), s2)) else (if inb p1 4 = true then (if (gI s2 10 (ix p1)) = 0 then (some ((-11), s2)) else (if inb p1 4 = true then (bi2 (c_X9_in (Int32.toInt64 p2) 0 (Int32.toInt64 ((gI s2 12 (ix p1)) - 1)) s2) (fun r10 s9 => (if r10 = 0 then (some ((-12), s9)) else (if inb p1 4 = true then (if (gI s9 11 (ix p1)) = 0 then (if inb ((40 * p1) + p2) 160 = true then (lt (sI s9 13 (ix ((40 * p1) + p2)) (Int32.toInt8 p3).toInt32) (fun s23 => (some (1, s23)))) else none) else (if inb p1 4 = true then (if (gI s9 11 (ix p1)) = 1 then (if inb ((40 * p1) + p2) 160 = true then (lt (sI s9 13 (ix ((40 * p1) + p2)) (Int32.toInt16 p3).toInt32) (fun s20 => (some (1, s20)))) else none) else (if inb ((40 * p1) + p2) 160 = true then (lt (sI s9 13 (ix ((40 * p1) + p2)) p3) (fun s17 => (some (1, s17)))) else none)) else none)) else none)))) else none)) else none))))
set_option maxHeartbeats 4000000 in
set_option maxRecDepth 100000 in
theorem w_X9_cell {p : Program} {l : Launch} {e : Env} {s : State} {m : MethodId} {args : Array Value} {below : List Frame} {meth : Method} {c : Code} {A : Nat → Prop} {G : WD}  {r0 : Int32} {τ : HS} {p1 : Int32} {p2 : Int32} {p3 : Int32} {σ : HS}  (hG : GX G mY) (hO0 : Ob G mY 0 8) (hC : Cx mE G.1 G.2.1 mY cX9_cell 4 (some .int) RX9 wsX9_cell p s m args meth c A) (h : c_X9_cell p1 p2 p3 σ = some (r0, τ)) : V p l e rmX9_cell s m args below meth c 4 A G mY 0 0 (MQ below (QI G mY A r0 τ) args s 0 0 A) σ 0 [(0, .ref (G.2.2.1 0)), (1, .int p1), (2, .int p2), (3, .int p3)] [] := by
  rw [c_X9_cell] at h
  refine v_iload_n hC dX9_cell_0 1 rfl ?_
  obtain ⟨r3, s2, hc_1, h⟩ := bd2 h
  refine v_callSI hC mE_ok (n := 1) (As := [.int p1]) (k_X9_isSheet l hG hc_1) (va_cwS 1 hC.1.2.2.2.2 gX9_cell_X9_isSheet rfl rfl rfl (by decide +kernel) ⟨(Nat.le_of_ble_eq_true rfl), (Nat.le_of_ble_eq_true rfl)⟩) rfl (Nat.le_of_ble_eq_true rfl) ⟨Nat.zero_le _, Nat.zero_le _⟩ dX9_cell_1 rfl ?_
  refine v_if_ne (tgt := 10) hC dX9_cell_4 (by decide) (fun c_4 => ?_) (fun c_4 => ?_)
  · replace h := ifn c_4 h
    refine v_aload_n hC dX9_cell_10 0 rfl ?_
    refine v_get (C := RX9) (T := TX9) (N := 45) (ci := 8) (k := 41) (v := .ref (G.2.2.1 10)) hC hO0 hi_X9_cell_X9 rfl (by decide) (by decide) rfl rfl fl42_X9_cell dX9_cell_11 rfl ?_
    refine v_iload_n hC dX9_cell_14 1 rfl ?_
    obtain ⟨g_5, h⟩ := gd h
    refine v_zald hC (obM_8_41 hG hO0).1 (obM_8_41 hG hO0).2 (t0 := 2) rfl g_5 dX9_cell_15 ?_
    refine v_if_ne (tgt := 22) hC dX9_cell_16 (by decide) (fun c_6 => ?_) (fun c_6 => ?_)
    · replace h := ifn c_6 h
      refine v_iload_n hC dX9_cell_22 2 rfl ?_
      refine v_i2l hC dX9_cell_23 ?_
      refine v_lconst (v := 0) hC dX9_cell_24 (by decide) ?_
      refine v_aload_n hC dX9_cell_25 0 rfl ?_
      refine v_get (C := RX9) (T := TX9) (N := 45) (ci := 8) (k := 43) (v := .ref (G.2.2.1 12)) hC hO0 hi_X9_cell_X9 rfl (by decide) (by decide) rfl rfl fl49_X9_cell dX9_cell_26 rfl ?_
      refine v_iload_n hC dX9_cell_29 1 rfl ?_
      obtain ⟨g_7, h⟩ := gd h
      refine v_iald hC (obM_8_43 hG hO0).1 (obM_8_43 hG hO0).2 (t0 := 0) rfl g_7 dX9_cell_30 ?_
      refine v_iconst (v := 1) hC dX9_cell_31 (by decide) ?_
      refine v_isub hC dX9_cell_32 ?_
      refine v_i2l hC dX9_cell_33 ?_
      obtain ⟨r10, s9, hc_8, h⟩ := bd2 h
      refine v_callSI hC mE_ok (n := 3) (As := [.long (Int32.toInt64 p2), .long 0, .long (Int32.toInt64 ((gI s2 12 (ix p1)) - 1))]) (k_X9_in l hG hc_8) (va_cwS 3 hC.1.2.2.2.2 gX9_cell_X9_in rfl rfl rfl (by decide +kernel) ⟨(Nat.le_of_ble_eq_true rfl), (Nat.le_of_ble_eq_true rfl)⟩) rfl (Nat.le_of_ble_eq_true rfl) ⟨Nat.zero_le _, Nat.zero_le _⟩ dX9_cell_34 rfl ?_
      refine v_if_ne (tgt := 43) hC dX9_cell_37 (by decide) (fun c_11 => ?_) (fun c_11 => ?_)
      · replace h := ifn c_11 h
        refine v_aload_n hC dX9_cell_43 0 rfl ?_
        refine v_get (C := RX9) (T := TX9) (N := 45) (ci := 8) (k := 44) (v := .ref (G.2.2.1 13)) hC hO0 hi_X9_cell_X9 rfl (by decide) (by decide) rfl rfl fl52_X9_cell dX9_cell_44 rfl ?_
        refine v_bipush (v := 40) hC dX9_cell_47 (by decide) ?_
        refine v_iload_n hC dX9_cell_49 1 rfl ?_
        refine v_imul hC dX9_cell_50 ?_
        refine v_iload_n hC dX9_cell_51 2 rfl ?_
        refine v_iadd hC dX9_cell_52 ?_
        refine v_aload_n hC dX9_cell_53 0 rfl ?_
        refine v_get (C := RX9) (T := TX9) (N := 45) (ci := 8) (k := 42) (v := .ref (G.2.2.1 11)) hC hO0 hi_X9_cell_X9 rfl (by decide) (by decide) rfl rfl fl46_X9_cell dX9_cell_54 rfl ?_
        refine v_iload_n hC dX9_cell_57 1 rfl ?_
        obtain ⟨g_12, h⟩ := gd h
        refine v_iald hC (obM_8_42 hG hO0).1 (obM_8_42 hG hO0).2 (t0 := 0) rfl g_12 dX9_cell_58 ?_
        refine v_if_ne (tgt := 67) hC dX9_cell_59 (by decide) (fun c_13 => ?_) (fun c_13 => ?_)
        · replace h := ifn c_13 h
          refine v_aload_n hC dX9_cell_67 0 rfl ?_
          refine v_get (C := RX9) (T := TX9) (N := 45) (ci := 8) (k := 42) (v := .ref (G.2.2.1 11)) hC hO0 hi_X9_cell_X9 rfl (by decide) (by decide) rfl rfl fl46_X9_cell dX9_cell_68 rfl ?_
          refine v_iload_n hC dX9_cell_71 1 rfl ?_
          obtain ⟨g_14, h⟩ := gd h
          refine v_iald hC (obM_8_42 hG hO0).1 (obM_8_42 hG hO0).2 (t0 := 0) rfl g_14 dX9_cell_72 ?_
          refine v_iconst (v := 1) hC dX9_cell_73 (by decide) ?_
          refine v_icmp_ne (tgt := 82) hC dX9_cell_74 (by decide) (fun c_15 => ?_) (fun c_15 => ?_)
          · replace h := ifn c_15 h
            refine v_iload_n hC dX9_cell_82 3 rfl ?_
            obtain ⟨g_16, h⟩ := gd h
            refine v_iast hC (obM_8_44 hG hO0).1 (obM_8_44 hG hO0).2 (t0 := 0) rfl g_16 dX9_cell_83 ?_
            obtain ⟨s17, e18, h⟩ := ld h
            refine V.eq e18 ?_
            refine v_iconst (v := 1) hC dX9_cell_84 (by decide) ?_
            exact v_iret hC rfl dX9_cell_85 h
          · replace h := ift c_15 h
            refine v_iload_n hC dX9_cell_77 3 rfl ?_
            refine v_i2s hC dX9_cell_78 ?_
            refine v_goto (tgt := 83) hC dX9_cell_79 (by decide) ?_
            obtain ⟨g_19, h⟩ := gd h
            refine v_iast hC (obM_8_44 hG hO0).1 (obM_8_44 hG hO0).2 (t0 := 0) rfl g_19 dX9_cell_83 ?_
            obtain ⟨s20, e21, h⟩ := ld h
            refine V.eq e21 ?_
            refine v_iconst (v := 1) hC dX9_cell_84 (by decide) ?_
            exact v_iret hC rfl dX9_cell_85 h
        · replace h := ift c_13 h
          refine v_iload_n hC dX9_cell_62 3 rfl ?_
          refine v_i2b hC dX9_cell_63 ?_
          refine v_goto (tgt := 83) hC dX9_cell_64 (by decide) ?_
          obtain ⟨g_22, h⟩ := gd h
          refine v_iast hC (obM_8_44 hG hO0).1 (obM_8_44 hG hO0).2 (t0 := 0) rfl g_22 dX9_cell_83 ?_
          obtain ⟨s23, e24, h⟩ := ld h
          refine V.eq e24 ?_
          refine v_iconst (v := 1) hC dX9_cell_84 (by decide) ?_
          exact v_iret hC rfl dX9_cell_85 h
      · replace h := ift c_11 h
        refine v_bipush (v := (-12)) hC dX9_cell_40 (by decide) ?_
        exact v_iret hC rfl dX9_cell_42 h
    · replace h := ift c_6 h
      refine v_bipush (v := (-11)) hC dX9_cell_19 (by decide) ?_
      exact v_iret hC rfl dX9_cell_21 h
  · replace h := ift c_4 h
    refine v_bipush (v := (-2)) hC dX9_cell_7 (by decide) ?_
    exact v_iret hC rfl dX9_cell_9 h
theorem k_X9_cell (l : Launch) {G : WD}   {r0 : Int32} {τ : HS} {p1 : Int32} {p2 : Int32} {p3 : Int32} {σ : HS}  (hG : GX G mY) (hO0 : Ob G mY 0 8) (h : c_X9_cell p1 p2 p3 σ = some (r0, τ)) : MI mE l yX9_cell wsX9_cell rmX9_cell G mY [.ref (G.2.2.1 0), .int p1, .int p2, .int p3] σ r0 τ :=
  MI.of RX9 (by decide) rfl rfl (Nat.le_of_ble_eq_true rfl) rfl rfl (fun p e s m below meth c hC => w_X9_cell  hG hO0 hC h)
abbrev rmX9_copy : Room := { frames := 2, cells := 0, slots := 0, locals := 45 }
def c_X9_copy_145 (k121 : Int32 → Int32 → Int32 → Int32 → Int32 → Int32 → Int32 → HS → Option (Int32 × HS)) (x1 : Int32) (x2 : Int32) (x3 : Int32) (x4 : Int32) (x5 : Int32) (x6 : Int32) (x7 : Int32) (y0 : Int32) (σ : HS) : Option (Int32 × HS) := (if inb (((40 * x1) + x2) + y0) 160 = true then (if inb (((40 * x3) + x4) + y0) 160 = true then (lt (sI σ 13 (ix (((40 * x3) + x4) + y0)) (gI σ 13 (ix (((40 * x1) + x2) + y0)))) (fun s29 => (k121 x1 x2 x3 x4 x5 x6 (x7 + 1) s29))) else none) else none)
set_option maxHeartbeats 4000000 in
set_option maxRecDepth 100000 in
theorem w_X9_copy_145 {p : Program} {l : Launch} {e : Env} {s : State} {m : MethodId} {args : Array Value} {below : List Frame} {meth : Method} {c : Code} {A : Nat → Prop} {G : WD}  {r0 : Int32} {τ : HS}  {k121 : Int32 → Int32 → Int32 → Int32 → Int32 → Int32 → Int32 → HS → Option (Int32 × HS)} {x1 : Int32} {x2 : Int32} {x3 : Int32} {x4 : Int32} {x5 : Int32} {x6 : Int32} {x7 : Int32} {y0 : Int32} {σ : HS}  (hG : GX G mY) (hO0 : Ob G mY 0 8) (hC : Cx mE G.1 G.2.1 mY cX9_copy 9 (some .int) RX9 wsX9_copy p s m args meth c A) (hk121 : ∀ (x1 : Int32) (x2 : Int32) (x3 : Int32) (x4 : Int32) (x5 : Int32) (x6 : Int32) (x7 : Int32) (σ : HS), k121 x1 x2 x3 x4 x5 x6 x7 σ = some (r0, τ) → V p l e rmX9_copy s m args below meth c 9 A G mY 0 0 (MQ below (QI G mY A r0 τ) args s 0 0 A) σ 121 [(0, .ref (G.2.2.1 0)), (1, .int x1), (2, .int x2), (3, .int x3), (4, .int x4), (5, .int x5), (6, .int x6), (7, .int x7)] []) (h : c_X9_copy_145 k121 x1 x2 x3 x4 x5 x6 x7 y0 σ = some (r0, τ)) : V p l e rmX9_copy s m args below meth c 9 A G mY 0 0 (MQ below (QI G mY A r0 τ) args s 0 0 A) σ 145 [(0, .ref (G.2.2.1 0)), (1, .int x1), (2, .int x2), (3, .int x3), (4, .int x4), (5, .int x5), (6, .int x6), (7, .int x7)] [.int y0] := by
  rw [c_X9_copy_145] at h
  refine v_istore (L' := [(0, .ref (G.2.2.1 0)), (1, .int x1), (2, .int x2), (3, .int x3), (4, .int x4), (5, .int x5), (6, .int x6), (7, .int x7), (8, .int y0)]) hC dX9_copy_145 (by decide) [1, 2, 3, 4, 5, 6, 7, 8, 0] rfl ?_
  refine v_aload_n hC dX9_copy_147 0 rfl ?_
  refine v_get (C := RX9) (T := TX9) (N := 45) (ci := 8) (k := 44) (v := .ref (G.2.2.1 13)) hC hO0 hi_X9_copy_X9 rfl (by decide) (by decide) rfl rfl fl52_X9_copy dX9_copy_148 rfl ?_
  refine v_bipush (v := 40) hC dX9_copy_151 (by decide) ?_
  refine v_iload_n hC dX9_copy_153 3 rfl ?_
  refine v_imul hC dX9_copy_154 ?_
  refine v_iload hC dX9_copy_155 4 rfl ?_
  refine v_iadd hC dX9_copy_157 ?_
  refine v_iload hC dX9_copy_158 8 rfl ?_
  refine v_iadd hC dX9_copy_160 ?_
  refine v_aload_n hC dX9_copy_161 0 rfl ?_
  refine v_get (C := RX9) (T := TX9) (N := 45) (ci := 8) (k := 44) (v := .ref (G.2.2.1 13)) hC hO0 hi_X9_copy_X9 rfl (by decide) (by decide) rfl rfl fl52_X9_copy dX9_copy_162 rfl ?_
  refine v_bipush (v := 40) hC dX9_copy_165 (by decide) ?_
  refine v_iload_n hC dX9_copy_167 1 rfl ?_
  refine v_imul hC dX9_copy_168 ?_
  refine v_iload_n hC dX9_copy_169 2 rfl ?_
  refine v_iadd hC dX9_copy_170 ?_
  refine v_iload hC dX9_copy_171 8 rfl ?_
  refine v_iadd hC dX9_copy_173 ?_
  obtain ⟨g_27, h⟩ := gd h
  refine v_iald hC (obM_8_44 hG hO0).1 (obM_8_44 hG hO0).2 (t0 := 0) rfl g_27 dX9_copy_174 ?_
  obtain ⟨g_28, h⟩ := gd h
  refine v_iast hC (obM_8_44 hG hO0).1 (obM_8_44 hG hO0).2 (t0 := 0) rfl g_28 dX9_copy_175 ?_
  obtain ⟨s29, e30, h⟩ := ld h
  refine V.eq e30 ?_
  refine v_iinc (v := (x7 + 1)) (L' := [(0, .ref (G.2.2.1 0)), (1, .int x1), (2, .int x2), (3, .int x3), (4, .int x4), (5, .int x5), (6, .int x6), (7, .int (x7 + 1)), (8, .int y0)]) hC dX9_copy_176 7 rfl rfl (by decide) [1, 2, 3, 4, 5, 6, 7, 0, 8] rfl ?_
  refine v_goto (tgt := 121) hC dX9_copy_179 (by decide) ?_
  refine V.sub (L' := [(0, .ref (G.2.2.1 0)), (1, .int x1), (2, .int x2), (3, .int x3), (4, .int x4), (5, .int x5), (6, .int x6), (7, .int (x7 + 1))]) [0, 1, 2, 3, 4, 5, 6, 7] rfl ?_
  exact hk121 _ _ _ _ _ _ _ _ h
def c_X9_copy_121 : Nat → Int32 → Int32 → Int32 → Int32 → Int32 → Int32 → Int32 → HS → Option (Int32 × HS)
  | 0, _, _, _, _, _, _, _, _ => none
  | n + 1, x1, x2, x3, x4, x5, x6, x7, σ => (if x5 ≤ x7 then (some (x5, σ)) else (if x6 = 0 then (c_X9_copy_145 (fun z0 z1 z2 z3 z4 z5 z6 z7 => c_X9_copy_121 n z0 z1 z2 z3 z4 z5 z6 z7) x1 x2 x3 x4 x5 x6 x7 x7 σ) else (c_X9_copy_145 (fun z0 z1 z2 z3 z4 z5 z6 z7 => c_X9_copy_121 n z0 z1 z2 z3 z4 z5 z6 z7) x1 x2 x3 x4 x5 x6 x7 ((x5 - 1) - x7) σ)))
set_option maxHeartbeats 4000000 in
set_option maxRecDepth 100000 in
theorem w_X9_copy_121 {p : Program} {l : Launch} {e : Env} {s : State} {m : MethodId} {args : Array Value} {below : List Frame} {meth : Method} {c : Code} {A : Nat → Prop} {G : WD}  {r0 : Int32} {τ : HS}   (hG : GX G mY) (hO0 : Ob G mY 0 8) (hC : Cx mE G.1 G.2.1 mY cX9_copy 9 (some .int) RX9 wsX9_copy p s m args meth c A)  : ∀ (n : Nat) (x1 : Int32) (x2 : Int32) (x3 : Int32) (x4 : Int32) (x5 : Int32) (x6 : Int32) (x7 : Int32) (σ : HS), c_X9_copy_121 n x1 x2 x3 x4 x5 x6 x7 σ = some (r0, τ) → V p l e rmX9_copy s m args below meth c 9 A G mY 0 0 (MQ below (QI G mY A r0 τ) args s 0 0 A) σ 121 [(0, .ref (G.2.2.1 0)), (1, .int x1), (2, .int x2), (3, .int x3), (4, .int x4), (5, .int x5), (6, .int x6), (7, .int x7)] [] := by
  intro n
  induction n with
  | zero => intro x1 x2 x3 x4 x5 x6 x7 σ h; exact nof h
  | succ n ih =>
    intro x1 x2 x3 x4 x5 x6 x7 σ h
    rw [c_X9_copy_121] at h
    refine v_iload hC dX9_copy_121 7 rfl ?_
    refine v_iload hC dX9_copy_123 5 rfl ?_
    refine v_icmp_ge (tgt := 182) hC dX9_copy_125 (by decide) (fun c_25 => ?_) (fun c_25 => ?_)
    · replace h := ift c_25 h
      refine v_iload hC dX9_copy_182 5 rfl ?_
      exact v_iret hC rfl dX9_copy_184 h
    · replace h := ifn c_25 h
      refine v_iload hC dX9_copy_128 6 rfl ?_
      refine v_if_eq (tgt := 143) hC dX9_copy_130 (by decide) (fun c_26 => ?_) (fun c_26 => ?_)
      · replace h := ift c_26 h
        refine v_iload hC dX9_copy_143 7 rfl ?_
        exact w_X9_copy_145 hG (hO0) hC (fun _ _ _ _ _ _ _ _ h => ih _ _ _ _ _ _ _ _ h) h
      · replace h := ifn c_26 h
        refine v_iload hC dX9_copy_133 5 rfl ?_
        refine v_iconst (v := 1) hC dX9_copy_135 (by decide) ?_
        refine v_isub hC dX9_copy_136 ?_
        refine v_iload hC dX9_copy_137 7 rfl ?_
        refine v_isub hC dX9_copy_139 ?_
        refine v_goto (tgt := 145) hC dX9_copy_140 (by decide) ?_
        exact w_X9_copy_145 hG (hO0) hC (fun _ _ _ _ _ _ _ _ h => ih _ _ _ _ _ _ _ _ h) h
def c_X9_copy_116 (x1 : Int32) (x2 : Int32) (x3 : Int32) (x4 : Int32) (x5 : Int32) (y0 : Int32) (σ : HS) : Option (Int32 × HS) := (c_X9_copy_121 FU x1 x2 x3 x4 x5 y0 0 σ)
set_option maxHeartbeats 4000000 in
set_option maxRecDepth 100000 in
theorem w_X9_copy_116 {p : Program} {l : Launch} {e : Env} {s : State} {m : MethodId} {args : Array Value} {below : List Frame} {meth : Method} {c : Code} {A : Nat → Prop} {G : WD}  {r0 : Int32} {τ : HS}  {x1 : Int32} {x2 : Int32} {x3 : Int32} {x4 : Int32} {x5 : Int32} {y0 : Int32} {σ : HS}  (hG : GX G mY) (hO0 : Ob G mY 0 8) (hC : Cx mE G.1 G.2.1 mY cX9_copy 9 (some .int) RX9 wsX9_copy p s m args meth c A)  (h : c_X9_copy_116 x1 x2 x3 x4 x5 y0 σ = some (r0, τ)) : V p l e rmX9_copy s m args below meth c 9 A G mY 0 0 (MQ below (QI G mY A r0 τ) args s 0 0 A) σ 116 [(0, .ref (G.2.2.1 0)), (1, .int x1), (2, .int x2), (3, .int x3), (4, .int x4), (5, .int x5)] [.int y0] := by
  rw [c_X9_copy_116] at h
  refine v_istore (L' := [(0, .ref (G.2.2.1 0)), (1, .int x1), (2, .int x2), (3, .int x3), (4, .int x4), (5, .int x5), (6, .int y0)]) hC dX9_copy_116 (by decide) [1, 2, 3, 4, 5, 6, 0] rfl ?_
  refine v_iconst (v := 0) hC dX9_copy_118 (by decide) ?_
  refine v_istore (L' := [(0, .ref (G.2.2.1 0)), (1, .int x1), (2, .int x2), (3, .int x3), (4, .int x4), (5, .int x5), (6, .int y0), (7, .int 0)]) hC dX9_copy_119 (by decide) [1, 2, 3, 4, 5, 6, 7, 0] rfl ?_
  exact w_X9_copy_121 hG (hO0) hC FU _ _ _ _ _ _ _ _ h
def c_X9_copy_115 (x1 : Int32) (x2 : Int32) (x3 : Int32) (x4 : Int32) (x5 : Int32) (σ : HS) : Option (Int32 × HS) := (c_X9_copy_116 x1 x2 x3 x4 x5 0 σ)
set_option maxHeartbeats 4000000 in
set_option maxRecDepth 100000 in
theorem w_X9_copy_115 {p : Program} {l : Launch} {e : Env} {s : State} {m : MethodId} {args : Array Value} {below : List Frame} {meth : Method} {c : Code} {A : Nat → Prop} {G : WD}  {r0 : Int32} {τ : HS}  {x1 : Int32} {x2 : Int32} {x3 : Int32} {x4 : Int32} {x5 : Int32} {σ : HS}  (hG : GX G mY) (hO0 : Ob G mY 0 8) (hC : Cx mE G.1 G.2.1 mY cX9_copy 9 (some .int) RX9 wsX9_copy p s m args meth c A)  (h : c_X9_copy_115 x1 x2 x3 x4 x5 σ = some (r0, τ)) : V p l e rmX9_copy s m args below meth c 9 A G mY 0 0 (MQ below (QI G mY A r0 τ) args s 0 0 A) σ 115 [(0, .ref (G.2.2.1 0)), (1, .int x1), (2, .int x2), (3, .int x3), (4, .int x4), (5, .int x5)] [] := by
  rw [c_X9_copy_115] at h
  refine v_iconst (v := 0) hC dX9_copy_115 (by decide) ?_
  exact w_X9_copy_116 hG (hO0) hC h
def c_X9_copy (p1 : Int32) (p2 : Int32) (p3 : Int32) (p4 : Int32) (p5 : Int32) (σ : HS) : Option (Int32 × HS) := (bi2 (c_X9_isSheet p1 σ) (fun r3 s2 => (if r3 = 0 then (some ((-2), s2)) else (bi2 (c_X9_isSheet p3 s2) (fun r7 s6 => (if r7 = 0 then (some ((-2), s6)) else (if inb p1 4 = true then (if (gI s6 10 (ix p1)) = 0 then (some ((-11), s6)) else (if inb p3 4 = true then (if (gI s6 10 (ix p3)) = 0 then (some ((-11), s6)) else (if inb p1 4 = true then (if inb p3 4 = true then (if (gI s6 11 (ix p1)) = (gI s6 11 (ix p3)) then (if p5 < 0 then (some ((-12), s6)) else (if p2 < 0 then (some ((-12), s6)) else (if p4 < 0 then (some ((-12), s6)) else (if inb p1 4 = true then (if ((gI s6 12 (ix p1)) - p5) < p2 then (some ((-12), s6)) else (if inb p3 4 = true then (if p4 ≤ ((gI s6 12 (ix p3)) - p5) then (if p1 = p3 then (if p4 ≤ p2 then (c_X9_copy_115 p1 p2 p3 p4 p5 s6) else (c_X9_copy_116 p1 p2 p3 p4 p5 1 s6)) else (c_X9_copy_115 p1 p2 p3 p4 p5 s6)) else (some ((-12), s6))) else none)) else none)))) else (some ((-13), s6))) else none) else none)) else none)) else none)))))))
set_option maxHeartbeats 4000000 in
set_option maxRecDepth 100000 in
theorem w_X9_copy {p : Program} {l : Launch} {e : Env} {s : State} {m : MethodId} {args : Array Value} {below : List Frame} {meth : Method} {c : Code} {A : Nat → Prop} {G : WD}  {r0 : Int32} {τ : HS} {p1 : Int32} {p2 : Int32} {p3 : Int32} {p4 : Int32} {p5 : Int32} {σ : HS}  (hG : GX G mY) (hO0 : Ob G mY 0 8) (hC : Cx mE G.1 G.2.1 mY cX9_copy 9 (some .int) RX9 wsX9_copy p s m args meth c A) (h : c_X9_copy p1 p2 p3 p4 p5 σ = some (r0, τ)) : V p l e rmX9_copy s m args below meth c 9 A G mY 0 0 (MQ below (QI G mY A r0 τ) args s 0 0 A) σ 0 [(0, .ref (G.2.2.1 0)), (1, .int p1), (2, .int p2), (3, .int p3), (4, .int p4), (5, .int p5)] [] := by
  rw [c_X9_copy] at h
  refine v_iload_n hC dX9_copy_0 1 rfl ?_
  obtain ⟨r3, s2, hc_1, h⟩ := bd2 h
  refine v_callSI hC mE_ok (n := 1) (As := [.int p1]) (k_X9_isSheet l hG hc_1) (va_cwS 1 hC.1.2.2.2.2 gX9_copy_X9_isSheet rfl rfl rfl (by decide +kernel) ⟨(Nat.le_of_ble_eq_true rfl), (Nat.le_of_ble_eq_true rfl)⟩) rfl (Nat.le_of_ble_eq_true rfl) ⟨Nat.zero_le _, Nat.zero_le _⟩ dX9_copy_1 rfl ?_
  refine v_if_eq (tgt := 14) hC dX9_copy_4 (by decide) (fun c_4 => ?_) (fun c_4 => ?_)
  · replace h := ift c_4 h
    refine v_bipush (v := (-2)) hC dX9_copy_14 (by decide) ?_
    exact v_iret hC rfl dX9_copy_16 h
  · replace h := ifn c_4 h
    refine v_iload_n hC dX9_copy_7 3 rfl ?_
    obtain ⟨r7, s6, hc_5, h⟩ := bd2 h
    refine v_callSI hC mE_ok (n := 1) (As := [.int p3]) (k_X9_isSheet l hG hc_5) (va_cwS 1 hC.1.2.2.2.2 gX9_copy_X9_isSheet rfl rfl rfl (by decide +kernel) ⟨(Nat.le_of_ble_eq_true rfl), (Nat.le_of_ble_eq_true rfl)⟩) rfl (Nat.le_of_ble_eq_true rfl) ⟨Nat.zero_le _, Nat.zero_le _⟩ dX9_copy_8 rfl ?_
    refine v_if_ne (tgt := 17) hC dX9_copy_11 (by decide) (fun c_8 => ?_) (fun c_8 => ?_)
    · replace h := ifn c_8 h
      refine v_aload_n hC dX9_copy_17 0 rfl ?_
      refine v_get (C := RX9) (T := TX9) (N := 45) (ci := 8) (k := 41) (v := .ref (G.2.2.1 10)) hC hO0 hi_X9_copy_X9 rfl (by decide) (by decide) rfl rfl fl42_X9_copy dX9_copy_18 rfl ?_
      refine v_iload_n hC dX9_copy_21 1 rfl ?_
      obtain ⟨g_9, h⟩ := gd h
      refine v_zald hC (obM_8_41 hG hO0).1 (obM_8_41 hG hO0).2 (t0 := 2) rfl g_9 dX9_copy_22 ?_
      refine v_if_eq (tgt := 35) hC dX9_copy_23 (by decide) (fun c_10 => ?_) (fun c_10 => ?_)
      · replace h := ift c_10 h
        refine v_bipush (v := (-11)) hC dX9_copy_35 (by decide) ?_
        exact v_iret hC rfl dX9_copy_37 h
      · replace h := ifn c_10 h
        refine v_aload_n hC dX9_copy_26 0 rfl ?_
        refine v_get (C := RX9) (T := TX9) (N := 45) (ci := 8) (k := 41) (v := .ref (G.2.2.1 10)) hC hO0 hi_X9_copy_X9 rfl (by decide) (by decide) rfl rfl fl42_X9_copy dX9_copy_27 rfl ?_
        refine v_iload_n hC dX9_copy_30 3 rfl ?_
        obtain ⟨g_11, h⟩ := gd h
        refine v_zald hC (obM_8_41 hG hO0).1 (obM_8_41 hG hO0).2 (t0 := 2) rfl g_11 dX9_copy_31 ?_
        refine v_if_ne (tgt := 38) hC dX9_copy_32 (by decide) (fun c_12 => ?_) (fun c_12 => ?_)
        · replace h := ifn c_12 h
          refine v_aload_n hC dX9_copy_38 0 rfl ?_
          refine v_get (C := RX9) (T := TX9) (N := 45) (ci := 8) (k := 42) (v := .ref (G.2.2.1 11)) hC hO0 hi_X9_copy_X9 rfl (by decide) (by decide) rfl rfl fl46_X9_copy dX9_copy_39 rfl ?_
          refine v_iload_n hC dX9_copy_42 1 rfl ?_
          obtain ⟨g_13, h⟩ := gd h
          refine v_iald hC (obM_8_42 hG hO0).1 (obM_8_42 hG hO0).2 (t0 := 0) rfl g_13 dX9_copy_43 ?_
          refine v_aload_n hC dX9_copy_44 0 rfl ?_
          refine v_get (C := RX9) (T := TX9) (N := 45) (ci := 8) (k := 42) (v := .ref (G.2.2.1 11)) hC hO0 hi_X9_copy_X9 rfl (by decide) (by decide) rfl rfl fl46_X9_copy dX9_copy_45 rfl ?_
          refine v_iload_n hC dX9_copy_48 3 rfl ?_
          obtain ⟨g_14, h⟩ := gd h
          refine v_iald hC (obM_8_42 hG hO0).1 (obM_8_42 hG hO0).2 (t0 := 0) rfl g_14 dX9_copy_49 ?_
          refine v_icmp_eq (tgt := 56) hC dX9_copy_50 (by decide) (fun c_15 => ?_) (fun c_15 => ?_)
          · replace h := ift c_15 h
            refine v_iload hC dX9_copy_56 5 rfl ?_
            refine v_if_lt (tgt := 97) hC dX9_copy_58 (by decide) (fun c_16 => ?_) (fun c_16 => ?_)
            · replace h := ift c_16 h
              refine v_bipush (v := (-12)) hC dX9_copy_97 (by decide) ?_
              exact v_iret hC rfl dX9_copy_99 h
            · replace h := ifn c_16 h
              refine v_iload_n hC dX9_copy_61 2 rfl ?_
              refine v_if_lt (tgt := 97) hC dX9_copy_62 (by decide) (fun c_17 => ?_) (fun c_17 => ?_)
              · replace h := ift c_17 h
                refine v_bipush (v := (-12)) hC dX9_copy_97 (by decide) ?_
                exact v_iret hC rfl dX9_copy_99 h
              · replace h := ifn c_17 h
                refine v_iload hC dX9_copy_65 4 rfl ?_
                refine v_if_lt (tgt := 97) hC dX9_copy_67 (by decide) (fun c_18 => ?_) (fun c_18 => ?_)
                · replace h := ift c_18 h
                  refine v_bipush (v := (-12)) hC dX9_copy_97 (by decide) ?_
                  exact v_iret hC rfl dX9_copy_99 h
                · replace h := ifn c_18 h
                  refine v_iload_n hC dX9_copy_70 2 rfl ?_
                  refine v_aload_n hC dX9_copy_71 0 rfl ?_
                  refine v_get (C := RX9) (T := TX9) (N := 45) (ci := 8) (k := 43) (v := .ref (G.2.2.1 12)) hC hO0 hi_X9_copy_X9 rfl (by decide) (by decide) rfl rfl fl49_X9_copy dX9_copy_72 rfl ?_
                  refine v_iload_n hC dX9_copy_75 1 rfl ?_
                  obtain ⟨g_19, h⟩ := gd h
                  refine v_iald hC (obM_8_43 hG hO0).1 (obM_8_43 hG hO0).2 (t0 := 0) rfl g_19 dX9_copy_76 ?_
                  refine v_iload hC dX9_copy_77 5 rfl ?_
                  refine v_isub hC dX9_copy_79 ?_
                  refine v_icmp_gt (tgt := 97) hC dX9_copy_80 (by decide) (fun c_20 => ?_) (fun c_20 => ?_)
                  · replace h := ift c_20 h
                    refine v_bipush (v := (-12)) hC dX9_copy_97 (by decide) ?_
                    exact v_iret hC rfl dX9_copy_99 h
                  · replace h := ifn c_20 h
                    refine v_iload hC dX9_copy_83 4 rfl ?_
                    refine v_aload_n hC dX9_copy_85 0 rfl ?_
                    refine v_get (C := RX9) (T := TX9) (N := 45) (ci := 8) (k := 43) (v := .ref (G.2.2.1 12)) hC hO0 hi_X9_copy_X9 rfl (by decide) (by decide) rfl rfl fl49_X9_copy dX9_copy_86 rfl ?_
                    refine v_iload_n hC dX9_copy_89 3 rfl ?_
                    obtain ⟨g_21, h⟩ := gd h
                    refine v_iald hC (obM_8_43 hG hO0).1 (obM_8_43 hG hO0).2 (t0 := 0) rfl g_21 dX9_copy_90 ?_
                    refine v_iload hC dX9_copy_91 5 rfl ?_
                    refine v_isub hC dX9_copy_93 ?_
                    refine v_icmp_le (tgt := 100) hC dX9_copy_94 (by decide) (fun c_22 => ?_) (fun c_22 => ?_)
                    · replace h := ift c_22 h
                      refine v_iload_n hC dX9_copy_100 1 rfl ?_
                      refine v_iload_n hC dX9_copy_101 3 rfl ?_
                      refine v_icmp_ne (tgt := 115) hC dX9_copy_102 (by decide) (fun c_23 => ?_) (fun c_23 => ?_)
                      · replace h := ifn c_23 h
                        exact w_X9_copy_115 hG (hO0) hC h
                      · replace h := ift c_23 h
                        refine v_iload_n hC dX9_copy_105 2 rfl ?_
                        refine v_iload hC dX9_copy_106 4 rfl ?_
                        refine v_icmp_ge (tgt := 115) hC dX9_copy_108 (by decide) (fun c_24 => ?_) (fun c_24 => ?_)
                        · replace h := ift c_24 h
                          exact w_X9_copy_115 hG (hO0) hC h
                        · replace h := ifn c_24 h
                          refine v_iconst (v := 1) hC dX9_copy_111 (by decide) ?_
                          refine v_goto (tgt := 116) hC dX9_copy_112 (by decide) ?_
                          exact w_X9_copy_116 hG (hO0) hC h
                    · replace h := ifn c_22 h
                      refine v_bipush (v := (-12)) hC dX9_copy_97 (by decide) ?_
                      exact v_iret hC rfl dX9_copy_99 h
          · replace h := ifn c_15 h
            refine v_bipush (v := (-13)) hC dX9_copy_53 (by decide) ?_
            exact v_iret hC rfl dX9_copy_55 h
        · replace h := ift c_12 h
          refine v_bipush (v := (-11)) hC dX9_copy_35 (by decide) ?_
          exact v_iret hC rfl dX9_copy_37 h
    · replace h := ift c_8 h
      refine v_bipush (v := (-2)) hC dX9_copy_14 (by decide) ?_
      exact v_iret hC rfl dX9_copy_16 h
theorem k_X9_copy (l : Launch) {G : WD}   {r0 : Int32} {τ : HS} {p1 : Int32} {p2 : Int32} {p3 : Int32} {p4 : Int32} {p5 : Int32} {σ : HS}  (hG : GX G mY) (hO0 : Ob G mY 0 8) (h : c_X9_copy p1 p2 p3 p4 p5 σ = some (r0, τ)) : MI mE l yX9_copy wsX9_copy rmX9_copy G mY [.ref (G.2.2.1 0), .int p1, .int p2, .int p3, .int p4, .int p5] σ r0 τ :=
  MI.of RX9 (by decide) rfl rfl (Nat.le_of_ble_eq_true rfl) rfl rfl (fun p e s m below meth c hC => w_X9_copy  hG hO0 hC h)
abbrev rmX9_plans : Room := { frames := 2, cells := 0, slots := 0, locals := 47 }
def c_X9_plans_154 (k75 : Int32 → Int32 → Int32 → Int32 → Int32 → HS → Option (Int32 × HS)) (x1 : Int32) (x3 : Int32) (x4 : Int32) (x6 : Int32) (y0 : Int32) (y1 : Int32) (σ : HS) : Option (Int32 × HS) := (k75 x1 x3 x4 (y0 + y1) (x6 + 1) σ)
set_option maxHeartbeats 4000000 in
set_option maxRecDepth 100000 in
theorem w_X9_plans_154 {p : Program} {l : Launch} {e : Env} {s : State} {m : MethodId} {args : Array Value} {below : List Frame} {meth : Method} {c : Code} {A : Nat → Prop} {G : WD}  {r0 : Int32} {τ : HS}  {k75 : Int32 → Int32 → Int32 → Int32 → Int32 → HS → Option (Int32 × HS)} {x1 : Int32} {x3 : Int32} {x4 : Int32} {x6 : Int32} {y0 : Int32} {y1 : Int32} {σ : HS}  (hG : GX G mY) (hO0 : Ob G mY 0 8) (hC : Cx mE G.1 G.2.1 mY cX9_plans 7 (some .int) RX9 wsX9_plans p s m args meth c A) (hk75 : ∀ (x1 : Int32) (x3 : Int32) (x4 : Int32) (x5 : Int32) (x6 : Int32) (σ : HS), k75 x1 x3 x4 x5 x6 σ = some (r0, τ) → V p l e rmX9_plans s m args below meth c 7 A G mY 0 0 (MQ below (QI G mY A r0 τ) args s 0 0 A) σ 75 [(0, .ref (G.2.2.1 0)), (1, .int x1), (3, .int x3), (4, .int x4), (5, .int x5), (6, .int x6)] []) (h : c_X9_plans_154 k75 x1 x3 x4 x6 y0 y1 σ = some (r0, τ)) : V p l e rmX9_plans s m args below meth c 7 A G mY 0 0 (MQ below (QI G mY A r0 τ) args s 0 0 A) σ 154 [(0, .ref (G.2.2.1 0)), (1, .int x1), (3, .int x3), (4, .int x4), (6, .int x6)] [.int y1, .int y0] := by
  rw [c_X9_plans_154] at h
  refine v_iadd hC dX9_plans_154 ?_
  refine v_istore (L' := [(0, .ref (G.2.2.1 0)), (1, .int x1), (3, .int x3), (4, .int x4), (5, .int (y0 + y1)), (6, .int x6)]) hC dX9_plans_155 (by decide) [1, 2, 3, 4, 0, 5] rfl ?_
  refine v_iinc (v := (x6 + 1)) (L' := [(0, .ref (G.2.2.1 0)), (1, .int x1), (3, .int x3), (4, .int x4), (5, .int (y0 + y1)), (6, .int (x6 + 1))]) hC dX9_plans_157 5 rfl rfl (by decide) [1, 2, 3, 4, 5, 0] rfl ?_
  refine v_goto (tgt := 75) hC dX9_plans_160 (by decide) ?_
  exact hk75 _ _ _ _ _ _ h
def c_X9_plans_75 : Nat → Int32 → Int32 → Int32 → Int32 → Int32 → HS → Option (Int32 × HS)
  | 0, _, _, _, _, _, _ => none
  | n + 1, x1, x3, x4, x5, x6, σ => (if x4 ≤ x6 then (some (x5, σ)) else (if x3 < 0 then (some ((-12), σ)) else (if inb x1 4 = true then (if x3 ≤ (((gI σ 12 (ix x1)) - (2 * x6)) - 2) then (if inb (((40 * x1) + x3) + (2 * x6)) 160 = true then (if inb ((((40 * x1) + x3) + (2 * x6)) + 1) 160 = true then (bi2 (c_X9_plan (gI σ 13 (ix (((40 * x1) + x3) + (2 * x6)))) (gI σ 13 (ix ((((40 * x1) + x3) + (2 * x6)) + 1))) σ) (fun r27 s26 => (if r27 < 0 then (c_X9_plans_154 (fun z0 z1 z2 z3 z4 z5 => c_X9_plans_75 n z0 z1 z2 z3 z4 z5) x1 x3 x4 x6 x5 0 s26) else (c_X9_plans_154 (fun z0 z1 z2 z3 z4 z5 => c_X9_plans_75 n z0 z1 z2 z3 z4 z5) x1 x3 x4 x6 x5 1 s26)))) else none) else none) else (some ((-12), σ))) else none)))
set_option maxHeartbeats 4000000 in
set_option maxRecDepth 100000 in
theorem w_X9_plans_75 {p : Program} {l : Launch} {e : Env} {s : State} {m : MethodId} {args : Array Value} {below : List Frame} {meth : Method} {c : Code} {A : Nat → Prop} {G : WD}  {r0 : Int32} {τ : HS}   (hG : GX G mY) (hO0 : Ob G mY 0 8) (hC : Cx mE G.1 G.2.1 mY cX9_plans 7 (some .int) RX9 wsX9_plans p s m args meth c A)  : ∀ (n : Nat) (x1 : Int32) (x3 : Int32) (x4 : Int32) (x5 : Int32) (x6 : Int32) (σ : HS), c_X9_plans_75 n x1 x3 x4 x5 x6 σ = some (r0, τ) → V p l e rmX9_plans s m args below meth c 7 A G mY 0 0 (MQ below (QI G mY A r0 τ) args s 0 0 A) σ 75 [(0, .ref (G.2.2.1 0)), (1, .int x1), (3, .int x3), (4, .int x4), (5, .int x5), (6, .int x6)] [] := by
  intro n
  induction n with
  | zero => intro x1 x3 x4 x5 x6 σ h; exact nof h
  | succ n ih =>
    intro x1 x3 x4 x5 x6 σ h
    rw [c_X9_plans_75] at h
    refine v_iload hC dX9_plans_75 5 rfl ?_
    refine v_iload hC dX9_plans_77 3 rfl ?_
    refine v_icmp_ge (tgt := 163) hC dX9_plans_79 (by decide) (fun c_19 => ?_) (fun c_19 => ?_)
    · replace h := ift c_19 h
      refine v_iload hC dX9_plans_163 4 rfl ?_
      exact v_iret hC rfl dX9_plans_165 h
    · replace h := ifn c_19 h
      refine v_iload_n hC dX9_plans_82 2 rfl ?_
      refine v_if_lt (tgt := 103) hC dX9_plans_83 (by decide) (fun c_20 => ?_) (fun c_20 => ?_)
      · replace h := ift c_20 h
        refine v_bipush (v := (-12)) hC dX9_plans_103 (by decide) ?_
        exact v_iret hC rfl dX9_plans_105 h
      · replace h := ifn c_20 h
        refine v_iload_n hC dX9_plans_86 2 rfl ?_
        refine v_aload_n hC dX9_plans_87 0 rfl ?_
        refine v_get (C := RX9) (T := TX9) (N := 45) (ci := 8) (k := 43) (v := .ref (G.2.2.1 12)) hC hO0 hi_X9_plans_X9 rfl (by decide) (by decide) rfl rfl fl49_X9_plans dX9_plans_88 rfl ?_
        refine v_iload_n hC dX9_plans_91 1 rfl ?_
        obtain ⟨g_21, h⟩ := gd h
        refine v_iald hC (obM_8_43 hG hO0).1 (obM_8_43 hG hO0).2 (t0 := 0) rfl g_21 dX9_plans_92 ?_
        refine v_iconst (v := 2) hC dX9_plans_93 (by decide) ?_
        refine v_iload hC dX9_plans_94 5 rfl ?_
        refine v_imul hC dX9_plans_96 ?_
        refine v_isub hC dX9_plans_97 ?_
        refine v_iconst (v := 2) hC dX9_plans_98 (by decide) ?_
        refine v_isub hC dX9_plans_99 ?_
        refine v_icmp_le (tgt := 106) hC dX9_plans_100 (by decide) (fun c_22 => ?_) (fun c_22 => ?_)
        · replace h := ift c_22 h
          refine v_iload hC dX9_plans_106 4 rfl ?_
          refine v_aload_n hC dX9_plans_108 0 rfl ?_
          refine v_aload_n hC dX9_plans_109 0 rfl ?_
          refine v_get (C := RX9) (T := TX9) (N := 45) (ci := 8) (k := 44) (v := .ref (G.2.2.1 13)) hC hO0 hi_X9_plans_X9 rfl (by decide) (by decide) rfl rfl fl52_X9_plans dX9_plans_110 rfl ?_
          refine v_bipush (v := 40) hC dX9_plans_113 (by decide) ?_
          refine v_iload_n hC dX9_plans_115 1 rfl ?_
          refine v_imul hC dX9_plans_116 ?_
          refine v_iload_n hC dX9_plans_117 2 rfl ?_
          refine v_iadd hC dX9_plans_118 ?_
          refine v_iconst (v := 2) hC dX9_plans_119 (by decide) ?_
          refine v_iload hC dX9_plans_120 5 rfl ?_
          refine v_imul hC dX9_plans_122 ?_
          refine v_iadd hC dX9_plans_123 ?_
          obtain ⟨g_23, h⟩ := gd h
          refine v_iald hC (obM_8_44 hG hO0).1 (obM_8_44 hG hO0).2 (t0 := 0) rfl g_23 dX9_plans_124 ?_
          refine v_aload_n hC dX9_plans_125 0 rfl ?_
          refine v_get (C := RX9) (T := TX9) (N := 45) (ci := 8) (k := 44) (v := .ref (G.2.2.1 13)) hC hO0 hi_X9_plans_X9 rfl (by decide) (by decide) rfl rfl fl52_X9_plans dX9_plans_126 rfl ?_
          refine v_bipush (v := 40) hC dX9_plans_129 (by decide) ?_
          refine v_iload_n hC dX9_plans_131 1 rfl ?_
          refine v_imul hC dX9_plans_132 ?_
          refine v_iload_n hC dX9_plans_133 2 rfl ?_
          refine v_iadd hC dX9_plans_134 ?_
          refine v_iconst (v := 2) hC dX9_plans_135 (by decide) ?_
          refine v_iload hC dX9_plans_136 5 rfl ?_
          refine v_imul hC dX9_plans_138 ?_
          refine v_iadd hC dX9_plans_139 ?_
          refine v_iconst (v := 1) hC dX9_plans_140 (by decide) ?_
          refine v_iadd hC dX9_plans_141 ?_
          obtain ⟨g_24, h⟩ := gd h
          refine v_iald hC (obM_8_44 hG hO0).1 (obM_8_44 hG hO0).2 (t0 := 0) rfl g_24 dX9_plans_142 ?_
          obtain ⟨r27, s26, hc_25, h⟩ := bd2 h
          refine v_callVI hC mE_ok (n := 2) (As := [.int (gI σ 13 (ix (((40 * x1) + x3) + (2 * x6)))), .int (gI σ 13 (ix ((((40 * x1) + x3) + (2 * x6)) + 1)))]) (k_X9_plan l hG (hO0) hc_25) (cwV 2 hC.1.2.2.2.2 gX9_plans_X9_plan rfl rfl rfl (by decide +kernel) ⟨(Nat.le_of_ble_eq_true rfl), (Nat.le_of_ble_eq_true rfl)⟩) hO0 (by decide) rfl rfl rfl (Nat.le_of_ble_eq_true rfl) ⟨Nat.zero_le _, Nat.zero_le _⟩ dX9_plans_143 rfl ?_
          refine v_if_lt (tgt := 153) hC dX9_plans_146 (by decide) (fun c_28 => ?_) (fun c_28 => ?_)
          · replace h := ift c_28 h
            refine v_iconst (v := 0) hC dX9_plans_153 (by decide) ?_
            refine V.sub (L' := [(0, .ref (G.2.2.1 0)), (1, .int x1), (3, .int x3), (4, .int x4), (6, .int x6)]) [0, 1, 2, 3, 5] rfl ?_
            exact w_X9_plans_154 hG (hO0) hC (fun _ _ _ _ _ _ h => ih _ _ _ _ _ _ h) h
          · replace h := ifn c_28 h
            refine v_iconst (v := 1) hC dX9_plans_149 (by decide) ?_
            refine v_goto (tgt := 154) hC dX9_plans_150 (by decide) ?_
            refine V.sub (L' := [(0, .ref (G.2.2.1 0)), (1, .int x1), (3, .int x3), (4, .int x4), (6, .int x6)]) [0, 1, 2, 3, 5] rfl ?_
            exact w_X9_plans_154 hG (hO0) hC (fun _ _ _ _ _ _ h => ih _ _ _ _ _ _ h) h
        · replace h := ifn c_22 h
          refine v_bipush (v := (-12)) hC dX9_plans_103 (by decide) ?_
          exact v_iret hC rfl dX9_plans_105 h
def c_X9_plans_57 (x1 : Int32) (x3 : Int32) (x4 : Int32) (σ : HS) : Option (Int32 × HS) := (if inb x1 4 = true then (if (gI σ 10 (ix x1)) = 0 then (some ((-11), σ)) else (c_X9_plans_75 FU x1 x3 x4 0 0 σ)) else none)
set_option maxHeartbeats 4000000 in
set_option maxRecDepth 100000 in
theorem w_X9_plans_57 {p : Program} {l : Launch} {e : Env} {s : State} {m : MethodId} {args : Array Value} {below : List Frame} {meth : Method} {c : Code} {A : Nat → Prop} {G : WD}  {r0 : Int32} {τ : HS}  {x1 : Int32} {x3 : Int32} {x4 : Int32} {σ : HS}  (hG : GX G mY) (hO0 : Ob G mY 0 8) (hC : Cx mE G.1 G.2.1 mY cX9_plans 7 (some .int) RX9 wsX9_plans p s m args meth c A)  (h : c_X9_plans_57 x1 x3 x4 σ = some (r0, τ)) : V p l e rmX9_plans s m args below meth c 7 A G mY 0 0 (MQ below (QI G mY A r0 τ) args s 0 0 A) σ 57 [(0, .ref (G.2.2.1 0)), (1, .int x1), (3, .int x3), (4, .int x4)] [] := by
  rw [c_X9_plans_57] at h
  refine v_aload_n hC dX9_plans_57 0 rfl ?_
  refine v_get (C := RX9) (T := TX9) (N := 45) (ci := 8) (k := 41) (v := .ref (G.2.2.1 10)) hC hO0 hi_X9_plans_X9 rfl (by decide) (by decide) rfl rfl fl42_X9_plans dX9_plans_58 rfl ?_
  refine v_iload_n hC dX9_plans_61 1 rfl ?_
  obtain ⟨g_17, h⟩ := gd h
  refine v_zald hC (obM_8_41 hG hO0).1 (obM_8_41 hG hO0).2 (t0 := 2) rfl g_17 dX9_plans_62 ?_
  refine v_if_ne (tgt := 69) hC dX9_plans_63 (by decide) (fun c_18 => ?_) (fun c_18 => ?_)
  · replace h := ifn c_18 h
    refine v_iconst (v := 0) hC dX9_plans_69 (by decide) ?_
    refine v_istore (L' := [(0, .ref (G.2.2.1 0)), (1, .int x1), (3, .int x3), (4, .int x4), (5, .int 0)]) hC dX9_plans_70 (by decide) [1, 2, 3, 4, 0] rfl ?_
    refine v_iconst (v := 0) hC dX9_plans_72 (by decide) ?_
    refine v_istore (L' := [(0, .ref (G.2.2.1 0)), (1, .int x1), (3, .int x3), (4, .int x4), (5, .int 0), (6, .int 0)]) hC dX9_plans_73 (by decide) [1, 2, 3, 4, 5, 0] rfl ?_
    exact w_X9_plans_75 hG (hO0) hC FU _ _ _ _ _ _ h
  · replace h := ift c_18 h
    refine v_bipush (v := (-11)) hC dX9_plans_66 (by decide) ?_
    exact v_iret hC rfl dX9_plans_68 h
def c_X9_plans (p1 : Int32) (p2 : Int32) (p3 : Int32) (p4 : Int32) (σ : HS) : Option (Int32 × HS) := (bi2 (c_X9_isSheet p1 σ) (fun r3 s2 => (if r3 = 0 then (some ((-2), s2)) else (bi2 (c_X9_in (Int32.toInt64 p2) 0 2 s2) (fun r7 s6 => (if r7 = 0 then (some ((-2), s6)) else (bi2 (c_X9_in (Int32.toInt64 p4) 0 8 s6) (fun r11 s10 => (if r11 = 0 then (some ((-2), s10)) else (if inb p1 4 = true then (if (gI s10 10 (ix p1)) = 0 then (c_X9_plans_57 p1 p3 p4 s10) else (if inb p1 4 = true then (if (gI s10 11 (ix p1)) = p2 then (c_X9_plans_57 p1 p3 p4 s10) else (some ((-13), s10))) else none)) else none))))))))))
set_option maxHeartbeats 4000000 in
set_option maxRecDepth 100000 in
theorem w_X9_plans {p : Program} {l : Launch} {e : Env} {s : State} {m : MethodId} {args : Array Value} {below : List Frame} {meth : Method} {c : Code} {A : Nat → Prop} {G : WD}  {r0 : Int32} {τ : HS} {p1 : Int32} {p2 : Int32} {p3 : Int32} {p4 : Int32} {σ : HS}  (hG : GX G mY) (hO0 : Ob G mY 0 8) (hC : Cx mE G.1 G.2.1 mY cX9_plans 7 (some .int) RX9 wsX9_plans p s m args meth c A) (h : c_X9_plans p1 p2 p3 p4 σ = some (r0, τ)) : V p l e rmX9_plans s m args below meth c 7 A G mY 0 0 (MQ below (QI G mY A r0 τ) args s 0 0 A) σ 0 [(0, .ref (G.2.2.1 0)), (1, .int p1), (2, .int p2), (3, .int p3), (4, .int p4)] [] := by
  rw [c_X9_plans] at h
  refine v_iload_n hC dX9_plans_0 1 rfl ?_
  obtain ⟨r3, s2, hc_1, h⟩ := bd2 h
  refine v_callSI hC mE_ok (n := 1) (As := [.int p1]) (k_X9_isSheet l hG hc_1) (va_cwS 1 hC.1.2.2.2.2 gX9_plans_X9_isSheet rfl rfl rfl (by decide +kernel) ⟨(Nat.le_of_ble_eq_true rfl), (Nat.le_of_ble_eq_true rfl)⟩) rfl (Nat.le_of_ble_eq_true rfl) ⟨Nat.zero_le _, Nat.zero_le _⟩ dX9_plans_1 rfl ?_
  refine v_if_eq (tgt := 32) hC dX9_plans_4 (by decide) (fun c_4 => ?_) (fun c_4 => ?_)
  · replace h := ift c_4 h
    refine v_bipush (v := (-2)) hC dX9_plans_32 (by decide) ?_
    exact v_iret hC rfl dX9_plans_34 h
  · replace h := ifn c_4 h
    refine v_iload_n hC dX9_plans_7 2 rfl ?_
    refine v_i2l hC dX9_plans_8 ?_
    refine v_lconst (v := 0) hC dX9_plans_9 (by decide) ?_
    refine v_ldc2 (v := 2) hC lc117_X9_plans dX9_plans_10 ?_
    obtain ⟨r7, s6, hc_5, h⟩ := bd2 h
    refine v_callSI hC mE_ok (n := 3) (As := [.long (Int32.toInt64 p2), .long 0, .long 2]) (k_X9_in l hG hc_5) (va_cwS 3 hC.1.2.2.2.2 gX9_plans_X9_in rfl rfl rfl (by decide +kernel) ⟨(Nat.le_of_ble_eq_true rfl), (Nat.le_of_ble_eq_true rfl)⟩) rfl (Nat.le_of_ble_eq_true rfl) ⟨Nat.zero_le _, Nat.zero_le _⟩ dX9_plans_13 rfl ?_
    refine v_if_eq (tgt := 32) hC dX9_plans_16 (by decide) (fun c_8 => ?_) (fun c_8 => ?_)
    · replace h := ift c_8 h
      refine v_bipush (v := (-2)) hC dX9_plans_32 (by decide) ?_
      exact v_iret hC rfl dX9_plans_34 h
    · replace h := ifn c_8 h
      refine v_iload hC dX9_plans_19 4 rfl ?_
      refine v_i2l hC dX9_plans_21 ?_
      refine v_lconst (v := 0) hC dX9_plans_22 (by decide) ?_
      refine v_ldc2 (v := 8) hC lc122_X9_plans dX9_plans_23 ?_
      obtain ⟨r11, s10, hc_9, h⟩ := bd2 h
      refine v_callSI hC mE_ok (n := 3) (As := [.long (Int32.toInt64 p4), .long 0, .long 8]) (k_X9_in l hG hc_9) (va_cwS 3 hC.1.2.2.2.2 gX9_plans_X9_in rfl rfl rfl (by decide +kernel) ⟨(Nat.le_of_ble_eq_true rfl), (Nat.le_of_ble_eq_true rfl)⟩) rfl (Nat.le_of_ble_eq_true rfl) ⟨Nat.zero_le _, Nat.zero_le _⟩ dX9_plans_26 rfl ?_
      refine v_if_ne (tgt := 35) hC dX9_plans_29 (by decide) (fun c_12 => ?_) (fun c_12 => ?_)
      · replace h := ifn c_12 h
        refine v_aload_n hC dX9_plans_35 0 rfl ?_
        refine v_get (C := RX9) (T := TX9) (N := 45) (ci := 8) (k := 41) (v := .ref (G.2.2.1 10)) hC hO0 hi_X9_plans_X9 rfl (by decide) (by decide) rfl rfl fl42_X9_plans dX9_plans_36 rfl ?_
        refine v_iload_n hC dX9_plans_39 1 rfl ?_
        obtain ⟨g_13, h⟩ := gd h
        refine v_zald hC (obM_8_41 hG hO0).1 (obM_8_41 hG hO0).2 (t0 := 2) rfl g_13 dX9_plans_40 ?_
        refine v_if_eq (tgt := 57) hC dX9_plans_41 (by decide) (fun c_14 => ?_) (fun c_14 => ?_)
        · replace h := ift c_14 h
          refine V.sub (L' := [(0, .ref (G.2.2.1 0)), (1, .int p1), (3, .int p3), (4, .int p4)]) [0, 1, 3, 4] rfl ?_
          exact w_X9_plans_57 hG (hO0) hC h
        · replace h := ifn c_14 h
          refine v_aload_n hC dX9_plans_44 0 rfl ?_
          refine v_get (C := RX9) (T := TX9) (N := 45) (ci := 8) (k := 42) (v := .ref (G.2.2.1 11)) hC hO0 hi_X9_plans_X9 rfl (by decide) (by decide) rfl rfl fl46_X9_plans dX9_plans_45 rfl ?_
          refine v_iload_n hC dX9_plans_48 1 rfl ?_
          obtain ⟨g_15, h⟩ := gd h
          refine v_iald hC (obM_8_42 hG hO0).1 (obM_8_42 hG hO0).2 (t0 := 0) rfl g_15 dX9_plans_49 ?_
          refine v_iload_n hC dX9_plans_50 2 rfl ?_
          refine v_icmp_eq (tgt := 57) hC dX9_plans_51 (by decide) (fun c_16 => ?_) (fun c_16 => ?_)
          · replace h := ift c_16 h
            refine V.sub (L' := [(0, .ref (G.2.2.1 0)), (1, .int p1), (3, .int p3), (4, .int p4)]) [0, 1, 3, 4] rfl ?_
            exact w_X9_plans_57 hG (hO0) hC h
          · replace h := ifn c_16 h
            refine v_bipush (v := (-13)) hC dX9_plans_54 (by decide) ?_
            exact v_iret hC rfl dX9_plans_56 h
      · replace h := ift c_12 h
        refine v_bipush (v := (-2)) hC dX9_plans_32 (by decide) ?_
        exact v_iret hC rfl dX9_plans_34 h
theorem k_X9_plans (l : Launch) {G : WD}   {r0 : Int32} {τ : HS} {p1 : Int32} {p2 : Int32} {p3 : Int32} {p4 : Int32} {σ : HS}  (hG : GX G mY) (hO0 : Ob G mY 0 8) (h : c_X9_plans p1 p2 p3 p4 σ = some (r0, τ)) : MI mE l yX9_plans wsX9_plans rmX9_plans G mY [.ref (G.2.2.1 0), .int p1, .int p2, .int p3, .int p4] σ r0 τ :=
  MI.of RX9 (by decide) rfl rfl (Nat.le_of_ble_eq_true rfl) rfl rfl (fun p e s m below meth c hC => w_X9_plans  hG hO0 hC h)
abbrev rmX9_over : Room := { frames := 0, cells := 0, slots := 0, locals := 0 }
def c_X9_over (p0 : Int32) (σ : HS) : Option (Int32 × HS) := (if p0 = 0 then (some ((-1), σ)) else (if p0 = 3 then (some (2, σ)) else (if p0 = 4 then (some (2, σ)) else (if p0 = 5 then (some (1, σ)) else (some (0, σ))))))
set_option maxHeartbeats 4000000 in
set_option maxRecDepth 100000 in
theorem w_X9_over {p : Program} {l : Launch} {e : Env} {s : State} {m : MethodId} {args : Array Value} {below : List Frame} {meth : Method} {c : Code} {A : Nat → Prop} {G : WD}  {r0 : Int32} {τ : HS} {p0 : Int32} {σ : HS}  (hG : GX G mY)  (hC : Cx mE G.1 G.2.1 mY cX9_over 1 (some .int) RX9 wsX9_over p s m args meth c A) (h : c_X9_over p0 σ = some (r0, τ)) : V p l e rmX9_over s m args below meth c 1 A G mY 0 0 (MQ below (QI G mY A r0 τ) args s 0 0 A) σ 0 [(0, .int p0)] [] := by
  rw [c_X9_over] at h
  refine v_iload_n hC dX9_over_0 0 rfl ?_
  refine v_if_ne (tgt := 8) hC dX9_over_1 (by decide) (fun c_1 => ?_) (fun c_1 => ?_)
  · replace h := ifn c_1 h
    refine v_iload_n hC dX9_over_8 0 rfl ?_
    refine v_iconst (v := 3) hC dX9_over_9 (by decide) ?_
    refine v_icmp_eq (tgt := 18) hC dX9_over_10 (by decide) (fun c_2 => ?_) (fun c_2 => ?_)
    · replace h := ift c_2 h
      refine v_iconst (v := 2) hC dX9_over_18 (by decide) ?_
      refine v_goto (tgt := 32) hC dX9_over_19 (by decide) ?_
      exact v_iret hC rfl dX9_over_32 h
    · replace h := ifn c_2 h
      refine v_iload_n hC dX9_over_13 0 rfl ?_
      refine v_iconst (v := 4) hC dX9_over_14 (by decide) ?_
      refine v_icmp_ne (tgt := 22) hC dX9_over_15 (by decide) (fun c_3 => ?_) (fun c_3 => ?_)
      · replace h := ifn c_3 h
        refine v_iload_n hC dX9_over_22 0 rfl ?_
        refine v_iconst (v := 5) hC dX9_over_23 (by decide) ?_
        refine v_icmp_ne (tgt := 31) hC dX9_over_24 (by decide) (fun c_4 => ?_) (fun c_4 => ?_)
        · replace h := ifn c_4 h
          refine v_iconst (v := 0) hC dX9_over_31 (by decide) ?_
          exact v_iret hC rfl dX9_over_32 h
        · replace h := ift c_4 h
          refine v_iconst (v := 1) hC dX9_over_27 (by decide) ?_
          refine v_goto (tgt := 32) hC dX9_over_28 (by decide) ?_
          exact v_iret hC rfl dX9_over_32 h
      · replace h := ift c_3 h
        refine v_iconst (v := 2) hC dX9_over_18 (by decide) ?_
        refine v_goto (tgt := 32) hC dX9_over_19 (by decide) ?_
        exact v_iret hC rfl dX9_over_32 h
  · replace h := ift c_1 h
    refine v_iconst (v := (-1)) hC dX9_over_4 (by decide) ?_
    refine v_goto (tgt := 32) hC dX9_over_5 (by decide) ?_
    exact v_iret hC rfl dX9_over_32 h
theorem k_X9_over (l : Launch) {G : WD}   {r0 : Int32} {τ : HS} {p0 : Int32} {σ : HS}  (hG : GX G mY)  (h : c_X9_over p0 σ = some (r0, τ)) : MI mE l yX9_over wsX9_over rmX9_over G mY [.int p0] σ r0 τ :=
  MI.of RX9 (by decide) rfl rfl (Nat.le_of_ble_eq_true rfl) rfl rfl (fun p e s m below meth c hC => w_X9_over  hG  hC h)
abbrev rmX9_taken : Room := { frames := 2, cells := 0, slots := 0, locals := 46 }
def c_X9_taken_51 (x1 : Int32) (x2 : Int32) (x3 : Int32) (σ : HS) : Option (Int32 × HS) := (if x3 = x2 then (if inb x1 8 = true then (some ((gI σ 6 (ix x1)), σ)) else none) else (some ((-13), σ)))
set_option maxHeartbeats 4000000 in
set_option maxRecDepth 100000 in
theorem w_X9_taken_51 {p : Program} {l : Launch} {e : Env} {s : State} {m : MethodId} {args : Array Value} {below : List Frame} {meth : Method} {c : Code} {A : Nat → Prop} {G : WD}  {r0 : Int32} {τ : HS}  {x1 : Int32} {x2 : Int32} {x3 : Int32} {σ : HS}  (hG : GX G mY) (hO0 : Ob G mY 0 8) (hC : Cx mE G.1 G.2.1 mY cX9_taken 4 (some .int) RX9 wsX9_taken p s m args meth c A)  (h : c_X9_taken_51 x1 x2 x3 σ = some (r0, τ)) : V p l e rmX9_taken s m args below meth c 4 A G mY 0 0 (MQ below (QI G mY A r0 τ) args s 0 0 A) σ 51 [(0, .ref (G.2.2.1 0)), (1, .int x1), (2, .int x2), (3, .int x3)] [] := by
  rw [c_X9_taken_51] at h
  refine v_iload_n hC dX9_taken_51 3 rfl ?_
  refine v_iload_n hC dX9_taken_52 2 rfl ?_
  refine v_icmp_ne (tgt := 65) hC dX9_taken_53 (by decide) (fun c_15 => ?_) (fun c_15 => ?_)
  · replace h := ifn c_15 h
    refine v_bipush (v := (-13)) hC dX9_taken_65 (by decide) ?_
    exact v_iret hC rfl dX9_taken_67 h
  · replace h := ift c_15 h
    refine v_aload_n hC dX9_taken_56 0 rfl ?_
    refine v_get (C := RX9) (T := TX9) (N := 45) (ci := 8) (k := 25) (v := .ref (G.2.2.1 6)) hC hO0 hi_X9_taken_X9 rfl (by decide) (by decide) rfl rfl fl29_X9_taken dX9_taken_57 rfl ?_
    refine v_iload_n hC dX9_taken_60 1 rfl ?_
    obtain ⟨g_16, h⟩ := gd h
    refine v_iald hC (obM_8_25 hG hO0).1 (obM_8_25 hG hO0).2 (t0 := 0) rfl g_16 dX9_taken_61 ?_
    refine v_goto (tgt := 67) hC dX9_taken_62 (by decide) ?_
    exact v_iret hC rfl dX9_taken_67 h
def c_X9_taken_33 : Nat → Int32 → Int32 → Int32 → HS → Option (Int32 × HS)
  | 0, _, _, _, _ => none
  | n + 1, x1, x2, x3, σ => (if x3 = (-1) then (c_X9_taken_51 x1 x2 x3 σ) else (if x3 = x2 then (c_X9_taken_51 x1 x2 x3 σ) else (bi2 (c_X9_over x3 σ) (fun r14 s13 => (c_X9_taken_33 n x1 x2 r14 s13)))))
set_option maxHeartbeats 4000000 in
set_option maxRecDepth 100000 in
theorem w_X9_taken_33 {p : Program} {l : Launch} {e : Env} {s : State} {m : MethodId} {args : Array Value} {below : List Frame} {meth : Method} {c : Code} {A : Nat → Prop} {G : WD}  {r0 : Int32} {τ : HS}   (hG : GX G mY) (hO0 : Ob G mY 0 8) (hC : Cx mE G.1 G.2.1 mY cX9_taken 4 (some .int) RX9 wsX9_taken p s m args meth c A)  : ∀ (n : Nat) (x1 : Int32) (x2 : Int32) (x3 : Int32) (σ : HS), c_X9_taken_33 n x1 x2 x3 σ = some (r0, τ) → V p l e rmX9_taken s m args below meth c 4 A G mY 0 0 (MQ below (QI G mY A r0 τ) args s 0 0 A) σ 33 [(0, .ref (G.2.2.1 0)), (1, .int x1), (2, .int x2), (3, .int x3)] [] := by
  intro n
  induction n with
  | zero => intro x1 x2 x3 σ h; exact nof h
  | succ n ih =>
    intro x1 x2 x3 σ h
    rw [c_X9_taken_33] at h
    refine v_iload_n hC dX9_taken_33 3 rfl ?_
    refine v_iconst (v := (-1)) hC dX9_taken_34 (by decide) ?_
    refine v_icmp_eq (tgt := 51) hC dX9_taken_35 (by decide) (fun c_10 => ?_) (fun c_10 => ?_)
    · replace h := ift c_10 h
      exact w_X9_taken_51 hG (hO0) hC h
    · replace h := ifn c_10 h
      refine v_iload_n hC dX9_taken_38 3 rfl ?_
      refine v_iload_n hC dX9_taken_39 2 rfl ?_
      refine v_icmp_eq (tgt := 51) hC dX9_taken_40 (by decide) (fun c_11 => ?_) (fun c_11 => ?_)
      · replace h := ift c_11 h
        exact w_X9_taken_51 hG (hO0) hC h
      · replace h := ifn c_11 h
        refine v_iload_n hC dX9_taken_43 3 rfl ?_
        obtain ⟨r14, s13, hc_12, h⟩ := bd2 h
        refine v_callSI hC mE_ok (n := 1) (As := [.int x3]) (k_X9_over l hG hc_12) (va_cwS 1 hC.1.2.2.2.2 gX9_taken_X9_over rfl rfl rfl (by decide +kernel) ⟨(Nat.le_of_ble_eq_true rfl), (Nat.le_of_ble_eq_true rfl)⟩) rfl (Nat.le_of_ble_eq_true rfl) ⟨Nat.zero_le _, Nat.zero_le _⟩ dX9_taken_44 rfl ?_
        refine v_istore_n (L' := [(0, .ref (G.2.2.1 0)), (1, .int x1), (2, .int x2), (3, .int r14)]) hC dX9_taken_47 (by decide) [1, 2, 3, 0] rfl ?_
        refine v_goto (tgt := 33) hC dX9_taken_48 (by decide) ?_
        exact ih _ _ _ _ h
def c_X9_taken (p1 : Int32) (p2 : Int32) (σ : HS) : Option (Int32 × HS) := (bi2 (c_X9_in (Int32.toInt64 p2) 0 5 σ) (fun r3 s2 => (if r3 = 0 then (some ((-2), s2)) else (bi2 (c_X9_isPlan p1 s2) (fun r7 s6 => (if r7 = 0 then (some ((-11), s6)) else (if inb p1 8 = true then (c_X9_taken_33 FU p1 p2 (gI s6 5 (ix p1)) s6) else none)))))))
set_option maxHeartbeats 4000000 in
set_option maxRecDepth 100000 in
theorem w_X9_taken {p : Program} {l : Launch} {e : Env} {s : State} {m : MethodId} {args : Array Value} {below : List Frame} {meth : Method} {c : Code} {A : Nat → Prop} {G : WD}  {r0 : Int32} {τ : HS} {p1 : Int32} {p2 : Int32} {σ : HS}  (hG : GX G mY) (hO0 : Ob G mY 0 8) (hC : Cx mE G.1 G.2.1 mY cX9_taken 4 (some .int) RX9 wsX9_taken p s m args meth c A) (h : c_X9_taken p1 p2 σ = some (r0, τ)) : V p l e rmX9_taken s m args below meth c 4 A G mY 0 0 (MQ below (QI G mY A r0 τ) args s 0 0 A) σ 0 [(0, .ref (G.2.2.1 0)), (1, .int p1), (2, .int p2)] [] := by
  rw [c_X9_taken] at h
  refine v_iload_n hC dX9_taken_0 2 rfl ?_
  refine v_i2l hC dX9_taken_1 ?_
  refine v_lconst (v := 0) hC dX9_taken_2 (by decide) ?_
  refine v_ldc2 (v := 5) hC lc260_X9_taken dX9_taken_3 ?_
  obtain ⟨r3, s2, hc_1, h⟩ := bd2 h
  refine v_callSI hC mE_ok (n := 3) (As := [.long (Int32.toInt64 p2), .long 0, .long 5]) (k_X9_in l hG hc_1) (va_cwS 3 hC.1.2.2.2.2 gX9_taken_X9_in rfl rfl rfl (by decide +kernel) ⟨(Nat.le_of_ble_eq_true rfl), (Nat.le_of_ble_eq_true rfl)⟩) rfl (Nat.le_of_ble_eq_true rfl) ⟨Nat.zero_le _, Nat.zero_le _⟩ dX9_taken_6 rfl ?_
  refine v_if_ne (tgt := 15) hC dX9_taken_9 (by decide) (fun c_4 => ?_) (fun c_4 => ?_)
  · replace h := ifn c_4 h
    refine v_aload_n hC dX9_taken_15 0 rfl ?_
    refine v_iload_n hC dX9_taken_16 1 rfl ?_
    obtain ⟨r7, s6, hc_5, h⟩ := bd2 h
    refine v_callVI hC mE_ok (n := 1) (As := [.int p1]) (k_X9_isPlan l hG (hO0) hc_5) (cwV 1 hC.1.2.2.2.2 gX9_taken_X9_isPlan rfl rfl rfl (by decide +kernel) ⟨(Nat.le_of_ble_eq_true rfl), (Nat.le_of_ble_eq_true rfl)⟩) hO0 (by decide) rfl rfl rfl (Nat.le_of_ble_eq_true rfl) ⟨Nat.zero_le _, Nat.zero_le _⟩ dX9_taken_17 rfl ?_
    refine v_if_ne (tgt := 26) hC dX9_taken_20 (by decide) (fun c_8 => ?_) (fun c_8 => ?_)
    · replace h := ifn c_8 h
      refine v_aload_n hC dX9_taken_26 0 rfl ?_
      refine v_get (C := RX9) (T := TX9) (N := 45) (ci := 8) (k := 24) (v := .ref (G.2.2.1 5)) hC hO0 hi_X9_taken_X9 rfl (by decide) (by decide) rfl rfl fl26_X9_taken dX9_taken_27 rfl ?_
      refine v_iload_n hC dX9_taken_30 1 rfl ?_
      obtain ⟨g_9, h⟩ := gd h
      refine v_iald hC (obM_8_24 hG hO0).1 (obM_8_24 hG hO0).2 (t0 := 0) rfl g_9 dX9_taken_31 ?_
      refine v_istore_n (L' := [(0, .ref (G.2.2.1 0)), (1, .int p1), (2, .int p2), (3, .int (gI s6 5 (ix p1)))]) hC dX9_taken_32 (by decide) [1, 2, 3, 0] rfl ?_
      exact w_X9_taken_33 hG (hO0) hC FU _ _ _ _ h
    · replace h := ift c_8 h
      refine v_bipush (v := (-11)) hC dX9_taken_23 (by decide) ?_
      exact v_iret hC rfl dX9_taken_25 h
  · replace h := ift c_4 h
    refine v_bipush (v := (-2)) hC dX9_taken_12 (by decide) ?_
    exact v_iret hC rfl dX9_taken_14 h
theorem k_X9_taken (l : Launch) {G : WD}   {r0 : Int32} {τ : HS} {p1 : Int32} {p2 : Int32} {σ : HS}  (hG : GX G mY) (hO0 : Ob G mY 0 8) (h : c_X9_taken p1 p2 σ = some (r0, τ)) : MI mE l yX9_taken wsX9_taken rmX9_taken G mY [.ref (G.2.2.1 0), .int p1, .int p2] σ r0 τ :=
  MI.of RX9 (by decide) rfl rfl (Nat.le_of_ble_eq_true rfl) rfl rfl (fun p e s m below meth c hC => w_X9_taken  hG hO0 hC h)
