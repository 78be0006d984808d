/-! DECODE ROWS -/
theorem d_L_cell_0 : decode b_L_cell 0 = .ok (.iload_n 1, 1) := by decide +kernel
theorem d_L_cell_1 : decode b_L_cell 1 = .ok (.aload_n 0, 1) := by decide +kernel
theorem d_L_cell_2 : decode b_L_cell 2 = .ok (.arraylength, 1) := by decide +kernel
theorem d_L_cell_3 : decode b_L_cell 3 = .ok (.if_icmp .ge 9, 3) := by decide +kernel
theorem d_L_cell_6 : decode b_L_cell 6 = .ok (.aload_n 0, 1) := by decide +kernel
theorem d_L_cell_7 : decode b_L_cell 7 = .ok (.iload_n 1, 1) := by decide +kernel
theorem d_L_cell_8 : decode b_L_cell 8 = .ok (.iaload, 1) := by decide +kernel
theorem d_L_cell_9 : decode b_L_cell 9 = .ok (.goto 4, 3) := by decide +kernel
theorem d_L_cell_12 : decode b_L_cell 12 = .ok (.iconst 0, 1) := by decide +kernel
theorem d_L_cell_13 : decode b_L_cell 13 = .ok (.ireturn, 1) := by decide +kernel
theorem d_L_place_0 : decode b_L_place 0 = .ok (.aload_n 2, 1) := by decide +kernel
theorem d_L_place_1 : decode b_L_place 1 = .ok (.iconst 0, 1) := by decide +kernel
theorem d_L_place_2 : decode b_L_place 2 = .ok (.aload_n 0, 1) := by decide +kernel
theorem d_L_place_3 : decode b_L_place 3 = .ok (.iload_n 1, 1) := by decide +kernel
theorem d_L_place_4 : decode b_L_place 4 = .ok (.invokevirtual 7, 3) := by decide +kernel
theorem d_L_place_7 : decode b_L_place 7 = .ok (.i2l, 1) := by decide +kernel
theorem d_L_place_8 : decode b_L_place 8 = .ok (.lastore, 1) := by decide +kernel
theorem d_L_place_9 : decode b_L_place 9 = .ok (.goto 9, 3) := by decide +kernel
theorem d_L_place_12 : decode b_L_place 12 = .ok (.astore_n 3, 1) := by decide +kernel
theorem d_L_place_13 : decode b_L_place 13 = .ok (.iconst 1, 1) := by decide +kernel
theorem d_L_place_14 : decode b_L_place 14 = .ok (.ireturn, 1) := by decide +kernel
theorem d_L_place_15 : decode b_L_place 15 = .ok (.astore_n 3, 1) := by decide +kernel
theorem d_L_place_16 : decode b_L_place 16 = .ok (.iconst 2, 1) := by decide +kernel
theorem d_L_place_17 : decode b_L_place 17 = .ok (.ireturn, 1) := by decide +kernel
theorem d_L_place_18 : decode b_L_place 18 = .ok (.iconst 0, 1) := by decide +kernel
theorem d_L_place_19 : decode b_L_place 19 = .ok (.ireturn, 1) := by decide +kernel
theorem d_L_closed_0 : decode b_L_closed 0 = .ok (.aload 4, 2) := by decide +kernel
theorem d_L_closed_2 : decode b_L_closed 2 = .ok (.iconst 0, 1) := by decide +kernel
theorem d_L_closed_3 : decode b_L_closed 3 = .ok (.aload_n 0, 1) := by decide +kernel
theorem d_L_closed_4 : decode b_L_closed 4 = .ok (.iload_n 1, 1) := by decide +kernel
theorem d_L_closed_5 : decode b_L_closed 5 = .ok (.iload_n 2, 1) := by decide +kernel
theorem d_L_closed_6 : decode b_L_closed 6 = .ok (.iload_n 3, 1) := by decide +kernel
theorem d_L_closed_7 : decode b_L_closed 7 = .ok (.invokevirtual 17, 3) := by decide +kernel
theorem d_L_closed_10 : decode b_L_closed 10 = .ok (.ifCond .eq 7, 3) := by decide +kernel
theorem d_L_closed_13 : decode b_L_closed 13 = .ok (.lconst 1, 1) := by decide +kernel
theorem d_L_closed_14 : decode b_L_closed 14 = .ok (.goto 4, 3) := by decide +kernel
theorem d_L_closed_17 : decode b_L_closed 17 = .ok (.lconst 0, 1) := by decide +kernel
theorem d_L_closed_18 : decode b_L_closed 18 = .ok (.lastore, 1) := by decide +kernel
theorem d_L_closed_19 : decode b_L_closed 19 = .ok (.goto 7, 3) := by decide +kernel
theorem d_L_closed_22 : decode b_L_closed 22 = .ok (.astore 5, 2) := by decide +kernel
theorem d_L_closed_24 : decode b_L_closed 24 = .ok (.iconst 1, 1) := by decide +kernel
theorem d_L_closed_25 : decode b_L_closed 25 = .ok (.ireturn, 1) := by decide +kernel
theorem d_L_closed_26 : decode b_L_closed 26 = .ok (.iconst 0, 1) := by decide +kernel
theorem d_L_closed_27 : decode b_L_closed 27 = .ok (.ireturn, 1) := by decide +kernel
theorem d_L_cage_0 : decode b_L_cage 0 = .ok (.aload_n 2, 1) := by decide +kernel
theorem d_L_cage_1 : decode b_L_cage 1 = .ok (.iconst 0, 1) := by decide +kernel
theorem d_L_cage_2 : decode b_L_cage 2 = .ok (.aload_n 0, 1) := by decide +kernel
theorem d_L_cage_3 : decode b_L_cage 3 = .ok (.iload_n 1, 1) := by decide +kernel
theorem d_L_cage_4 : decode b_L_cage 4 = .ok (.invokevirtual 21, 3) := by decide +kernel
theorem d_L_cage_7 : decode b_L_cage 7 = .ok (.i2l, 1) := by decide +kernel
theorem d_L_cage_8 : decode b_L_cage 8 = .ok (.lastore, 1) := by decide +kernel
theorem d_L_cage_9 : decode b_L_cage 9 = .ok (.goto 9, 3) := by decide +kernel
theorem d_L_cage_12 : decode b_L_cage 12 = .ok (.astore_n 3, 1) := by decide +kernel
theorem d_L_cage_13 : decode b_L_cage 13 = .ok (.iconst 1, 1) := by decide +kernel
theorem d_L_cage_14 : decode b_L_cage 14 = .ok (.ireturn, 1) := by decide +kernel
theorem d_L_cage_15 : decode b_L_cage 15 = .ok (.astore_n 3, 1) := by decide +kernel
theorem d_L_cage_16 : decode b_L_cage 16 = .ok (.iconst 2, 1) := by decide +kernel
theorem d_L_cage_17 : decode b_L_cage 17 = .ok (.ireturn, 1) := by decide +kernel
theorem d_L_cage_18 : decode b_L_cage 18 = .ok (.iconst 0, 1) := by decide +kernel
theorem d_L_cage_19 : decode b_L_cage 19 = .ok (.ireturn, 1) := by decide +kernel
theorem d_L_size_0 : decode b_L_size 0 = .ok (.aload 5, 2) := by decide +kernel
theorem d_L_size_2 : decode b_L_size 2 = .ok (.iconst 0, 1) := by decide +kernel
theorem d_L_size_3 : decode b_L_size 3 = .ok (.aload_n 0, 1) := by decide +kernel
theorem d_L_size_4 : decode b_L_size 4 = .ok (.iload_n 1, 1) := by decide +kernel
theorem d_L_size_5 : decode b_L_size 5 = .ok (.iload_n 2, 1) := by decide +kernel
theorem d_L_size_6 : decode b_L_size 6 = .ok (.iload_n 3, 1) := by decide +kernel
theorem d_L_size_7 : decode b_L_size 7 = .ok (.iload 4, 2) := by decide +kernel
theorem d_L_size_9 : decode b_L_size 9 = .ok (.invokevirtual 24, 3) := by decide +kernel
theorem d_L_size_12 : decode b_L_size 12 = .ok (.i2l, 1) := by decide +kernel
theorem d_L_size_13 : decode b_L_size 13 = .ok (.lastore, 1) := by decide +kernel
theorem d_L_size_14 : decode b_L_size 14 = .ok (.goto 7, 3) := by decide +kernel
theorem d_L_size_17 : decode b_L_size 17 = .ok (.astore 6, 2) := by decide +kernel
theorem d_L_size_19 : decode b_L_size 19 = .ok (.iconst 1, 1) := by decide +kernel
theorem d_L_size_20 : decode b_L_size 20 = .ok (.ireturn, 1) := by decide +kernel
theorem d_L_size_21 : decode b_L_size 21 = .ok (.iconst 0, 1) := by decide +kernel
theorem d_L_size_22 : decode b_L_size 22 = .ok (.ireturn, 1) := by decide +kernel
theorem d_L_boat_0 : decode b_L_boat 0 = .ok (.aload_n 2, 1) := by decide +kernel
theorem d_L_boat_1 : decode b_L_boat 1 = .ok (.iconst 0, 1) := by decide +kernel
theorem d_L_boat_2 : decode b_L_boat 2 = .ok (.aload_n 0, 1) := by decide +kernel
theorem d_L_boat_3 : decode b_L_boat 3 = .ok (.iload_n 1, 1) := by decide +kernel
theorem d_L_boat_4 : decode b_L_boat 4 = .ok (.invokevirtual 28, 3) := by decide +kernel
theorem d_L_boat_7 : decode b_L_boat 7 = .ok (.i2l, 1) := by decide +kernel
theorem d_L_boat_8 : decode b_L_boat 8 = .ok (.lastore, 1) := by decide +kernel
theorem d_L_boat_9 : decode b_L_boat 9 = .ok (.goto 9, 3) := by decide +kernel
theorem d_L_boat_12 : decode b_L_boat 12 = .ok (.astore_n 3, 1) := by decide +kernel
theorem d_L_boat_13 : decode b_L_boat 13 = .ok (.iconst 1, 1) := by decide +kernel
theorem d_L_boat_14 : decode b_L_boat 14 = .ok (.ireturn, 1) := by decide +kernel
theorem d_L_boat_15 : decode b_L_boat 15 = .ok (.astore_n 3, 1) := by decide +kernel
theorem d_L_boat_16 : decode b_L_boat 16 = .ok (.iconst 2, 1) := by decide +kernel
theorem d_L_boat_17 : decode b_L_boat 17 = .ok (.ireturn, 1) := by decide +kernel
theorem d_L_boat_18 : decode b_L_boat 18 = .ok (.iconst 0, 1) := by decide +kernel
theorem d_L_boat_19 : decode b_L_boat 19 = .ok (.ireturn, 1) := by decide +kernel
theorem d_L_weather_0 : decode b_L_weather 0 = .ok (.aload 4, 2) := by decide +kernel
theorem d_L_weather_2 : decode b_L_weather 2 = .ok (.iconst 0, 1) := by decide +kernel
theorem d_L_weather_3 : decode b_L_weather 3 = .ok (.aload_n 0, 1) := by decide +kernel
theorem d_L_weather_4 : decode b_L_weather 4 = .ok (.iload_n 1, 1) := by decide +kernel
theorem d_L_weather_5 : decode b_L_weather 5 = .ok (.iload_n 2, 1) := by decide +kernel
theorem d_L_weather_6 : decode b_L_weather 6 = .ok (.iload_n 3, 1) := by decide +kernel
theorem d_L_weather_7 : decode b_L_weather 7 = .ok (.invokevirtual 31, 3) := by decide +kernel
theorem d_L_weather_10 : decode b_L_weather 10 = .ok (.ifCond .eq 7, 3) := by decide +kernel
theorem d_L_weather_13 : decode b_L_weather 13 = .ok (.lconst 1, 1) := by decide +kernel
theorem d_L_weather_14 : decode b_L_weather 14 = .ok (.goto 4, 3) := by decide +kernel
theorem d_L_weather_17 : decode b_L_weather 17 = .ok (.lconst 0, 1) := by decide +kernel
theorem d_L_weather_18 : decode b_L_weather 18 = .ok (.lastore, 1) := by decide +kernel
theorem d_L_weather_19 : decode b_L_weather 19 = .ok (.goto 7, 3) := by decide +kernel
theorem d_L_weather_22 : decode b_L_weather 22 = .ok (.astore 5, 2) := by decide +kernel
theorem d_L_weather_24 : decode b_L_weather 24 = .ok (.iconst 1, 1) := by decide +kernel
theorem d_L_weather_25 : decode b_L_weather 25 = .ok (.ireturn, 1) := by decide +kernel
theorem d_L_weather_26 : decode b_L_weather 26 = .ok (.iconst 0, 1) := by decide +kernel
theorem d_L_weather_27 : decode b_L_weather 27 = .ok (.ireturn, 1) := by decide +kernel
theorem d_L_plant_0 : decode b_L_plant 0 = .ok (.aload_n 3, 1) := by decide +kernel
theorem d_L_plant_1 : decode b_L_plant 1 = .ok (.iconst 0, 1) := by decide +kernel
theorem d_L_plant_2 : decode b_L_plant 2 = .ok (.aload_n 0, 1) := by decide +kernel
theorem d_L_plant_3 : decode b_L_plant 3 = .ok (.iload_n 1, 1) := by decide +kernel
theorem d_L_plant_4 : decode b_L_plant 4 = .ok (.iload_n 2, 1) := by decide +kernel
theorem d_L_plant_5 : decode b_L_plant 5 = .ok (.invokevirtual 34, 3) := by decide +kernel
theorem d_L_plant_8 : decode b_L_plant 8 = .ok (.i2l, 1) := by decide +kernel
theorem d_L_plant_9 : decode b_L_plant 9 = .ok (.lastore, 1) := by decide +kernel
theorem d_L_plant_10 : decode b_L_plant 10 = .ok (.goto 7, 3) := by decide +kernel
theorem d_L_plant_13 : decode b_L_plant 13 = .ok (.astore 4, 2) := by decide +kernel
theorem d_L_plant_15 : decode b_L_plant 15 = .ok (.iconst 1, 1) := by decide +kernel
theorem d_L_plant_16 : decode b_L_plant 16 = .ok (.ireturn, 1) := by decide +kernel
theorem d_L_plant_17 : decode b_L_plant 17 = .ok (.iconst 0, 1) := by decide +kernel
theorem d_L_plant_18 : decode b_L_plant 18 = .ok (.ireturn, 1) := by decide +kernel
theorem d_L_order_0 : decode b_L_order 0 = .ok (.aload 6, 2) := by decide +kernel
theorem d_L_order_2 : decode b_L_order 2 = .ok (.iconst 0, 1) := by decide +kernel
theorem d_L_order_3 : decode b_L_order 3 = .ok (.aload_n 0, 1) := by decide +kernel
theorem d_L_order_4 : decode b_L_order 4 = .ok (.iload_n 1, 1) := by decide +kernel
theorem d_L_order_5 : decode b_L_order 5 = .ok (.iload_n 2, 1) := by decide +kernel
theorem d_L_order_6 : decode b_L_order 6 = .ok (.iload_n 3, 1) := by decide +kernel
theorem d_L_order_7 : decode b_L_order 7 = .ok (.iload 4, 2) := by decide +kernel
theorem d_L_order_9 : decode b_L_order 9 = .ok (.iload 5, 2) := by decide +kernel
theorem d_L_order_11 : decode b_L_order 11 = .ok (.invokevirtual 38, 3) := by decide +kernel
theorem d_L_order_14 : decode b_L_order 14 = .ok (.i2l, 1) := by decide +kernel
theorem d_L_order_15 : decode b_L_order 15 = .ok (.lastore, 1) := by decide +kernel
theorem d_L_order_16 : decode b_L_order 16 = .ok (.goto 11, 3) := by decide +kernel
theorem d_L_order_19 : decode b_L_order 19 = .ok (.astore 7, 2) := by decide +kernel
theorem d_L_order_21 : decode b_L_order 21 = .ok (.iconst 1, 1) := by decide +kernel
theorem d_L_order_22 : decode b_L_order 22 = .ok (.ireturn, 1) := by decide +kernel
theorem d_L_order_23 : decode b_L_order 23 = .ok (.astore 7, 2) := by decide +kernel
theorem d_L_order_25 : decode b_L_order 25 = .ok (.iconst 2, 1) := by decide +kernel
theorem d_L_order_26 : decode b_L_order 26 = .ok (.ireturn, 1) := by decide +kernel
theorem d_L_order_27 : decode b_L_order 27 = .ok (.iconst 0, 1) := by decide +kernel
theorem d_L_order_28 : decode b_L_order 28 = .ok (.ireturn, 1) := by decide +kernel
theorem d_L_prices_0 : decode b_L_prices 0 = .ok (.aload_n 0, 1) := by decide +kernel
theorem d_L_prices_1 : decode b_L_prices 1 = .ok (.iload_n 1, 1) := by decide +kernel
theorem d_L_prices_2 : decode b_L_prices 2 = .ok (.iload_n 2, 1) := by decide +kernel
theorem d_L_prices_3 : decode b_L_prices 3 = .ok (.invokevirtual 42, 3) := by decide +kernel
theorem d_L_prices_6 : decode b_L_prices 6 = .ok (.goto 6, 3) := by decide +kernel
theorem d_L_prices_9 : decode b_L_prices 9 = .ok (.astore_n 3, 1) := by decide +kernel
theorem d_L_prices_10 : decode b_L_prices 10 = .ok (.iconst 1, 1) := by decide +kernel
theorem d_L_prices_11 : decode b_L_prices 11 = .ok (.ireturn, 1) := by decide +kernel
theorem d_L_prices_12 : decode b_L_prices 12 = .ok (.iconst 0, 1) := by decide +kernel
theorem d_L_prices_13 : decode b_L_prices 13 = .ok (.ireturn, 1) := by decide +kernel
theorem d_L_run_0 : decode b_L_run 0 = .ok (.aload_n 2, 1) := by decide +kernel
theorem d_L_run_1 : decode b_L_run 1 = .ok (.iconst 0, 1) := by decide +kernel
theorem d_L_run_2 : decode b_L_run 2 = .ok (.aload_n 0, 1) := by decide +kernel
theorem d_L_run_3 : decode b_L_run 3 = .ok (.iload_n 1, 1) := by decide +kernel
theorem d_L_run_4 : decode b_L_run 4 = .ok (.invokevirtual 46, 3) := by decide +kernel
theorem d_L_run_7 : decode b_L_run 7 = .ok (.i2l, 1) := by decide +kernel
theorem d_L_run_8 : decode b_L_run 8 = .ok (.lastore, 1) := by decide +kernel
theorem d_L_run_9 : decode b_L_run 9 = .ok (.goto 6, 3) := by decide +kernel
theorem d_L_run_12 : decode b_L_run 12 = .ok (.astore_n 3, 1) := by decide +kernel
theorem d_L_run_13 : decode b_L_run 13 = .ok (.iconst 1, 1) := by decide +kernel
theorem d_L_run_14 : decode b_L_run 14 = .ok (.ireturn, 1) := by decide +kernel
theorem d_L_run_15 : decode b_L_run 15 = .ok (.iconst 0, 1) := by decide +kernel
theorem d_L_run_16 : decode b_L_run 16 = .ok (.ireturn, 1) := by decide +kernel
theorem d_L_move_0 : decode b_L_move 0 = .ok (.aload_n 3, 1) := by decide +kernel
theorem d_L_move_1 : decode b_L_move 1 = .ok (.iconst 0, 1) := by decide +kernel
theorem d_L_move_2 : decode b_L_move 2 = .ok (.aload_n 0, 1) := by decide +kernel
theorem d_L_move_3 : decode b_L_move 3 = .ok (.iload_n 1, 1) := by decide +kernel
theorem d_L_move_4 : decode b_L_move 4 = .ok (.iload_n 2, 1) := by decide +kernel
theorem d_L_move_5 : decode b_L_move 5 = .ok (.invokevirtual 49, 3) := by decide +kernel
theorem d_L_move_8 : decode b_L_move 8 = .ok (.i2l, 1) := by decide +kernel
theorem d_L_move_9 : decode b_L_move 9 = .ok (.lastore, 1) := by decide +kernel
theorem d_L_move_10 : decode b_L_move 10 = .ok (.goto 7, 3) := by decide +kernel
theorem d_L_move_13 : decode b_L_move 13 = .ok (.astore 4, 2) := by decide +kernel
theorem d_L_move_15 : decode b_L_move 15 = .ok (.iconst 1, 1) := by decide +kernel
theorem d_L_move_16 : decode b_L_move 16 = .ok (.ireturn, 1) := by decide +kernel
theorem d_L_move_17 : decode b_L_move 17 = .ok (.iconst 0, 1) := by decide +kernel
theorem d_L_move_18 : decode b_L_move 18 = .ok (.ireturn, 1) := by decide +kernel
theorem d_L_taken_0 : decode b_L_taken 0 = .ok (.aload_n 2, 1) := by decide +kernel
theorem d_L_taken_1 : decode b_L_taken 1 = .ok (.iconst 0, 1) := by decide +kernel
theorem d_L_taken_2 : decode b_L_taken 2 = .ok (.aload_n 0, 1) := by decide +kernel
theorem d_L_taken_3 : decode b_L_taken 3 = .ok (.iload_n 1, 1) := by decide +kernel
theorem d_L_taken_4 : decode b_L_taken 4 = .ok (.invokevirtual 52, 3) := by decide +kernel
theorem d_L_taken_7 : decode b_L_taken 7 = .ok (.i2l, 1) := by decide +kernel
theorem d_L_taken_8 : decode b_L_taken 8 = .ok (.lastore, 1) := by decide +kernel
theorem d_L_taken_9 : decode b_L_taken 9 = .ok (.goto 6, 3) := by decide +kernel
theorem d_L_taken_12 : decode b_L_taken 12 = .ok (.astore_n 3, 1) := by decide +kernel
theorem d_L_taken_13 : decode b_L_taken 13 = .ok (.iconst 1, 1) := by decide +kernel
theorem d_L_taken_14 : decode b_L_taken 14 = .ok (.ireturn, 1) := by decide +kernel
theorem d_L_taken_15 : decode b_L_taken 15 = .ok (.iconst 0, 1) := by decide +kernel
theorem d_L_taken_16 : decode b_L_taken 16 = .ok (.ireturn, 1) := by decide +kernel
theorem d_L_check_0 : decode b_L_check 0 = .ok (.aload_n 1, 1) := by decide +kernel
theorem d_L_check_1 : decode b_L_check 1 = .ok (.iconst 0, 1) := by decide +kernel
theorem d_L_check_2 : decode b_L_check 2 = .ok (.aload_n 0, 1) := by decide +kernel
theorem d_L_check_3 : decode b_L_check 3 = .ok (.invokevirtual 55, 3) := by decide +kernel
theorem d_L_check_6 : decode b_L_check 6 = .ok (.i2l, 1) := by decide +kernel
theorem d_L_check_7 : decode b_L_check 7 = .ok (.lastore, 1) := by decide +kernel
theorem d_L_check_8 : decode b_L_check 8 = .ok (.goto 6, 3) := by decide +kernel
theorem d_L_check_11 : decode b_L_check 11 = .ok (.astore_n 2, 1) := by decide +kernel
theorem d_L_check_12 : decode b_L_check 12 = .ok (.iconst 1, 1) := by decide +kernel
theorem d_L_check_13 : decode b_L_check 13 = .ok (.ireturn, 1) := by decide +kernel
theorem d_L_check_14 : decode b_L_check 14 = .ok (.iconst 0, 1) := by decide +kernel
theorem d_L_check_15 : decode b_L_check 15 = .ok (.ireturn, 1) := by decide +kernel
theorem d_L_worth_0 : decode b_L_worth 0 = .ok (.aload_n 1, 1) := by decide +kernel
theorem d_L_worth_1 : decode b_L_worth 1 = .ok (.iconst 0, 1) := by decide +kernel
theorem d_L_worth_2 : decode b_L_worth 2 = .ok (.aload_n 0, 1) := by decide +kernel
theorem d_L_worth_3 : decode b_L_worth 3 = .ok (.invokevirtual 59, 3) := by decide +kernel
theorem d_L_worth_6 : decode b_L_worth 6 = .ok (.lastore, 1) := by decide +kernel
theorem d_L_worth_7 : decode b_L_worth 7 = .ok (.goto 6, 3) := by decide +kernel
theorem d_L_worth_10 : decode b_L_worth 10 = .ok (.astore_n 2, 1) := by decide +kernel
theorem d_L_worth_11 : decode b_L_worth 11 = .ok (.iconst 1, 1) := by decide +kernel
theorem d_L_worth_12 : decode b_L_worth 12 = .ok (.ireturn, 1) := by decide +kernel
theorem d_L_worth_13 : decode b_L_worth 13 = .ok (.iconst 0, 1) := by decide +kernel
theorem d_L_worth_14 : decode b_L_worth 14 = .ok (.ireturn, 1) := by decide +kernel
theorem d_L_sold_0 : decode b_L_sold 0 = .ok (.aload_n 2, 1) := by decide +kernel
theorem d_L_sold_1 : decode b_L_sold 1 = .ok (.iconst 0, 1) := by decide +kernel
theorem d_L_sold_2 : decode b_L_sold 2 = .ok (.aload_n 0, 1) := by decide +kernel
theorem d_L_sold_3 : decode b_L_sold 3 = .ok (.iload_n 1, 1) := by decide +kernel
theorem d_L_sold_4 : decode b_L_sold 4 = .ok (.invokevirtual 63, 3) := by decide +kernel
theorem d_L_sold_7 : decode b_L_sold 7 = .ok (.i2l, 1) := by decide +kernel
theorem d_L_sold_8 : decode b_L_sold 8 = .ok (.lastore, 1) := by decide +kernel
theorem d_L_sold_9 : decode b_L_sold 9 = .ok (.goto 9, 3) := by decide +kernel
theorem d_L_sold_12 : decode b_L_sold 12 = .ok (.astore_n 3, 1) := by decide +kernel
theorem d_L_sold_13 : decode b_L_sold 13 = .ok (.iconst 1, 1) := by decide +kernel
theorem d_L_sold_14 : decode b_L_sold 14 = .ok (.ireturn, 1) := by decide +kernel
theorem d_L_sold_15 : decode b_L_sold 15 = .ok (.astore_n 3, 1) := by decide +kernel
theorem d_L_sold_16 : decode b_L_sold 16 = .ok (.iconst 2, 1) := by decide +kernel
theorem d_L_sold_17 : decode b_L_sold 17 = .ok (.ireturn, 1) := by decide +kernel
theorem d_L_sold_18 : decode b_L_sold 18 = .ok (.iconst 0, 1) := by decide +kernel
theorem d_L_sold_19 : decode b_L_sold 19 = .ok (.ireturn, 1) := by decide +kernel
