/-! DECODE ROWS -/
theorem d_L_cell_0 : decode b_L_cell 0 = .ok (.iload_n 1, 1) := by decide +kernel
theorem d_L_cell_1 : decode b_L_cell 1 = .ok (.aload_n 0, 1) := by decide +kernel
theorem d_L_cell_2 : decode b_L_cell 2 = .ok (.arraylength, 1) := by decide +kernel
theorem d_L_cell_3 : decode b_L_cell 3 = .ok (.if_icmp .ge 9, 3) := by decide +kernel
theorem d_L_cell_6 : decode b_L_cell 6 = .ok (.aload_n 0, 1) := by decide +kernel
theorem d_L_cell_7 : decode b_L_cell 7 = .ok (.iload_n 1, 1) := by decide +kernel
theorem d_L_cell_8 : decode b_L_cell 8 = .ok (.iaload, 1) := by decide +kernel
theorem d_L_cell_9 : decode b_L_cell 9 = .ok (.goto 4, 3) := by decide +kernel
theorem d_L_cell_12 : decode b_L_cell 12 = .ok (.iconst 0, 1) := by decide +kernel
theorem d_L_cell_13 : decode b_L_cell 13 = .ok (.ireturn, 1) := by decide +kernel
theorem d_L_place_0 : decode b_L_place 0 = .ok (.aload_n 2, 1) := by decide +kernel
theorem d_L_place_1 : decode b_L_place 1 = .ok (.iconst 0, 1) := by decide +kernel
theorem d_L_place_2 : decode b_L_place 2 = .ok (.aload_n 0, 1) := by decide +kernel
theorem d_L_place_3 : decode b_L_place 3 = .ok (.iload_n 1, 1) := by decide +kernel
theorem d_L_place_4 : decode b_L_place 4 = .ok (.invokevirtual 7, 3) := by decide +kernel
theorem d_L_place_7 : decode b_L_place 7 = .ok (.i2l, 1) := by decide +kernel
theorem d_L_place_8 : decode b_L_place 8 = .ok (.lastore, 1) := by decide +kernel
theorem d_L_place_9 : decode b_L_place 9 = .ok (.goto 9, 3) := by decide +kernel
theorem d_L_place_12 : decode b_L_place 12 = .ok (.astore_n 3, 1) := by decide +kernel
theorem d_L_place_13 : decode b_L_place 13 = .ok (.iconst 1, 1) := by decide +kernel
theorem d_L_place_14 : decode b_L_place 14 = .ok (.ireturn, 1) := by decide +kernel
theorem d_L_place_15 : decode b_L_place 15 = .ok (.astore_n 3, 1) := by decide +kernel
theorem d_L_place_16 : decode b_L_place 16 = .ok (.iconst 2, 1) := by decide +kernel
theorem d_L_place_17 : decode b_L_place 17 = .ok (.ireturn, 1) := by decide +kernel
theorem d_L_place_18 : decode b_L_place 18 = .ok (.iconst 0, 1) := by decide +kernel
theorem d_L_place_19 : decode b_L_place 19 = .ok (.ireturn, 1) := by decide +kernel
theorem d_L_closed_0 : decode b_L_closed 0 = .ok (.aload 4, 2) := by decide +kernel
theorem d_L_closed_2 : decode b_L_closed 2 = .ok (.iconst 0, 1) := by decide +kernel
theorem d_L_closed_3 : decode b_L_closed 3 = .ok (.aload_n 0, 1) := by decide +kernel
theorem d_L_closed_4 : decode b_L_closed 4 = .ok (.iload_n 1, 1) := by decide +kernel
theorem d_L_closed_5 : decode b_L_closed 5 = .ok (.iload_n 2, 1) := by decide +kernel
theorem d_L_closed_6 : decode b_L_closed 6 = .ok (.iload_n 3, 1) := by decide +kernel
theorem d_L_closed_7 : decode b_L_closed 7 = .ok (.invokevirtual 17, 3) := by decide +kernel
theorem d_L_closed_10 : decode b_L_closed 10 = .ok (.ifCond .eq 7, 3) := by decide +kernel
theorem d_L_closed_13 : decode b_L_closed 13 = .ok (.lconst 1, 1) := by decide +kernel
theorem d_L_closed_14 : decode b_L_closed 14 = .ok (.goto 4, 3) := by decide +kernel
theorem d_L_closed_17 : decode b_L_closed 17 = .ok (.lconst 0, 1) := by decide +kernel
theorem d_L_closed_18 : decode b_L_closed 18 = .ok (.lastore, 1) := by decide +kernel
theorem d_L_closed_19 : decode b_L_closed 19 = .ok (.goto 7, 3) := by decide +kernel
theorem d_L_closed_22 : decode b_L_closed 22 = .ok (.astore 5, 2) := by decide +kernel
theorem d_L_closed_24 : decode b_L_closed 24 = .ok (.iconst 1, 1) := by decide +kernel
theorem d_L_closed_25 : decode b_L_closed 25 = .ok (.ireturn, 1) := by decide +kernel
theorem d_L_closed_26 : decode b_L_closed 26 = .ok (.iconst 0, 1) := by decide +kernel
theorem d_L_closed_27 : decode b_L_closed 27 = .ok (.ireturn, 1) := by decide +kernel
theorem d_L_cage_0 : decode b_L_cage 0 = .ok (.aload_n 2, 1) := by decide +kernel
theorem d_L_cage_1 : decode b_L_cage 1 = .ok (.iconst 0, 1) := by decide +kernel
theorem d_L_cage_2 : decode b_L_cage 2 = .ok (.aload_n 0, 1) := by decide +kernel
theorem d_L_cage_3 : decode b_L_cage 3 = .ok (.iload_n 1, 1) := by decide +kernel
theorem d_L_cage_4 : decode b_L_cage 4 = .ok (.invokevirtual 21, 3) := by decide +kernel
theorem d_L_cage_7 : decode b_L_cage 7 = .ok (.i2l, 1) := by decide +kernel
theorem d_L_cage_8 : decode b_L_cage 8 = .ok (.lastore, 1) := by decide +kernel
theorem d_L_cage_9 : decode b_L_cage 9 = .ok (.goto 9, 3) := by decide +kernel
theorem d_L_cage_12 : decode b_L_cage 12 = .ok (.astore_n 3, 1) := by decide +kernel
theorem d_L_cage_13 : decode b_L_cage 13 = .ok (.iconst 1, 1) := by decide +kernel
theorem d_L_cage_14 : decode b_L_cage 14 = .ok (.ireturn, 1) := by decide +kernel
theorem d_L_cage_15 : decode b_L_cage 15 = .ok (.astore_n 3, 1) := by decide +kernel
theorem d_L_cage_16 : decode b_L_cage 16 = .ok (.iconst 2, 1) := by decide +kernel
theorem d_L_cage_17 : decode b_L_cage 17 = .ok (.ireturn, 1) := by decide +kernel
theorem d_L_cage_18 : decode b_L_cage 18 = .ok (.iconst 0, 1) := by decide +kernel
theorem d_L_cage_19 : decode b_L_cage 19 = .ok (.ireturn, 1) := by decide +kernel
theorem d_L_size_0 : decode b_L_size 0 = .ok (.aload 5, 2) := by decide +kernel
theorem d_L_size_2 : decode b_L_size 2 = .ok (.iconst 0, 1) := by decide +kernel
theorem d_L_size_3 : decode b_L_size 3 = .ok (.aload_n 0, 1) := by decide +kernel
theorem d_L_size_4 : decode b_L_size 4 = .ok (.iload_n 1, 1) := by decide +kernel
theorem d_L_size_5 : decode b_L_size 5 = .ok (.iload_n 2, 1) := by decide +kernel
theorem d_L_size_6 : decode b_L_size 6 = .ok (.iload_n 3, 1) := by decide +kernel
theorem d_L_size_7 : decode b_L_size 7 = .ok (.iload 4, 2) := by decide +kernel
theorem d_L_size_9 : decode b_L_size 9 = .ok (.invokevirtual 24, 3) := by decide +kernel
theorem d_L_size_12 : decode b_L_size 12 = .ok (.i2l, 1) := by decide +kernel
theorem d_L_size_13 : decode b_L_size 13 = .ok (.lastore, 1) := by decide +kernel
theorem d_L_size_14 : decode b_L_size 14 = .ok (.goto 7, 3) := by decide +kernel
theorem d_L_size_17 : decode b_L_size 17 = .ok (.astore 6, 2) := by decide +kernel
theorem d_L_size_19 : decode b_L_size 19 = .ok (.iconst 1, 1) := by decide +kernel
theorem d_L_size_20 : decode b_L_size 20 = .ok (.ireturn, 1) := by decide +kernel
theorem d_L_size_21 : decode b_L_size 21 = .ok (.iconst 0, 1) := by decide +kernel
theorem d_L_size_22 : decode b_L_size 22 = .ok (.ireturn, 1) := by decide +kernel
theorem d_L_boat_0 : decode b_L_boat 0 = .ok (.aload_n 2, 1) := by decide +kernel
theorem d_L_boat_1 : decode b_L_boat 1 = .ok (.iconst 0, 1) := by decide +kernel
theorem d_L_boat_2 : decode b_L_boat 2 = .ok (.aload_n 0, 1) := by decide +kernel
theorem d_L_boat_3 : decode b_L_boat 3 = .ok (.iload_n 1, 1) := by decide +kernel
theorem d_L_boat_4 : decode b_L_boat 4 = .ok (.invokevirtual 28, 3) := by decide +kernel
theorem d_L_boat_7 : decode b_L_boat 7 = .ok (.i2l, 1) := by decide +kernel
theorem d_L_boat_8 : decode b_L_boat 8 = .ok (.lastore, 1) := by decide +kernel
theorem d_L_boat_9 : decode b_L_boat 9 = .ok (.goto 9, 3) := by decide +kernel
theorem d_L_boat_12 : decode b_L_boat 12 = .ok (.astore_n 3, 1) := by decide +kernel
theorem d_L_boat_13 : decode b_L_boat 13 = .ok (.iconst 1, 1) := by decide +kernel
theorem d_L_boat_14 : decode b_L_boat 14 = .ok (.ireturn, 1) := by decide +kernel
theorem d_L_boat_15 : decode b_L_boat 15 = .ok (.astore_n 3, 1) := by decide +kernel
theorem d_L_boat_16 : decode b_L_boat 16 = .ok (.iconst 2, 1) := by decide +kernel
theorem d_L_boat_17 : decode b_L_boat 17 = .ok (.ireturn, 1) := by decide +kernel
theorem d_L_boat_18 : decode b_L_boat 18 = .ok (.iconst 0, 1) := by decide +kernel
theorem d_L_boat_19 : decode b_L_boat 19 = .ok (.ireturn, 1) := by decide +kernel
theorem d_L_weather_0 : decode b_L_weather 0 = .ok (.aload 4, 2) := by decide +kernel
theorem d_L_weather_2 : decode b_L_weather 2 = .ok (.iconst 0, 1) := by decide +kernel
theorem d_L_weather_3 : decode b_L_weather 3 = .ok (.aload_n 0, 1) := by decide +kernel
theorem d_L_weather_4 : decode b_L_weather 4 = .ok (.iload_n 1, 1) := by decide +kernel
theorem d_L_weather_5 : decode b_L_weather 5 = .ok (.iload_n 2, 1) := by decide +kernel
theorem d_L_weather_6 : decode b_L_weather 6 = .ok (.iload_n 3, 1) := by decide +kernel
theorem d_L_weather_7 : decode b_L_weather 7 = .ok (.invokevirtual 31, 3) := by decide +kernel
theorem d_L_weather_10 : decode b_L_weather 10 = .ok (.ifCond .eq 7, 3) := by decide +kernel
theorem d_L_weather_13 : decode b_L_weather 13 = .ok (.lconst 1, 1) := by decide +kernel
theorem d_L_weather_14 : decode b_L_weather 14 = .ok (.goto 4, 3) := by decide +kernel
theorem d_L_weather_17 : decode b_L_weather 17 = .ok (.lconst 0, 1) := by decide +kernel
theorem d_L_weather_18 : decode b_L_weather 18 = .ok (.lastore, 1) := by decide +kernel
theorem d_L_weather_19 : decode b_L_weather 19 = .ok (.goto 7, 3) := by decide +kernel
theorem d_L_weather_22 : decode b_L_weather 22 = .ok (.astore 5, 2) := by decide +kernel
theorem d_L_weather_24 : decode b_L_weather 24 = .ok (.iconst 1, 1) := by decide +kernel
theorem d_L_weather_25 : decode b_L_weather 25 = .ok (.ireturn, 1) := by decide +kernel
theorem d_L_weather_26 : decode b_L_weather 26 = .ok (.iconst 0, 1) := by decide +kernel
theorem d_L_weather_27 : decode b_L_weather 27 = .ok (.ireturn, 1) := by decide +kernel
theorem d_L_plant_0 : decode b_L_plant 0 = .ok (.aload_n 3, 1) := by decide +kernel
theorem d_L_plant_1 : decode b_L_plant 1 = .ok (.iconst 0, 1) := by decide +kernel
theorem d_L_plant_2 : decode b_L_plant 2 = .ok (.aload_n 0, 1) := by decide +kernel
theorem d_L_plant_3 : decode b_L_plant 3 = .ok (.iload_n 1, 1) := by decide +kernel
theorem d_L_plant_4 : decode b_L_plant 4 = .ok (.iload_n 2, 1) := by decide +kernel
theorem d_L_plant_5 : decode b_L_plant 5 = .ok (.invokevirtual 34, 3) := by decide +kernel
theorem d_L_plant_8 : decode b_L_plant 8 = .ok (.i2l, 1) := by decide +kernel
theorem d_L_plant_9 : decode b_L_plant 9 = .ok (.lastore, 1) := by decide +kernel
theorem d_L_plant_10 : decode b_L_plant 10 = .ok (.goto 7, 3) := by decide +kernel
theorem d_L_plant_13 : decode b_L_plant 13 = .ok (.astore 4, 2) := by decide +kernel
theorem d_L_plant_15 : decode b_L_plant 15 = .ok (.iconst 1, 1) := by decide +kernel
theorem d_L_plant_16 : decode b_L_plant 16 = .ok (.ireturn, 1) := by decide +kernel
theorem d_L_plant_17 : decode b_L_plant 17 = .ok (.iconst 0, 1) := by decide +kernel
theorem d_L_plant_18 : decode b_L_plant 18 = .ok (.ireturn, 1) := by decide +kernel
theorem d_L_order_0 : decode b_L_order 0 = .ok (.aload 6, 2) := by decide +kernel
theorem d_L_order_2 : decode b_L_order 2 = .ok (.iconst 0, 1) := by decide +kernel
theorem d_L_order_3 : decode b_L_order 3 = .ok (.aload_n 0, 1) := by decide +kernel
theorem d_L_order_4 : decode b_L_order 4 = .ok (.iload_n 1, 1) := by decide +kernel
theorem d_L_order_5 : decode b_L_order 5 = .ok (.iload_n 2, 1) := by decide +kernel
theorem d_L_order_6 : decode b_L_order 6 = .ok (.iload_n 3, 1) := by decide +kernel
theorem d_L_order_7 : decode b_L_order 7 = .ok (.iload 4, 2) := by decide +kernel
theorem d_L_order_9 : decode b_L_order 9 = .ok (.iload 5, 2) := by decide +kernel
theorem d_L_order_11 : decode b_L_order 11 = .ok (.invokevirtual 38, 3) := by decide +kernel
theorem d_L_order_14 : decode b_L_order 14 = .ok (.i2l, 1) := by decide +kernel
theorem d_L_order_15 : decode b_L_order 15 = .ok (.lastore, 1) := by decide +kernel
theorem d_L_order_16 : decode b_L_order 16 = .ok (.goto 11, 3) := by decide +kernel
theorem d_L_order_19 : decode b_L_order 19 = .ok (.astore 7, 2) := by decide +kernel
theorem d_L_order_21 : decode b_L_order 21 = .ok (.iconst 1, 1) := by decide +kernel
theorem d_L_order_22 : decode b_L_order 22 = .ok (.ireturn, 1) := by decide +kernel
theorem d_L_order_23 : decode b_L_order 23 = .ok (.astore 7, 2) := by decide +kernel
theorem d_L_order_25 : decode b_L_order 25 = .ok (.iconst 2, 1) := by decide +kernel
theorem d_L_order_26 : decode b_L_order 26 = .ok (.ireturn, 1) := by decide +kernel
theorem d_L_order_27 : decode b_L_order 27 = .ok (.iconst 0, 1) := by decide +kernel
theorem d_L_order_28 : decode b_L_order 28 = .ok (.ireturn, 1) := by decide +kernel
theorem d_L_prices_0 : decode b_L_prices 0 = .ok (.aload_n 0, 1) := by decide +kernel
theorem d_L_prices_1 : decode b_L_prices 1 = .ok (.iload_n 1, 1) := by decide +kernel
theorem d_L_prices_2 : decode b_L_prices 2 = .ok (.iload_n 2, 1) := by decide +kernel
theorem d_L_prices_3 : decode b_L_prices 3 = .ok (.invokevirtual 42, 3) := by decide +kernel
theorem d_L_prices_6 : decode b_L_prices 6 = .ok (.goto 6, 3) := by decide +kernel
theorem d_L_prices_9 : decode b_L_prices 9 = .ok (.astore_n 3, 1) := by decide +kernel
theorem d_L_prices_10 : decode b_L_prices 10 = .ok (.iconst 1, 1) := by decide +kernel
theorem d_L_prices_11 : decode b_L_prices 11 = .ok (.ireturn, 1) := by decide +kernel
theorem d_L_prices_12 : decode b_L_prices 12 = .ok (.iconst 0, 1) := by decide +kernel
theorem d_L_prices_13 : decode b_L_prices 13 = .ok (.ireturn, 1) := by decide +kernel
theorem d_L_run_0 : decode b_L_run 0 = .ok (.aload_n 2, 1) := by decide +kernel
theorem d_L_run_1 : decode b_L_run 1 = .ok (.iconst 0, 1) := by decide +kernel
theorem d_L_run_2 : decode b_L_run 2 = .ok (.aload_n 0, 1) := by decide +kernel
theorem d_L_run_3 : decode b_L_run 3 = .ok (.iload_n 1, 1) := by decide +kernel
theorem d_L_run_4 : decode b_L_run 4 = .ok (.invokevirtual 46, 3) := by decide +kernel
theorem d_L_run_7 : decode b_L_run 7 = .ok (.i2l, 1) := by decide +kernel
theorem d_L_run_8 : decode b_L_run 8 = .ok (.lastore, 1) := by decide +kernel
theorem d_L_run_9 : decode b_L_run 9 = .ok (.goto 6, 3) := by decide +kernel
theorem d_L_run_12 : decode b_L_run 12 = .ok (.astore_n 3, 1) := by decide +kernel
theorem d_L_run_13 : decode b_L_run 13 = .ok (.iconst 1, 1) := by decide +kernel
theorem d_L_run_14 : decode b_L_run 14 = .ok (.ireturn, 1) := by decide +kernel
theorem d_L_run_15 : decode b_L_run 15 = .ok (.iconst 0, 1) := by decide +kernel
theorem d_L_run_16 : decode b_L_run 16 = .ok (.ireturn, 1) := by decide +kernel
theorem d_L_move_0 : decode b_L_move 0 = .ok (.aload_n 3, 1) := by decide +kernel
theorem d_L_move_1 : decode b_L_move 1 = .ok (.iconst 0, 1) := by decide +kernel
theorem d_L_move_2 : decode b_L_move 2 = .ok (.aload_n 0, 1) := by decide +kernel
theorem d_L_move_3 : decode b_L_move 3 = .ok (.iload_n 1, 1) := by decide +kernel
theorem d_L_move_4 : decode b_L_move 4 = .ok (.iload_n 2, 1) := by decide +kernel
theorem d_L_move_5 : decode b_L_move 5 = .ok (.invokevirtual 49, 3) := by decide +kernel
theorem d_L_move_8 : decode b_L_move 8 = .ok (.i2l, 1) := by decide +kernel
theorem d_L_move_9 : decode b_L_move 9 = .ok (.lastore, 1) := by decide +kernel
theorem d_L_move_10 : decode b_L_move 10 = .ok (.goto 7, 3) := by decide +kernel
theorem d_L_move_13 : decode b_L_move 13 = .ok (.astore 4, 2) := by decide +kernel
theorem d_L_move_15 : decode b_L_move 15 = .ok (.iconst 1, 1) := by decide +kernel
theorem d_L_move_16 : decode b_L_move 16 = .ok (.ireturn, 1) := by decide +kernel
theorem d_L_move_17 : decode b_L_move 17 = .ok (.iconst 0, 1) := by decide +kernel
theorem d_L_move_18 : decode b_L_move 18 = .ok (.ireturn, 1) := by decide +kernel
theorem d_L_taken_0 : decode b_L_taken 0 = .ok (.aload_n 2, 1) := by decide +kernel
theorem d_L_taken_1 : decode b_L_taken 1 = .ok (.iconst 0, 1) := by decide +kernel
theorem d_L_taken_2 : decode b_L_taken 2 = .ok (.aload_n 0, 1) := by decide +kernel
theorem d_L_taken_3 : decode b_L_taken 3 = .ok (.iload_n 1, 1) := by decide +kernel
theorem d_L_taken_4 : decode b_L_taken 4 = .ok (.invokevirtual 52, 3) := by decide +kernel
theorem d_L_taken_7 : decode b_L_taken 7 = .ok (.i2l, 1) := by decide +kernel
theorem d_L_taken_8 : decode b_L_taken 8 = .ok (.lastore, 1) := by decide +kernel
theorem d_L_taken_9 : decode b_L_taken 9 = .ok (.goto 6, 3) := by decide +kernel
theorem d_L_taken_12 : decode b_L_taken 12 = .ok (.astore_n 3, 1) := by decide +kernel
theorem d_L_taken_13 : decode b_L_taken 13 = .ok (.iconst 1, 1) := by decide +kernel
theorem d_L_taken_14 : decode b_L_taken 14 = .ok (.ireturn, 1) := by decide +kernel
theorem d_L_taken_15 : decode b_L_taken 15 = .ok (.iconst 0, 1) := by decide +kernel
theorem d_L_taken_16 : decode b_L_taken 16 = .ok (.ireturn, 1) := by decide +kernel
theorem d_L_check_0 : decode b_L_check 0 = .ok (.aload_n 1, 1) := by decide +kernel
theorem d_L_check_1 : decode b_L_check 1 = .ok (.iconst 0, 1) := by decide +kernel
theorem d_L_check_2 : decode b_L_check 2 = .ok (.aload_n 0, 1) := by decide +kernel
theorem d_L_check_3 : decode b_L_check 3 = .ok (.invokevirtual 55, 3) := by decide +kernel
theorem d_L_check_6 : decode b_L_check 6 = .ok (.i2l, 1) := by decide +kernel
theorem d_L_check_7 : decode b_L_check 7 = .ok (.lastore, 1) := by decide +kernel
theorem d_L_check_8 : decode b_L_check 8 = .ok (.goto 6, 3) := by decide +kernel
theorem d_L_check_11 : decode b_L_check 11 = .ok (.astore_n 2, 1) := by decide +kernel
theorem d_L_check_12 : decode b_L_check 12 = .ok (.iconst 1, 1) := by decide +kernel
theorem d_L_check_13 : decode b_L_check 13 = .ok (.ireturn, 1) := by decide +kernel
theorem d_L_check_14 : decode b_L_check 14 = .ok (.iconst 0, 1) := by decide +kernel
theorem d_L_check_15 : decode b_L_check 15 = .ok (.ireturn, 1) := by decide +kernel
theorem d_L_worth_0 : decode b_L_worth 0 = .ok (.aload_n 1, 1) := by decide +kernel
theorem d_L_worth_1 : decode b_L_worth 1 = .ok (.iconst 0, 1) := by decide +kernel
theorem d_L_worth_2 : decode b_L_worth 2 = .ok (.aload_n 0, 1) := by decide +kernel
theorem d_L_worth_3 : decode b_L_worth 3 = .ok (.invokevirtual 59, 3) := by decide +kernel
theorem d_L_worth_6 : decode b_L_worth 6 = .ok (.lastore, 1) := by decide +kernel
theorem d_L_worth_7 : decode b_L_worth 7 = .ok (.goto 6, 3) := by decide +kernel
theorem d_L_worth_10 : decode b_L_worth 10 = .ok (.astore_n 2, 1) := by decide +kernel
theorem d_L_worth_11 : decode b_L_worth 11 = .ok (.iconst 1, 1) := by decide +kernel
theorem d_L_worth_12 : decode b_L_worth 12 = .ok (.ireturn, 1) := by decide +kernel
theorem d_L_worth_13 : decode b_L_worth 13 = .ok (.iconst 0, 1) := by decide +kernel
theorem d_L_worth_14 : decode b_L_worth 14 = .ok (.ireturn, 1) := by decide +kernel
theorem d_L_sold_0 : decode b_L_sold 0 = .ok (.aload_n 2, 1) := by decide +kernel
theorem d_L_sold_1 : decode b_L_sold 1 = .ok (.iconst 0, 1) := by decide +kernel
theorem d_L_sold_2 : decode b_L_sold 2 = .ok (.aload_n 0, 1) := by decide +kernel
theorem d_L_sold_3 : decode b_L_sold 3 = .ok (.iload_n 1, 1) := by decide +kernel
theorem d_L_sold_4 : decode b_L_sold 4 = .ok (.invokevirtual 63, 3) := by decide +kernel
theorem d_L_sold_7 : decode b_L_sold 7 = .ok (.i2l, 1) := by decide +kernel
theorem d_L_sold_8 : decode b_L_sold 8 = .ok (.lastore, 1) := by decide +kernel
theorem d_L_sold_9 : decode b_L_sold 9 = .ok (.goto 9, 3) := by decide +kernel
theorem d_L_sold_12 : decode b_L_sold 12 = .ok (.astore_n 3, 1) := by decide +kernel
theorem d_L_sold_13 : decode b_L_sold 13 = .ok (.iconst 1, 1) := by decide +kernel
theorem d_L_sold_14 : decode b_L_sold 14 = .ok (.ireturn, 1) := by decide +kernel
theorem d_L_sold_15 : decode b_L_sold 15 = .ok (.astore_n 3, 1) := by decide +kernel
theorem d_L_sold_16 : decode b_L_sold 16 = .ok (.iconst 2, 1) := by decide +kernel
theorem d_L_sold_17 : decode b_L_sold 17 = .ok (.ireturn, 1) := by decide +kernel
theorem d_L_sold_18 : decode b_L_sold 18 = .ok (.iconst 0, 1) := by decide +kernel
theorem d_L_sold_19 : decode b_L_sold 19 = .ok (.ireturn, 1) := by decide +kernel
theorem d_L_law_0 : decode b_L_law 0 = .ok (.new 8, 3) := by decide +kernel
theorem d_L_law_3 : decode b_L_law 3 = .ok (.dup, 1) := by decide +kernel
theorem d_L_law_4 : decode b_L_law 4 = .ok (.aload_n 0, 1) := by decide +kernel
theorem d_L_law_5 : decode b_L_law 5 = .ok (.iconst 0, 1) := by decide +kernel
theorem d_L_law_6 : decode b_L_law 6 = .ok (.invokestatic 66, 3) := by decide +kernel
theorem d_L_law_9 : decode b_L_law 9 = .ok (.invokespecial 72, 3) := by decide +kernel
theorem d_L_law_12 : decode b_L_law 12 = .ok (.astore_n 1, 1) := by decide +kernel
theorem d_L_law_13 : decode b_L_law 13 = .ok (.new 75, 3) := by decide +kernel
theorem d_L_law_16 : decode b_L_law 16 = .ok (.dup, 1) := by decide +kernel
theorem d_L_law_17 : decode b_L_law 17 = .ok (.aload_n 0, 1) := by decide +kernel
theorem d_L_law_18 : decode b_L_law 18 = .ok (.iconst 0, 1) := by decide +kernel
theorem d_L_law_19 : decode b_L_law 19 = .ok (.invokestatic 66, 3) := by decide +kernel
theorem d_L_law_22 : decode b_L_law 22 = .ok (.invokespecial 77, 3) := by decide +kernel
theorem d_L_law_25 : decode b_L_law 25 = .ok (.astore_n 2, 1) := by decide +kernel
theorem d_L_law_26 : decode b_L_law 26 = .ok (.iconst 1, 1) := by decide +kernel
theorem d_L_law_27 : decode b_L_law 27 = .ok (.newarray .long, 2) := by decide +kernel
theorem d_L_law_29 : decode b_L_law 29 = .ok (.astore_n 3, 1) := by decide +kernel
theorem d_L_law_30 : decode b_L_law 30 = .ok (.iconst 1, 1) := by decide +kernel
theorem d_L_law_31 : decode b_L_law 31 = .ok (.istore 4, 2) := by decide +kernel
theorem d_L_law_33 : decode b_L_law 33 = .ok (.iload 4, 2) := by decide +kernel
theorem d_L_law_35 : decode b_L_law 35 = .ok (.aload_n 0, 1) := by decide +kernel
theorem d_L_law_36 : decode b_L_law 36 = .ok (.arraylength, 1) := by decide +kernel
theorem d_L_law_37 : decode b_L_law 37 = .ok (.bipush 6, 2) := by decide +kernel
theorem d_L_law_39 : decode b_L_law 39 = .ok (.isub, 1) := by decide +kernel
theorem d_L_law_40 : decode b_L_law 40 = .ok (.if_icmp .gt 1134, 3) := by decide +kernel
theorem d_L_law_43 : decode b_L_law 43 = .ok (.aload_n 0, 1) := by decide +kernel
theorem d_L_law_44 : decode b_L_law 44 = .ok (.iload 4, 2) := by decide +kernel
theorem d_L_law_46 : decode b_L_law 46 = .ok (.iaload, 1) := by decide +kernel
theorem d_L_law_47 : decode b_L_law 47 = .ok (.bipush 31, 2) := by decide +kernel
theorem d_L_law_49 : decode b_L_law 49 = .ok (.iand, 1) := by decide +kernel
theorem d_L_law_50 : decode b_L_law 50 = .ok (.tableswitch 1118 0 16 #[82, 138, 241, 297, 389, 445, 548, 616, 720, 768, 824, 837, 851, 919, 975, 1019, 1062], 82) := by decide +kernel
theorem d_L_law_132 : decode b_L_law 132 = .ok (.aload_n 1, 1) := by decide +kernel
theorem d_L_law_133 : decode b_L_law 133 = .ok (.aload_n 0, 1) := by decide +kernel
theorem d_L_law_134 : decode b_L_law 134 = .ok (.iload 4, 2) := by decide +kernel
theorem d_L_law_136 : decode b_L_law 136 = .ok (.iconst 1, 1) := by decide +kernel
theorem d_L_law_137 : decode b_L_law 137 = .ok (.iadd, 1) := by decide +kernel
theorem d_L_law_138 : decode b_L_law 138 = .ok (.iaload, 1) := by decide +kernel
theorem d_L_law_139 : decode b_L_law 139 = .ok (.aload_n 3, 1) := by decide +kernel
theorem d_L_law_140 : decode b_L_law 140 = .ok (.invokestatic 78, 3) := by decide +kernel
theorem d_L_law_143 : decode b_L_law 143 = .ok (.istore 5, 2) := by decide +kernel
theorem d_L_law_145 : decode b_L_law 145 = .ok (.aload_n 2, 1) := by decide +kernel
theorem d_L_law_146 : decode b_L_law 146 = .ok (.aload_n 0, 1) := by decide +kernel
theorem d_L_law_147 : decode b_L_law 147 = .ok (.iload 4, 2) := by decide +kernel
theorem d_L_law_149 : decode b_L_law 149 = .ok (.iconst 1, 1) := by decide +kernel
theorem d_L_law_150 : decode b_L_law 150 = .ok (.iadd, 1) := by decide +kernel
theorem d_L_law_151 : decode b_L_law 151 = .ok (.iaload, 1) := by decide +kernel
theorem d_L_law_152 : decode b_L_law 152 = .ok (.invokevirtual 81, 3) := by decide +kernel
theorem d_L_law_155 : decode b_L_law 155 = .ok (.istore 6, 2) := by decide +kernel
theorem d_L_law_157 : decode b_L_law 157 = .ok (.aload_n 2, 1) := by decide +kernel
theorem d_L_law_158 : decode b_L_law 158 = .ok (.invokevirtual 82, 3) := by decide +kernel
theorem d_L_law_161 : decode b_L_law 161 = .ok (.iload 5, 2) := by decide +kernel
theorem d_L_law_163 : decode b_L_law 163 = .ok (.if_icmp .eq 5, 3) := by decide +kernel
theorem d_L_law_166 : decode b_L_law 166 = .ok (.iconst 0, 1) := by decide +kernel
theorem d_L_law_167 : decode b_L_law 167 = .ok (.ireturn, 1) := by decide +kernel
theorem d_L_law_168 : decode b_L_law 168 = .ok (.iload 5, 2) := by decide +kernel
theorem d_L_law_170 : decode b_L_law 170 = .ok (.ifCond .ne 15, 3) := by decide +kernel
theorem d_L_law_173 : decode b_L_law 173 = .ok (.aload_n 3, 1) := by decide +kernel
theorem d_L_law_174 : decode b_L_law 174 = .ok (.iconst 0, 1) := by decide +kernel
theorem d_L_law_175 : decode b_L_law 175 = .ok (.laload, 1) := by decide +kernel
theorem d_L_law_176 : decode b_L_law 176 = .ok (.iload 6, 2) := by decide +kernel
theorem d_L_law_178 : decode b_L_law 178 = .ok (.i2l, 1) := by decide +kernel
theorem d_L_law_179 : decode b_L_law 179 = .ok (.lcmp, 1) := by decide +kernel
theorem d_L_law_180 : decode b_L_law 180 = .ok (.ifCond .eq 5, 3) := by decide +kernel
theorem d_L_law_183 : decode b_L_law 183 = .ok (.iconst 0, 1) := by decide +kernel
theorem d_L_law_184 : decode b_L_law 184 = .ok (.ireturn, 1) := by decide +kernel
theorem d_L_law_185 : decode b_L_law 185 = .ok (.goto 983, 3) := by decide +kernel
theorem d_L_law_188 : decode b_L_law 188 = .ok (.aload_n 1, 1) := by decide +kernel
theorem d_L_law_189 : decode b_L_law 189 = .ok (.aload_n 0, 1) := by decide +kernel
theorem d_L_law_190 : decode b_L_law 190 = .ok (.iload 4, 2) := by decide +kernel
theorem d_L_law_192 : decode b_L_law 192 = .ok (.iconst 1, 1) := by decide +kernel
theorem d_L_law_193 : decode b_L_law 193 = .ok (.iadd, 1) := by decide +kernel
theorem d_L_law_194 : decode b_L_law 194 = .ok (.iaload, 1) := by decide +kernel
theorem d_L_law_195 : decode b_L_law 195 = .ok (.aload_n 0, 1) := by decide +kernel
theorem d_L_law_196 : decode b_L_law 196 = .ok (.iload 4, 2) := by decide +kernel
theorem d_L_law_198 : decode b_L_law 198 = .ok (.iconst 2, 1) := by decide +kernel
theorem d_L_law_199 : decode b_L_law 199 = .ok (.iadd, 1) := by decide +kernel
theorem d_L_law_200 : decode b_L_law 200 = .ok (.iaload, 1) := by decide +kernel
theorem d_L_law_201 : decode b_L_law 201 = .ok (.aload_n 0, 1) := by decide +kernel
theorem d_L_law_202 : decode b_L_law 202 = .ok (.iload 4, 2) := by decide +kernel
theorem d_L_law_204 : decode b_L_law 204 = .ok (.iconst 3, 1) := by decide +kernel
theorem d_L_law_205 : decode b_L_law 205 = .ok (.iadd, 1) := by decide +kernel
theorem d_L_law_206 : decode b_L_law 206 = .ok (.iaload, 1) := by decide +kernel
theorem d_L_law_207 : decode b_L_law 207 = .ok (.ifCond .eq 7, 3) := by decide +kernel
theorem d_L_law_210 : decode b_L_law 210 = .ok (.iconst 1, 1) := by decide +kernel
theorem d_L_law_211 : decode b_L_law 211 = .ok (.goto 4, 3) := by decide +kernel
theorem d_L_law_214 : decode b_L_law 214 = .ok (.iconst 0, 1) := by decide +kernel
theorem d_L_law_215 : decode b_L_law 215 = .ok (.aload_n 3, 1) := by decide +kernel
theorem d_L_law_216 : decode b_L_law 216 = .ok (.invokestatic 85, 3) := by decide +kernel
theorem d_L_law_219 : decode b_L_law 219 = .ok (.istore 5, 2) := by decide +kernel
theorem d_L_law_221 : decode b_L_law 221 = .ok (.aload_n 2, 1) := by decide +kernel
theorem d_L_law_222 : decode b_L_law 222 = .ok (.aload_n 0, 1) := by decide +kernel
theorem d_L_law_223 : decode b_L_law 223 = .ok (.iload 4, 2) := by decide +kernel
theorem d_L_law_225 : decode b_L_law 225 = .ok (.iconst 1, 1) := by decide +kernel
theorem d_L_law_226 : decode b_L_law 226 = .ok (.iadd, 1) := by decide +kernel
theorem d_L_law_227 : decode b_L_law 227 = .ok (.iaload, 1) := by decide +kernel
theorem d_L_law_228 : decode b_L_law 228 = .ok (.aload_n 0, 1) := by decide +kernel
theorem d_L_law_229 : decode b_L_law 229 = .ok (.iload 4, 2) := by decide +kernel
theorem d_L_law_231 : decode b_L_law 231 = .ok (.iconst 2, 1) := by decide +kernel
theorem d_L_law_232 : decode b_L_law 232 = .ok (.iadd, 1) := by decide +kernel
theorem d_L_law_233 : decode b_L_law 233 = .ok (.iaload, 1) := by decide +kernel
theorem d_L_law_234 : decode b_L_law 234 = .ok (.aload_n 0, 1) := by decide +kernel
theorem d_L_law_235 : decode b_L_law 235 = .ok (.iload 4, 2) := by decide +kernel
theorem d_L_law_237 : decode b_L_law 237 = .ok (.iconst 3, 1) := by decide +kernel
theorem d_L_law_238 : decode b_L_law 238 = .ok (.iadd, 1) := by decide +kernel
theorem d_L_law_239 : decode b_L_law 239 = .ok (.iaload, 1) := by decide +kernel
theorem d_L_law_240 : decode b_L_law 240 = .ok (.ifCond .eq 7, 3) := by decide +kernel
theorem d_L_law_243 : decode b_L_law 243 = .ok (.iconst 1, 1) := by decide +kernel
theorem d_L_law_244 : decode b_L_law 244 = .ok (.goto 4, 3) := by decide +kernel
theorem d_L_law_247 : decode b_L_law 247 = .ok (.iconst 0, 1) := by decide +kernel
theorem d_L_law_248 : decode b_L_law 248 = .ok (.invokevirtual 88, 3) := by decide +kernel
theorem d_L_law_251 : decode b_L_law 251 = .ok (.istore 6, 2) := by decide +kernel
theorem d_L_law_253 : decode b_L_law 253 = .ok (.aload_n 2, 1) := by decide +kernel
theorem d_L_law_254 : decode b_L_law 254 = .ok (.invokevirtual 82, 3) := by decide +kernel
theorem d_L_law_257 : decode b_L_law 257 = .ok (.iload 5, 2) := by decide +kernel
theorem d_L_law_259 : decode b_L_law 259 = .ok (.if_icmp .eq 5, 3) := by decide +kernel
theorem d_L_law_262 : decode b_L_law 262 = .ok (.iconst 0, 1) := by decide +kernel
theorem d_L_law_263 : decode b_L_law 263 = .ok (.ireturn, 1) := by decide +kernel
theorem d_L_law_264 : decode b_L_law 264 = .ok (.iload 5, 2) := by decide +kernel
theorem d_L_law_266 : decode b_L_law 266 = .ok (.ifCond .ne 22, 3) := by decide +kernel
theorem d_L_law_269 : decode b_L_law 269 = .ok (.aload_n 3, 1) := by decide +kernel
theorem d_L_law_270 : decode b_L_law 270 = .ok (.iconst 0, 1) := by decide +kernel
theorem d_L_law_271 : decode b_L_law 271 = .ok (.laload, 1) := by decide +kernel
theorem d_L_law_272 : decode b_L_law 272 = .ok (.iload 6, 2) := by decide +kernel
theorem d_L_law_274 : decode b_L_law 274 = .ok (.ifCond .eq 7, 3) := by decide +kernel
theorem d_L_law_277 : decode b_L_law 277 = .ok (.lconst 1, 1) := by decide +kernel
theorem d_L_law_278 : decode b_L_law 278 = .ok (.goto 4, 3) := by decide +kernel
theorem d_L_law_281 : decode b_L_law 281 = .ok (.lconst 0, 1) := by decide +kernel
theorem d_L_law_282 : decode b_L_law 282 = .ok (.lcmp, 1) := by decide +kernel
theorem d_L_law_283 : decode b_L_law 283 = .ok (.ifCond .eq 5, 3) := by decide +kernel
theorem d_L_law_286 : decode b_L_law 286 = .ok (.iconst 0, 1) := by decide +kernel
theorem d_L_law_287 : decode b_L_law 287 = .ok (.ireturn, 1) := by decide +kernel
theorem d_L_law_288 : decode b_L_law 288 = .ok (.goto 880, 3) := by decide +kernel
theorem d_L_law_291 : decode b_L_law 291 = .ok (.aload_n 1, 1) := by decide +kernel
theorem d_L_law_292 : decode b_L_law 292 = .ok (.aload_n 0, 1) := by decide +kernel
theorem d_L_law_293 : decode b_L_law 293 = .ok (.iload 4, 2) := by decide +kernel
theorem d_L_law_295 : decode b_L_law 295 = .ok (.iconst 1, 1) := by decide +kernel
theorem d_L_law_296 : decode b_L_law 296 = .ok (.iadd, 1) := by decide +kernel
theorem d_L_law_297 : decode b_L_law 297 = .ok (.iaload, 1) := by decide +kernel
theorem d_L_law_298 : decode b_L_law 298 = .ok (.aload_n 3, 1) := by decide +kernel
theorem d_L_law_299 : decode b_L_law 299 = .ok (.invokestatic 89, 3) := by decide +kernel
theorem d_L_law_302 : decode b_L_law 302 = .ok (.istore 5, 2) := by decide +kernel
theorem d_L_law_304 : decode b_L_law 304 = .ok (.aload_n 2, 1) := by decide +kernel
theorem d_L_law_305 : decode b_L_law 305 = .ok (.aload_n 0, 1) := by decide +kernel
theorem d_L_law_306 : decode b_L_law 306 = .ok (.iload 4, 2) := by decide +kernel
theorem d_L_law_308 : decode b_L_law 308 = .ok (.iconst 1, 1) := by decide +kernel
theorem d_L_law_309 : decode b_L_law 309 = .ok (.iadd, 1) := by decide +kernel
theorem d_L_law_310 : decode b_L_law 310 = .ok (.iaload, 1) := by decide +kernel
theorem d_L_law_311 : decode b_L_law 311 = .ok (.invokevirtual 91, 3) := by decide +kernel
theorem d_L_law_314 : decode b_L_law 314 = .ok (.istore 6, 2) := by decide +kernel
theorem d_L_law_316 : decode b_L_law 316 = .ok (.aload_n 2, 1) := by decide +kernel
theorem d_L_law_317 : decode b_L_law 317 = .ok (.invokevirtual 82, 3) := by decide +kernel
theorem d_L_law_320 : decode b_L_law 320 = .ok (.iload 5, 2) := by decide +kernel
theorem d_L_law_322 : decode b_L_law 322 = .ok (.if_icmp .eq 5, 3) := by decide +kernel
theorem d_L_law_325 : decode b_L_law 325 = .ok (.iconst 0, 1) := by decide +kernel
theorem d_L_law_326 : decode b_L_law 326 = .ok (.ireturn, 1) := by decide +kernel
theorem d_L_law_327 : decode b_L_law 327 = .ok (.iload 5, 2) := by decide +kernel
theorem d_L_law_329 : decode b_L_law 329 = .ok (.ifCond .ne 15, 3) := by decide +kernel
theorem d_L_law_332 : decode b_L_law 332 = .ok (.aload_n 3, 1) := by decide +kernel
theorem d_L_law_333 : decode b_L_law 333 = .ok (.iconst 0, 1) := by decide +kernel
theorem d_L_law_334 : decode b_L_law 334 = .ok (.laload, 1) := by decide +kernel
theorem d_L_law_335 : decode b_L_law 335 = .ok (.iload 6, 2) := by decide +kernel
theorem d_L_law_337 : decode b_L_law 337 = .ok (.i2l, 1) := by decide +kernel
theorem d_L_law_338 : decode b_L_law 338 = .ok (.lcmp, 1) := by decide +kernel
theorem d_L_law_339 : decode b_L_law 339 = .ok (.ifCond .eq 5, 3) := by decide +kernel
theorem d_L_law_342 : decode b_L_law 342 = .ok (.iconst 0, 1) := by decide +kernel
theorem d_L_law_343 : decode b_L_law 343 = .ok (.ireturn, 1) := by decide +kernel
theorem d_L_law_344 : decode b_L_law 344 = .ok (.goto 824, 3) := by decide +kernel
theorem d_L_law_347 : decode b_L_law 347 = .ok (.aload_n 1, 1) := by decide +kernel
theorem d_L_law_348 : decode b_L_law 348 = .ok (.aload_n 0, 1) := by decide +kernel
theorem d_L_law_349 : decode b_L_law 349 = .ok (.iload 4, 2) := by decide +kernel
theorem d_L_law_351 : decode b_L_law 351 = .ok (.iconst 1, 1) := by decide +kernel
theorem d_L_law_352 : decode b_L_law 352 = .ok (.iadd, 1) := by decide +kernel
theorem d_L_law_353 : decode b_L_law 353 = .ok (.iaload, 1) := by decide +kernel
theorem d_L_law_354 : decode b_L_law 354 = .ok (.aload_n 0, 1) := by decide +kernel
theorem d_L_law_355 : decode b_L_law 355 = .ok (.iload 4, 2) := by decide +kernel
theorem d_L_law_357 : decode b_L_law 357 = .ok (.iconst 2, 1) := by decide +kernel
theorem d_L_law_358 : decode b_L_law 358 = .ok (.iadd, 1) := by decide +kernel
theorem d_L_law_359 : decode b_L_law 359 = .ok (.iaload, 1) := by decide +kernel
theorem d_L_law_360 : decode b_L_law 360 = .ok (.aload_n 0, 1) := by decide +kernel
theorem d_L_law_361 : decode b_L_law 361 = .ok (.iload 4, 2) := by decide +kernel
theorem d_L_law_363 : decode b_L_law 363 = .ok (.iconst 3, 1) := by decide +kernel
theorem d_L_law_364 : decode b_L_law 364 = .ok (.iadd, 1) := by decide +kernel
theorem d_L_law_365 : decode b_L_law 365 = .ok (.iaload, 1) := by decide +kernel
theorem d_L_law_366 : decode b_L_law 366 = .ok (.aload_n 0, 1) := by decide +kernel
theorem d_L_law_367 : decode b_L_law 367 = .ok (.iload 4, 2) := by decide +kernel
theorem d_L_law_369 : decode b_L_law 369 = .ok (.iconst 4, 1) := by decide +kernel
theorem d_L_law_370 : decode b_L_law 370 = .ok (.iadd, 1) := by decide +kernel
theorem d_L_law_371 : decode b_L_law 371 = .ok (.iaload, 1) := by decide +kernel
theorem d_L_law_372 : decode b_L_law 372 = .ok (.aload_n 3, 1) := by decide +kernel
theorem d_L_law_373 : decode b_L_law 373 = .ok (.invokestatic 92, 3) := by decide +kernel
theorem d_L_law_376 : decode b_L_law 376 = .ok (.istore 5, 2) := by decide +kernel
theorem d_L_law_378 : decode b_L_law 378 = .ok (.aload_n 2, 1) := by decide +kernel
theorem d_L_law_379 : decode b_L_law 379 = .ok (.aload_n 0, 1) := by decide +kernel
theorem d_L_law_380 : decode b_L_law 380 = .ok (.iload 4, 2) := by decide +kernel
theorem d_L_law_382 : decode b_L_law 382 = .ok (.iconst 1, 1) := by decide +kernel
theorem d_L_law_383 : decode b_L_law 383 = .ok (.iadd, 1) := by decide +kernel
theorem d_L_law_384 : decode b_L_law 384 = .ok (.iaload, 1) := by decide +kernel
theorem d_L_law_385 : decode b_L_law 385 = .ok (.aload_n 0, 1) := by decide +kernel
theorem d_L_law_386 : decode b_L_law 386 = .ok (.iload 4, 2) := by decide +kernel
theorem d_L_law_388 : decode b_L_law 388 = .ok (.iconst 2, 1) := by decide +kernel
theorem d_L_law_389 : decode b_L_law 389 = .ok (.iadd, 1) := by decide +kernel
theorem d_L_law_390 : decode b_L_law 390 = .ok (.iaload, 1) := by decide +kernel
theorem d_L_law_391 : decode b_L_law 391 = .ok (.aload_n 0, 1) := by decide +kernel
theorem d_L_law_392 : decode b_L_law 392 = .ok (.iload 4, 2) := by decide +kernel
theorem d_L_law_394 : decode b_L_law 394 = .ok (.iconst 3, 1) := by decide +kernel
theorem d_L_law_395 : decode b_L_law 395 = .ok (.iadd, 1) := by decide +kernel
theorem d_L_law_396 : decode b_L_law 396 = .ok (.iaload, 1) := by decide +kernel
theorem d_L_law_397 : decode b_L_law 397 = .ok (.aload_n 0, 1) := by decide +kernel
theorem d_L_law_398 : decode b_L_law 398 = .ok (.iload 4, 2) := by decide +kernel
theorem d_L_law_400 : decode b_L_law 400 = .ok (.iconst 4, 1) := by decide +kernel
theorem d_L_law_401 : decode b_L_law 401 = .ok (.iadd, 1) := by decide +kernel
theorem d_L_law_402 : decode b_L_law 402 = .ok (.iaload, 1) := by decide +kernel
theorem d_L_law_403 : decode b_L_law 403 = .ok (.invokevirtual 95, 3) := by decide +kernel
theorem d_L_law_406 : decode b_L_law 406 = .ok (.istore 6, 2) := by decide +kernel
theorem d_L_law_408 : decode b_L_law 408 = .ok (.aload_n 2, 1) := by decide +kernel
theorem d_L_law_409 : decode b_L_law 409 = .ok (.invokevirtual 82, 3) := by decide +kernel
theorem d_L_law_412 : decode b_L_law 412 = .ok (.iload 5, 2) := by decide +kernel
theorem d_L_law_414 : decode b_L_law 414 = .ok (.if_icmp .eq 5, 3) := by decide +kernel
theorem d_L_law_417 : decode b_L_law 417 = .ok (.iconst 0, 1) := by decide +kernel
theorem d_L_law_418 : decode b_L_law 418 = .ok (.ireturn, 1) := by decide +kernel
theorem d_L_law_419 : decode b_L_law 419 = .ok (.iload 5, 2) := by decide +kernel
theorem d_L_law_421 : decode b_L_law 421 = .ok (.ifCond .ne 15, 3) := by decide +kernel
theorem d_L_law_424 : decode b_L_law 424 = .ok (.aload_n 3, 1) := by decide +kernel
theorem d_L_law_425 : decode b_L_law 425 = .ok (.iconst 0, 1) := by decide +kernel
theorem d_L_law_426 : decode b_L_law 426 = .ok (.laload, 1) := by decide +kernel
theorem d_L_law_427 : decode b_L_law 427 = .ok (.iload 6, 2) := by decide +kernel
theorem d_L_law_429 : decode b_L_law 429 = .ok (.i2l, 1) := by decide +kernel
theorem d_L_law_430 : decode b_L_law 430 = .ok (.lcmp, 1) := by decide +kernel
theorem d_L_law_431 : decode b_L_law 431 = .ok (.ifCond .eq 5, 3) := by decide +kernel
theorem d_L_law_434 : decode b_L_law 434 = .ok (.iconst 0, 1) := by decide +kernel
theorem d_L_law_435 : decode b_L_law 435 = .ok (.ireturn, 1) := by decide +kernel
theorem d_L_law_436 : decode b_L_law 436 = .ok (.goto 732, 3) := by decide +kernel
theorem d_L_law_439 : decode b_L_law 439 = .ok (.aload_n 1, 1) := by decide +kernel
theorem d_L_law_440 : decode b_L_law 440 = .ok (.aload_n 0, 1) := by decide +kernel
theorem d_L_law_441 : decode b_L_law 441 = .ok (.iload 4, 2) := by decide +kernel
theorem d_L_law_443 : decode b_L_law 443 = .ok (.iconst 1, 1) := by decide +kernel
theorem d_L_law_444 : decode b_L_law 444 = .ok (.iadd, 1) := by decide +kernel
theorem d_L_law_445 : decode b_L_law 445 = .ok (.iaload, 1) := by decide +kernel
theorem d_L_law_446 : decode b_L_law 446 = .ok (.aload_n 3, 1) := by decide +kernel
theorem d_L_law_447 : decode b_L_law 447 = .ok (.invokestatic 96, 3) := by decide +kernel
theorem d_L_law_450 : decode b_L_law 450 = .ok (.istore 5, 2) := by decide +kernel
theorem d_L_law_452 : decode b_L_law 452 = .ok (.aload_n 2, 1) := by decide +kernel
theorem d_L_law_453 : decode b_L_law 453 = .ok (.aload_n 0, 1) := by decide +kernel
theorem d_L_law_454 : decode b_L_law 454 = .ok (.iload 4, 2) := by decide +kernel
theorem d_L_law_456 : decode b_L_law 456 = .ok (.iconst 1, 1) := by decide +kernel
theorem d_L_law_457 : decode b_L_law 457 = .ok (.iadd, 1) := by decide +kernel
theorem d_L_law_458 : decode b_L_law 458 = .ok (.iaload, 1) := by decide +kernel
theorem d_L_law_459 : decode b_L_law 459 = .ok (.invokevirtual 98, 3) := by decide +kernel
theorem d_L_law_462 : decode b_L_law 462 = .ok (.istore 6, 2) := by decide +kernel
theorem d_L_law_464 : decode b_L_law 464 = .ok (.aload_n 2, 1) := by decide +kernel
theorem d_L_law_465 : decode b_L_law 465 = .ok (.invokevirtual 82, 3) := by decide +kernel
theorem d_L_law_468 : decode b_L_law 468 = .ok (.iload 5, 2) := by decide +kernel
theorem d_L_law_470 : decode b_L_law 470 = .ok (.if_icmp .eq 5, 3) := by decide +kernel
theorem d_L_law_473 : decode b_L_law 473 = .ok (.iconst 0, 1) := by decide +kernel
theorem d_L_law_474 : decode b_L_law 474 = .ok (.ireturn, 1) := by decide +kernel
theorem d_L_law_475 : decode b_L_law 475 = .ok (.iload 5, 2) := by decide +kernel
theorem d_L_law_477 : decode b_L_law 477 = .ok (.ifCond .ne 15, 3) := by decide +kernel
theorem d_L_law_480 : decode b_L_law 480 = .ok (.aload_n 3, 1) := by decide +kernel
theorem d_L_law_481 : decode b_L_law 481 = .ok (.iconst 0, 1) := by decide +kernel
theorem d_L_law_482 : decode b_L_law 482 = .ok (.laload, 1) := by decide +kernel
theorem d_L_law_483 : decode b_L_law 483 = .ok (.iload 6, 2) := by decide +kernel
theorem d_L_law_485 : decode b_L_law 485 = .ok (.i2l, 1) := by decide +kernel
theorem d_L_law_486 : decode b_L_law 486 = .ok (.lcmp, 1) := by decide +kernel
theorem d_L_law_487 : decode b_L_law 487 = .ok (.ifCond .eq 5, 3) := by decide +kernel
theorem d_L_law_490 : decode b_L_law 490 = .ok (.iconst 0, 1) := by decide +kernel
theorem d_L_law_491 : decode b_L_law 491 = .ok (.ireturn, 1) := by decide +kernel
theorem d_L_law_492 : decode b_L_law 492 = .ok (.goto 676, 3) := by decide +kernel
theorem d_L_law_495 : decode b_L_law 495 = .ok (.aload_n 1, 1) := by decide +kernel
theorem d_L_law_496 : decode b_L_law 496 = .ok (.aload_n 0, 1) := by decide +kernel
theorem d_L_law_497 : decode b_L_law 497 = .ok (.iload 4, 2) := by decide +kernel
theorem d_L_law_499 : decode b_L_law 499 = .ok (.iconst 1, 1) := by decide +kernel
theorem d_L_law_500 : decode b_L_law 500 = .ok (.iadd, 1) := by decide +kernel
theorem d_L_law_501 : decode b_L_law 501 = .ok (.iaload, 1) := by decide +kernel
theorem d_L_law_502 : decode b_L_law 502 = .ok (.aload_n 0, 1) := by decide +kernel
theorem d_L_law_503 : decode b_L_law 503 = .ok (.iload 4, 2) := by decide +kernel
theorem d_L_law_505 : decode b_L_law 505 = .ok (.iconst 2, 1) := by decide +kernel
theorem d_L_law_506 : decode b_L_law 506 = .ok (.iadd, 1) := by decide +kernel
theorem d_L_law_507 : decode b_L_law 507 = .ok (.iaload, 1) := by decide +kernel
theorem d_L_law_508 : decode b_L_law 508 = .ok (.aload_n 0, 1) := by decide +kernel
theorem d_L_law_509 : decode b_L_law 509 = .ok (.iload 4, 2) := by decide +kernel
theorem d_L_law_511 : decode b_L_law 511 = .ok (.iconst 3, 1) := by decide +kernel
theorem d_L_law_512 : decode b_L_law 512 = .ok (.iadd, 1) := by decide +kernel
theorem d_L_law_513 : decode b_L_law 513 = .ok (.iaload, 1) := by decide +kernel
theorem d_L_law_514 : decode b_L_law 514 = .ok (.ifCond .eq 7, 3) := by decide +kernel
theorem d_L_law_517 : decode b_L_law 517 = .ok (.iconst 1, 1) := by decide +kernel
theorem d_L_law_518 : decode b_L_law 518 = .ok (.goto 4, 3) := by decide +kernel
theorem d_L_law_521 : decode b_L_law 521 = .ok (.iconst 0, 1) := by decide +kernel
theorem d_L_law_522 : decode b_L_law 522 = .ok (.aload_n 3, 1) := by decide +kernel
theorem d_L_law_523 : decode b_L_law 523 = .ok (.invokestatic 99, 3) := by decide +kernel
theorem d_L_law_526 : decode b_L_law 526 = .ok (.istore 5, 2) := by decide +kernel
theorem d_L_law_528 : decode b_L_law 528 = .ok (.aload_n 2, 1) := by decide +kernel
theorem d_L_law_529 : decode b_L_law 529 = .ok (.aload_n 0, 1) := by decide +kernel
theorem d_L_law_530 : decode b_L_law 530 = .ok (.iload 4, 2) := by decide +kernel
theorem d_L_law_532 : decode b_L_law 532 = .ok (.iconst 1, 1) := by decide +kernel
theorem d_L_law_533 : decode b_L_law 533 = .ok (.iadd, 1) := by decide +kernel
theorem d_L_law_534 : decode b_L_law 534 = .ok (.iaload, 1) := by decide +kernel
theorem d_L_law_535 : decode b_L_law 535 = .ok (.aload_n 0, 1) := by decide +kernel
theorem d_L_law_536 : decode b_L_law 536 = .ok (.iload 4, 2) := by decide +kernel
theorem d_L_law_538 : decode b_L_law 538 = .ok (.iconst 2, 1) := by decide +kernel
theorem d_L_law_539 : decode b_L_law 539 = .ok (.iadd, 1) := by decide +kernel
theorem d_L_law_540 : decode b_L_law 540 = .ok (.iaload, 1) := by decide +kernel
theorem d_L_law_541 : decode b_L_law 541 = .ok (.aload_n 0, 1) := by decide +kernel
theorem d_L_law_542 : decode b_L_law 542 = .ok (.iload 4, 2) := by decide +kernel
theorem d_L_law_544 : decode b_L_law 544 = .ok (.iconst 3, 1) := by decide +kernel
theorem d_L_law_545 : decode b_L_law 545 = .ok (.iadd, 1) := by decide +kernel
theorem d_L_law_546 : decode b_L_law 546 = .ok (.iaload, 1) := by decide +kernel
theorem d_L_law_547 : decode b_L_law 547 = .ok (.ifCond .eq 7, 3) := by decide +kernel
theorem d_L_law_550 : decode b_L_law 550 = .ok (.iconst 1, 1) := by decide +kernel
theorem d_L_law_551 : decode b_L_law 551 = .ok (.goto 4, 3) := by decide +kernel
theorem d_L_law_554 : decode b_L_law 554 = .ok (.iconst 0, 1) := by decide +kernel
theorem d_L_law_555 : decode b_L_law 555 = .ok (.invokevirtual 101, 3) := by decide +kernel
theorem d_L_law_558 : decode b_L_law 558 = .ok (.istore 6, 2) := by decide +kernel
theorem d_L_law_560 : decode b_L_law 560 = .ok (.aload_n 2, 1) := by decide +kernel
theorem d_L_law_561 : decode b_L_law 561 = .ok (.invokevirtual 82, 3) := by decide +kernel
theorem d_L_law_564 : decode b_L_law 564 = .ok (.iload 5, 2) := by decide +kernel
theorem d_L_law_566 : decode b_L_law 566 = .ok (.if_icmp .eq 5, 3) := by decide +kernel
theorem d_L_law_569 : decode b_L_law 569 = .ok (.iconst 0, 1) := by decide +kernel
theorem d_L_law_570 : decode b_L_law 570 = .ok (.ireturn, 1) := by decide +kernel
theorem d_L_law_571 : decode b_L_law 571 = .ok (.iload 5, 2) := by decide +kernel
theorem d_L_law_573 : decode b_L_law 573 = .ok (.ifCond .ne 22, 3) := by decide +kernel
theorem d_L_law_576 : decode b_L_law 576 = .ok (.aload_n 3, 1) := by decide +kernel
theorem d_L_law_577 : decode b_L_law 577 = .ok (.iconst 0, 1) := by decide +kernel
theorem d_L_law_578 : decode b_L_law 578 = .ok (.laload, 1) := by decide +kernel
theorem d_L_law_579 : decode b_L_law 579 = .ok (.iload 6, 2) := by decide +kernel
theorem d_L_law_581 : decode b_L_law 581 = .ok (.ifCond .eq 7, 3) := by decide +kernel
theorem d_L_law_584 : decode b_L_law 584 = .ok (.lconst 1, 1) := by decide +kernel
theorem d_L_law_585 : decode b_L_law 585 = .ok (.goto 4, 3) := by decide +kernel
theorem d_L_law_588 : decode b_L_law 588 = .ok (.lconst 0, 1) := by decide +kernel
theorem d_L_law_589 : decode b_L_law 589 = .ok (.lcmp, 1) := by decide +kernel
theorem d_L_law_590 : decode b_L_law 590 = .ok (.ifCond .eq 5, 3) := by decide +kernel
theorem d_L_law_593 : decode b_L_law 593 = .ok (.iconst 0, 1) := by decide +kernel
theorem d_L_law_594 : decode b_L_law 594 = .ok (.ireturn, 1) := by decide +kernel
theorem d_L_law_595 : decode b_L_law 595 = .ok (.goto 573, 3) := by decide +kernel
theorem d_L_law_598 : decode b_L_law 598 = .ok (.aload_n 1, 1) := by decide +kernel
theorem d_L_law_599 : decode b_L_law 599 = .ok (.aload_n 0, 1) := by decide +kernel
theorem d_L_law_600 : decode b_L_law 600 = .ok (.iload 4, 2) := by decide +kernel
theorem d_L_law_602 : decode b_L_law 602 = .ok (.iconst 1, 1) := by decide +kernel
theorem d_L_law_603 : decode b_L_law 603 = .ok (.iadd, 1) := by decide +kernel
theorem d_L_law_604 : decode b_L_law 604 = .ok (.iaload, 1) := by decide +kernel
theorem d_L_law_605 : decode b_L_law 605 = .ok (.aload_n 0, 1) := by decide +kernel
theorem d_L_law_606 : decode b_L_law 606 = .ok (.iload 4, 2) := by decide +kernel
theorem d_L_law_608 : decode b_L_law 608 = .ok (.iconst 2, 1) := by decide +kernel
theorem d_L_law_609 : decode b_L_law 609 = .ok (.iadd, 1) := by decide +kernel
theorem d_L_law_610 : decode b_L_law 610 = .ok (.iaload, 1) := by decide +kernel
theorem d_L_law_611 : decode b_L_law 611 = .ok (.aload_n 3, 1) := by decide +kernel
theorem d_L_law_612 : decode b_L_law 612 = .ok (.invokestatic 102, 3) := by decide +kernel
theorem d_L_law_615 : decode b_L_law 615 = .ok (.istore 5, 2) := by decide +kernel
theorem d_L_law_617 : decode b_L_law 617 = .ok (.aload_n 2, 1) := by decide +kernel
theorem d_L_law_618 : decode b_L_law 618 = .ok (.aload_n 0, 1) := by decide +kernel
theorem d_L_law_619 : decode b_L_law 619 = .ok (.iload 4, 2) := by decide +kernel
theorem d_L_law_621 : decode b_L_law 621 = .ok (.iconst 1, 1) := by decide +kernel
theorem d_L_law_622 : decode b_L_law 622 = .ok (.iadd, 1) := by decide +kernel
theorem d_L_law_623 : decode b_L_law 623 = .ok (.iaload, 1) := by decide +kernel
theorem d_L_law_624 : decode b_L_law 624 = .ok (.aload_n 0, 1) := by decide +kernel
theorem d_L_law_625 : decode b_L_law 625 = .ok (.iload 4, 2) := by decide +kernel
theorem d_L_law_627 : decode b_L_law 627 = .ok (.iconst 2, 1) := by decide +kernel
theorem d_L_law_628 : decode b_L_law 628 = .ok (.iadd, 1) := by decide +kernel
theorem d_L_law_629 : decode b_L_law 629 = .ok (.iaload, 1) := by decide +kernel
theorem d_L_law_630 : decode b_L_law 630 = .ok (.invokevirtual 105, 3) := by decide +kernel
theorem d_L_law_633 : decode b_L_law 633 = .ok (.istore 6, 2) := by decide +kernel
theorem d_L_law_635 : decode b_L_law 635 = .ok (.aload_n 2, 1) := by decide +kernel
theorem d_L_law_636 : decode b_L_law 636 = .ok (.invokevirtual 82, 3) := by decide +kernel
theorem d_L_law_639 : decode b_L_law 639 = .ok (.iload 5, 2) := by decide +kernel
theorem d_L_law_641 : decode b_L_law 641 = .ok (.if_icmp .eq 5, 3) := by decide +kernel
theorem d_L_law_644 : decode b_L_law 644 = .ok (.iconst 0, 1) := by decide +kernel
theorem d_L_law_645 : decode b_L_law 645 = .ok (.ireturn, 1) := by decide +kernel
theorem d_L_law_646 : decode b_L_law 646 = .ok (.iload 5, 2) := by decide +kernel
theorem d_L_law_648 : decode b_L_law 648 = .ok (.ifCond .ne 15, 3) := by decide +kernel
theorem d_L_law_651 : decode b_L_law 651 = .ok (.aload_n 3, 1) := by decide +kernel
theorem d_L_law_652 : decode b_L_law 652 = .ok (.iconst 0, 1) := by decide +kernel
theorem d_L_law_653 : decode b_L_law 653 = .ok (.laload, 1) := by decide +kernel
theorem d_L_law_654 : decode b_L_law 654 = .ok (.iload 6, 2) := by decide +kernel
theorem d_L_law_656 : decode b_L_law 656 = .ok (.i2l, 1) := by decide +kernel
theorem d_L_law_657 : decode b_L_law 657 = .ok (.lcmp, 1) := by decide +kernel
theorem d_L_law_658 : decode b_L_law 658 = .ok (.ifCond .eq 5, 3) := by decide +kernel
theorem d_L_law_661 : decode b_L_law 661 = .ok (.iconst 0, 1) := by decide +kernel
theorem d_L_law_662 : decode b_L_law 662 = .ok (.ireturn, 1) := by decide +kernel
theorem d_L_law_663 : decode b_L_law 663 = .ok (.goto 505, 3) := by decide +kernel
theorem d_L_law_666 : decode b_L_law 666 = .ok (.aload_n 1, 1) := by decide +kernel
theorem d_L_law_667 : decode b_L_law 667 = .ok (.aload_n 0, 1) := by decide +kernel
theorem d_L_law_668 : decode b_L_law 668 = .ok (.iload 4, 2) := by decide +kernel
theorem d_L_law_670 : decode b_L_law 670 = .ok (.iconst 1, 1) := by decide +kernel
theorem d_L_law_671 : decode b_L_law 671 = .ok (.iadd, 1) := by decide +kernel
theorem d_L_law_672 : decode b_L_law 672 = .ok (.iaload, 1) := by decide +kernel
theorem d_L_law_673 : decode b_L_law 673 = .ok (.aload_n 0, 1) := by decide +kernel
theorem d_L_law_674 : decode b_L_law 674 = .ok (.iload 4, 2) := by decide +kernel
theorem d_L_law_676 : decode b_L_law 676 = .ok (.iconst 2, 1) := by decide +kernel
theorem d_L_law_677 : decode b_L_law 677 = .ok (.iadd, 1) := by decide +kernel
theorem d_L_law_678 : decode b_L_law 678 = .ok (.iaload, 1) := by decide +kernel
theorem d_L_law_679 : decode b_L_law 679 = .ok (.aload_n 0, 1) := by decide +kernel
theorem d_L_law_680 : decode b_L_law 680 = .ok (.iload 4, 2) := by decide +kernel
theorem d_L_law_682 : decode b_L_law 682 = .ok (.iconst 3, 1) := by decide +kernel
theorem d_L_law_683 : decode b_L_law 683 = .ok (.iadd, 1) := by decide +kernel
theorem d_L_law_684 : decode b_L_law 684 = .ok (.iaload, 1) := by decide +kernel
theorem d_L_law_685 : decode b_L_law 685 = .ok (.aload_n 0, 1) := by decide +kernel
theorem d_L_law_686 : decode b_L_law 686 = .ok (.iload 4, 2) := by decide +kernel
theorem d_L_law_688 : decode b_L_law 688 = .ok (.iconst 4, 1) := by decide +kernel
theorem d_L_law_689 : decode b_L_law 689 = .ok (.iadd, 1) := by decide +kernel
theorem d_L_law_690 : decode b_L_law 690 = .ok (.iaload, 1) := by decide +kernel
theorem d_L_law_691 : decode b_L_law 691 = .ok (.aload_n 0, 1) := by decide +kernel
theorem d_L_law_692 : decode b_L_law 692 = .ok (.iload 4, 2) := by decide +kernel
theorem d_L_law_694 : decode b_L_law 694 = .ok (.iconst 5, 1) := by decide +kernel
theorem d_L_law_695 : decode b_L_law 695 = .ok (.iadd, 1) := by decide +kernel
theorem d_L_law_696 : decode b_L_law 696 = .ok (.iaload, 1) := by decide +kernel
theorem d_L_law_697 : decode b_L_law 697 = .ok (.aload_n 3, 1) := by decide +kernel
theorem d_L_law_698 : decode b_L_law 698 = .ok (.invokestatic 106, 3) := by decide +kernel
theorem d_L_law_701 : decode b_L_law 701 = .ok (.istore 5, 2) := by decide +kernel
theorem d_L_law_703 : decode b_L_law 703 = .ok (.aload_n 2, 1) := by decide +kernel
theorem d_L_law_704 : decode b_L_law 704 = .ok (.aload_n 0, 1) := by decide +kernel
theorem d_L_law_705 : decode b_L_law 705 = .ok (.iload 4, 2) := by decide +kernel
theorem d_L_law_707 : decode b_L_law 707 = .ok (.iconst 1, 1) := by decide +kernel
theorem d_L_law_708 : decode b_L_law 708 = .ok (.iadd, 1) := by decide +kernel
theorem d_L_law_709 : decode b_L_law 709 = .ok (.iaload, 1) := by decide +kernel
theorem d_L_law_710 : decode b_L_law 710 = .ok (.aload_n 0, 1) := by decide +kernel
theorem d_L_law_711 : decode b_L_law 711 = .ok (.iload 4, 2) := by decide +kernel
theorem d_L_law_713 : decode b_L_law 713 = .ok (.iconst 2, 1) := by decide +kernel
theorem d_L_law_714 : decode b_L_law 714 = .ok (.iadd, 1) := by decide +kernel
theorem d_L_law_715 : decode b_L_law 715 = .ok (.iaload, 1) := by decide +kernel
theorem d_L_law_716 : decode b_L_law 716 = .ok (.aload_n 0, 1) := by decide +kernel
theorem d_L_law_717 : decode b_L_law 717 = .ok (.iload 4, 2) := by decide +kernel
theorem d_L_law_719 : decode b_L_law 719 = .ok (.iconst 3, 1) := by decide +kernel
theorem d_L_law_720 : decode b_L_law 720 = .ok (.iadd, 1) := by decide +kernel
theorem d_L_law_721 : decode b_L_law 721 = .ok (.iaload, 1) := by decide +kernel
theorem d_L_law_722 : decode b_L_law 722 = .ok (.aload_n 0, 1) := by decide +kernel
theorem d_L_law_723 : decode b_L_law 723 = .ok (.iload 4, 2) := by decide +kernel
theorem d_L_law_725 : decode b_L_law 725 = .ok (.iconst 4, 1) := by decide +kernel
theorem d_L_law_726 : decode b_L_law 726 = .ok (.iadd, 1) := by decide +kernel
theorem d_L_law_727 : decode b_L_law 727 = .ok (.iaload, 1) := by decide +kernel
theorem d_L_law_728 : decode b_L_law 728 = .ok (.aload_n 0, 1) := by decide +kernel
theorem d_L_law_729 : decode b_L_law 729 = .ok (.iload 4, 2) := by decide +kernel
theorem d_L_law_731 : decode b_L_law 731 = .ok (.iconst 5, 1) := by decide +kernel
theorem d_L_law_732 : decode b_L_law 732 = .ok (.iadd, 1) := by decide +kernel
theorem d_L_law_733 : decode b_L_law 733 = .ok (.iaload, 1) := by decide +kernel
theorem d_L_law_734 : decode b_L_law 734 = .ok (.invokevirtual 109, 3) := by decide +kernel
theorem d_L_law_737 : decode b_L_law 737 = .ok (.istore 6, 2) := by decide +kernel
theorem d_L_law_739 : decode b_L_law 739 = .ok (.aload_n 2, 1) := by decide +kernel
theorem d_L_law_740 : decode b_L_law 740 = .ok (.invokevirtual 82, 3) := by decide +kernel
theorem d_L_law_743 : decode b_L_law 743 = .ok (.iload 5, 2) := by decide +kernel
theorem d_L_law_745 : decode b_L_law 745 = .ok (.if_icmp .eq 5, 3) := by decide +kernel
theorem d_L_law_748 : decode b_L_law 748 = .ok (.iconst 0, 1) := by decide +kernel
theorem d_L_law_749 : decode b_L_law 749 = .ok (.ireturn, 1) := by decide +kernel
theorem d_L_law_750 : decode b_L_law 750 = .ok (.iload 5, 2) := by decide +kernel
theorem d_L_law_752 : decode b_L_law 752 = .ok (.ifCond .ne 15, 3) := by decide +kernel
theorem d_L_law_755 : decode b_L_law 755 = .ok (.aload_n 3, 1) := by decide +kernel
theorem d_L_law_756 : decode b_L_law 756 = .ok (.iconst 0, 1) := by decide +kernel
theorem d_L_law_757 : decode b_L_law 757 = .ok (.laload, 1) := by decide +kernel
theorem d_L_law_758 : decode b_L_law 758 = .ok (.iload 6, 2) := by decide +kernel
theorem d_L_law_760 : decode b_L_law 760 = .ok (.i2l, 1) := by decide +kernel
theorem d_L_law_761 : decode b_L_law 761 = .ok (.lcmp, 1) := by decide +kernel
theorem d_L_law_762 : decode b_L_law 762 = .ok (.ifCond .eq 5, 3) := by decide +kernel
theorem d_L_law_765 : decode b_L_law 765 = .ok (.iconst 0, 1) := by decide +kernel
theorem d_L_law_766 : decode b_L_law 766 = .ok (.ireturn, 1) := by decide +kernel
theorem d_L_law_767 : decode b_L_law 767 = .ok (.goto 401, 3) := by decide +kernel
theorem d_L_law_770 : decode b_L_law 770 = .ok (.aload_n 1, 1) := by decide +kernel
theorem d_L_law_771 : decode b_L_law 771 = .ok (.aload_n 0, 1) := by decide +kernel
theorem d_L_law_772 : decode b_L_law 772 = .ok (.iload 4, 2) := by decide +kernel
theorem d_L_law_774 : decode b_L_law 774 = .ok (.iconst 1, 1) := by decide +kernel
theorem d_L_law_775 : decode b_L_law 775 = .ok (.iadd, 1) := by decide +kernel
theorem d_L_law_776 : decode b_L_law 776 = .ok (.iaload, 1) := by decide +kernel
theorem d_L_law_777 : decode b_L_law 777 = .ok (.aload_n 0, 1) := by decide +kernel
theorem d_L_law_778 : decode b_L_law 778 = .ok (.iload 4, 2) := by decide +kernel
theorem d_L_law_780 : decode b_L_law 780 = .ok (.iconst 2, 1) := by decide +kernel
theorem d_L_law_781 : decode b_L_law 781 = .ok (.iadd, 1) := by decide +kernel
theorem d_L_law_782 : decode b_L_law 782 = .ok (.iaload, 1) := by decide +kernel
theorem d_L_law_783 : decode b_L_law 783 = .ok (.invokestatic 110, 3) := by decide +kernel
theorem d_L_law_786 : decode b_L_law 786 = .ok (.istore 5, 2) := by decide +kernel
theorem d_L_law_788 : decode b_L_law 788 = .ok (.aload_n 2, 1) := by decide +kernel
theorem d_L_law_789 : decode b_L_law 789 = .ok (.aload_n 0, 1) := by decide +kernel
theorem d_L_law_790 : decode b_L_law 790 = .ok (.iload 4, 2) := by decide +kernel
theorem d_L_law_792 : decode b_L_law 792 = .ok (.iconst 1, 1) := by decide +kernel
theorem d_L_law_793 : decode b_L_law 793 = .ok (.iadd, 1) := by decide +kernel
theorem d_L_law_794 : decode b_L_law 794 = .ok (.iaload, 1) := by decide +kernel
theorem d_L_law_795 : decode b_L_law 795 = .ok (.aload_n 0, 1) := by decide +kernel
theorem d_L_law_796 : decode b_L_law 796 = .ok (.iload 4, 2) := by decide +kernel
theorem d_L_law_798 : decode b_L_law 798 = .ok (.iconst 2, 1) := by decide +kernel
theorem d_L_law_799 : decode b_L_law 799 = .ok (.iadd, 1) := by decide +kernel
theorem d_L_law_800 : decode b_L_law 800 = .ok (.iaload, 1) := by decide +kernel
theorem d_L_law_801 : decode b_L_law 801 = .ok (.invokevirtual 113, 3) := by decide +kernel
theorem d_L_law_804 : decode b_L_law 804 = .ok (.aload_n 2, 1) := by decide +kernel
theorem d_L_law_805 : decode b_L_law 805 = .ok (.invokevirtual 82, 3) := by decide +kernel
theorem d_L_law_808 : decode b_L_law 808 = .ok (.iload 5, 2) := by decide +kernel
theorem d_L_law_810 : decode b_L_law 810 = .ok (.if_icmp .eq 5, 3) := by decide +kernel
theorem d_L_law_813 : decode b_L_law 813 = .ok (.iconst 0, 1) := by decide +kernel
theorem d_L_law_814 : decode b_L_law 814 = .ok (.ireturn, 1) := by decide +kernel
theorem d_L_law_815 : decode b_L_law 815 = .ok (.goto 353, 3) := by decide +kernel
theorem d_L_law_818 : decode b_L_law 818 = .ok (.aload_n 1, 1) := by decide +kernel
theorem d_L_law_819 : decode b_L_law 819 = .ok (.aload_n 0, 1) := by decide +kernel
theorem d_L_law_820 : decode b_L_law 820 = .ok (.iload 4, 2) := by decide +kernel
theorem d_L_law_822 : decode b_L_law 822 = .ok (.iconst 1, 1) := by decide +kernel
theorem d_L_law_823 : decode b_L_law 823 = .ok (.iadd, 1) := by decide +kernel
theorem d_L_law_824 : decode b_L_law 824 = .ok (.iaload, 1) := by decide +kernel
theorem d_L_law_825 : decode b_L_law 825 = .ok (.aload_n 3, 1) := by decide +kernel
theorem d_L_law_826 : decode b_L_law 826 = .ok (.invokestatic 114, 3) := by decide +kernel
theorem d_L_law_829 : decode b_L_law 829 = .ok (.istore 5, 2) := by decide +kernel
theorem d_L_law_831 : decode b_L_law 831 = .ok (.aload_n 2, 1) := by decide +kernel
theorem d_L_law_832 : decode b_L_law 832 = .ok (.aload_n 0, 1) := by decide +kernel
theorem d_L_law_833 : decode b_L_law 833 = .ok (.iload 4, 2) := by decide +kernel
theorem d_L_law_835 : decode b_L_law 835 = .ok (.iconst 1, 1) := by decide +kernel
theorem d_L_law_836 : decode b_L_law 836 = .ok (.iadd, 1) := by decide +kernel
theorem d_L_law_837 : decode b_L_law 837 = .ok (.iaload, 1) := by decide +kernel
theorem d_L_law_838 : decode b_L_law 838 = .ok (.invokevirtual 116, 3) := by decide +kernel
theorem d_L_law_841 : decode b_L_law 841 = .ok (.istore 6, 2) := by decide +kernel
theorem d_L_law_843 : decode b_L_law 843 = .ok (.aload_n 2, 1) := by decide +kernel
theorem d_L_law_844 : decode b_L_law 844 = .ok (.invokevirtual 82, 3) := by decide +kernel
theorem d_L_law_847 : decode b_L_law 847 = .ok (.iload 5, 2) := by decide +kernel
theorem d_L_law_849 : decode b_L_law 849 = .ok (.if_icmp .eq 5, 3) := by decide +kernel
theorem d_L_law_852 : decode b_L_law 852 = .ok (.iconst 0, 1) := by decide +kernel
theorem d_L_law_853 : decode b_L_law 853 = .ok (.ireturn, 1) := by decide +kernel
theorem d_L_law_854 : decode b_L_law 854 = .ok (.iload 5, 2) := by decide +kernel
theorem d_L_law_856 : decode b_L_law 856 = .ok (.ifCond .ne 15, 3) := by decide +kernel
theorem d_L_law_859 : decode b_L_law 859 = .ok (.aload_n 3, 1) := by decide +kernel
theorem d_L_law_860 : decode b_L_law 860 = .ok (.iconst 0, 1) := by decide +kernel
theorem d_L_law_861 : decode b_L_law 861 = .ok (.laload, 1) := by decide +kernel
theorem d_L_law_862 : decode b_L_law 862 = .ok (.iload 6, 2) := by decide +kernel
theorem d_L_law_864 : decode b_L_law 864 = .ok (.i2l, 1) := by decide +kernel
theorem d_L_law_865 : decode b_L_law 865 = .ok (.lcmp, 1) := by decide +kernel
theorem d_L_law_866 : decode b_L_law 866 = .ok (.ifCond .eq 5, 3) := by decide +kernel
theorem d_L_law_869 : decode b_L_law 869 = .ok (.iconst 0, 1) := by decide +kernel
theorem d_L_law_870 : decode b_L_law 870 = .ok (.ireturn, 1) := by decide +kernel
theorem d_L_law_871 : decode b_L_law 871 = .ok (.goto 297, 3) := by decide +kernel
theorem d_L_law_874 : decode b_L_law 874 = .ok (.aload_n 1, 1) := by decide +kernel
theorem d_L_law_875 : decode b_L_law 875 = .ok (.invokevirtual 117, 3) := by decide +kernel
theorem d_L_law_878 : decode b_L_law 878 = .ok (.aload_n 2, 1) := by decide +kernel
theorem d_L_law_879 : decode b_L_law 879 = .ok (.invokevirtual 120, 3) := by decide +kernel
theorem d_L_law_882 : decode b_L_law 882 = .ok (.if_icmp .eq 286, 3) := by decide +kernel
theorem d_L_law_885 : decode b_L_law 885 = .ok (.iconst 0, 1) := by decide +kernel
theorem d_L_law_886 : decode b_L_law 886 = .ok (.ireturn, 1) := by decide +kernel
theorem d_L_law_887 : decode b_L_law 887 = .ok (.aload_n 1, 1) := by decide +kernel
theorem d_L_law_888 : decode b_L_law 888 = .ok (.invokevirtual 121, 3) := by decide +kernel
theorem d_L_law_891 : decode b_L_law 891 = .ok (.aload_n 2, 1) := by decide +kernel
theorem d_L_law_892 : decode b_L_law 892 = .ok (.invokevirtual 124, 3) := by decide +kernel
theorem d_L_law_895 : decode b_L_law 895 = .ok (.lcmp, 1) := by decide +kernel
theorem d_L_law_896 : decode b_L_law 896 = .ok (.ifCond .eq 272, 3) := by decide +kernel
theorem d_L_law_899 : decode b_L_law 899 = .ok (.iconst 0, 1) := by decide +kernel
theorem d_L_law_900 : decode b_L_law 900 = .ok (.ireturn, 1) := by decide +kernel
theorem d_L_law_901 : decode b_L_law 901 = .ok (.aload_n 1, 1) := by decide +kernel
theorem d_L_law_902 : decode b_L_law 902 = .ok (.aload_n 0, 1) := by decide +kernel
theorem d_L_law_903 : decode b_L_law 903 = .ok (.iload 4, 2) := by decide +kernel
theorem d_L_law_905 : decode b_L_law 905 = .ok (.iconst 1, 1) := by decide +kernel
theorem d_L_law_906 : decode b_L_law 906 = .ok (.iadd, 1) := by decide +kernel
theorem d_L_law_907 : decode b_L_law 907 = .ok (.iaload, 1) := by decide +kernel
theorem d_L_law_908 : decode b_L_law 908 = .ok (.aload_n 0, 1) := by decide +kernel
theorem d_L_law_909 : decode b_L_law 909 = .ok (.iload 4, 2) := by decide +kernel
theorem d_L_law_911 : decode b_L_law 911 = .ok (.iconst 2, 1) := by decide +kernel
theorem d_L_law_912 : decode b_L_law 912 = .ok (.iadd, 1) := by decide +kernel
theorem d_L_law_913 : decode b_L_law 913 = .ok (.iaload, 1) := by decide +kernel
theorem d_L_law_914 : decode b_L_law 914 = .ok (.aload_n 3, 1) := by decide +kernel
theorem d_L_law_915 : decode b_L_law 915 = .ok (.invokestatic 125, 3) := by decide +kernel
theorem d_L_law_918 : decode b_L_law 918 = .ok (.istore 5, 2) := by decide +kernel
theorem d_L_law_920 : decode b_L_law 920 = .ok (.aload_n 2, 1) := by decide +kernel
theorem d_L_law_921 : decode b_L_law 921 = .ok (.aload_n 0, 1) := by decide +kernel
theorem d_L_law_922 : decode b_L_law 922 = .ok (.iload 4, 2) := by decide +kernel
theorem d_L_law_924 : decode b_L_law 924 = .ok (.iconst 1, 1) := by decide +kernel
theorem d_L_law_925 : decode b_L_law 925 = .ok (.iadd, 1) := by decide +kernel
theorem d_L_law_926 : decode b_L_law 926 = .ok (.iaload, 1) := by decide +kernel
theorem d_L_law_927 : decode b_L_law 927 = .ok (.aload_n 0, 1) := by decide +kernel
theorem d_L_law_928 : decode b_L_law 928 = .ok (.iload 4, 2) := by decide +kernel
theorem d_L_law_930 : decode b_L_law 930 = .ok (.iconst 2, 1) := by decide +kernel
theorem d_L_law_931 : decode b_L_law 931 = .ok (.iadd, 1) := by decide +kernel
theorem d_L_law_932 : decode b_L_law 932 = .ok (.iaload, 1) := by decide +kernel
theorem d_L_law_933 : decode b_L_law 933 = .ok (.invokevirtual 127, 3) := by decide +kernel
theorem d_L_law_936 : decode b_L_law 936 = .ok (.istore 6, 2) := by decide +kernel
theorem d_L_law_938 : decode b_L_law 938 = .ok (.aload_n 2, 1) := by decide +kernel
theorem d_L_law_939 : decode b_L_law 939 = .ok (.invokevirtual 82, 3) := by decide +kernel
theorem d_L_law_942 : decode b_L_law 942 = .ok (.iload 5, 2) := by decide +kernel
theorem d_L_law_944 : decode b_L_law 944 = .ok (.if_icmp .eq 5, 3) := by decide +kernel
theorem d_L_law_947 : decode b_L_law 947 = .ok (.iconst 0, 1) := by decide +kernel
theorem d_L_law_948 : decode b_L_law 948 = .ok (.ireturn, 1) := by decide +kernel
theorem d_L_law_949 : decode b_L_law 949 = .ok (.iload 5, 2) := by decide +kernel
theorem d_L_law_951 : decode b_L_law 951 = .ok (.ifCond .ne 15, 3) := by decide +kernel
theorem d_L_law_954 : decode b_L_law 954 = .ok (.aload_n 3, 1) := by decide +kernel
theorem d_L_law_955 : decode b_L_law 955 = .ok (.iconst 0, 1) := by decide +kernel
theorem d_L_law_956 : decode b_L_law 956 = .ok (.laload, 1) := by decide +kernel
theorem d_L_law_957 : decode b_L_law 957 = .ok (.iload 6, 2) := by decide +kernel
theorem d_L_law_959 : decode b_L_law 959 = .ok (.i2l, 1) := by decide +kernel
theorem d_L_law_960 : decode b_L_law 960 = .ok (.lcmp, 1) := by decide +kernel
theorem d_L_law_961 : decode b_L_law 961 = .ok (.ifCond .eq 5, 3) := by decide +kernel
theorem d_L_law_964 : decode b_L_law 964 = .ok (.iconst 0, 1) := by decide +kernel
theorem d_L_law_965 : decode b_L_law 965 = .ok (.ireturn, 1) := by decide +kernel
theorem d_L_law_966 : decode b_L_law 966 = .ok (.goto 202, 3) := by decide +kernel
theorem d_L_law_969 : decode b_L_law 969 = .ok (.aload_n 1, 1) := by decide +kernel
theorem d_L_law_970 : decode b_L_law 970 = .ok (.aload_n 0, 1) := by decide +kernel
theorem d_L_law_971 : decode b_L_law 971 = .ok (.iload 4, 2) := by decide +kernel
theorem d_L_law_973 : decode b_L_law 973 = .ok (.iconst 1, 1) := by decide +kernel
theorem d_L_law_974 : decode b_L_law 974 = .ok (.iadd, 1) := by decide +kernel
theorem d_L_law_975 : decode b_L_law 975 = .ok (.iaload, 1) := by decide +kernel
theorem d_L_law_976 : decode b_L_law 976 = .ok (.aload_n 3, 1) := by decide +kernel
theorem d_L_law_977 : decode b_L_law 977 = .ok (.invokestatic 128, 3) := by decide +kernel
theorem d_L_law_980 : decode b_L_law 980 = .ok (.istore 5, 2) := by decide +kernel
theorem d_L_law_982 : decode b_L_law 982 = .ok (.aload_n 2, 1) := by decide +kernel
theorem d_L_law_983 : decode b_L_law 983 = .ok (.aload_n 0, 1) := by decide +kernel
theorem d_L_law_984 : decode b_L_law 984 = .ok (.iload 4, 2) := by decide +kernel
theorem d_L_law_986 : decode b_L_law 986 = .ok (.iconst 1, 1) := by decide +kernel
theorem d_L_law_987 : decode b_L_law 987 = .ok (.iadd, 1) := by decide +kernel
theorem d_L_law_988 : decode b_L_law 988 = .ok (.iaload, 1) := by decide +kernel
theorem d_L_law_989 : decode b_L_law 989 = .ok (.invokevirtual 130, 3) := by decide +kernel
theorem d_L_law_992 : decode b_L_law 992 = .ok (.istore 6, 2) := by decide +kernel
theorem d_L_law_994 : decode b_L_law 994 = .ok (.aload_n 2, 1) := by decide +kernel
theorem d_L_law_995 : decode b_L_law 995 = .ok (.invokevirtual 82, 3) := by decide +kernel
theorem d_L_law_998 : decode b_L_law 998 = .ok (.iload 5, 2) := by decide +kernel
theorem d_L_law_1000 : decode b_L_law 1000 = .ok (.if_icmp .eq 5, 3) := by decide +kernel
theorem d_L_law_1003 : decode b_L_law 1003 = .ok (.iconst 0, 1) := by decide +kernel
theorem d_L_law_1004 : decode b_L_law 1004 = .ok (.ireturn, 1) := by decide +kernel
theorem d_L_law_1005 : decode b_L_law 1005 = .ok (.iload 5, 2) := by decide +kernel
theorem d_L_law_1007 : decode b_L_law 1007 = .ok (.ifCond .ne 15, 3) := by decide +kernel
theorem d_L_law_1010 : decode b_L_law 1010 = .ok (.aload_n 3, 1) := by decide +kernel
theorem d_L_law_1011 : decode b_L_law 1011 = .ok (.iconst 0, 1) := by decide +kernel
theorem d_L_law_1012 : decode b_L_law 1012 = .ok (.laload, 1) := by decide +kernel
theorem d_L_law_1013 : decode b_L_law 1013 = .ok (.iload 6, 2) := by decide +kernel
theorem d_L_law_1015 : decode b_L_law 1015 = .ok (.i2l, 1) := by decide +kernel
theorem d_L_law_1016 : decode b_L_law 1016 = .ok (.lcmp, 1) := by decide +kernel
theorem d_L_law_1017 : decode b_L_law 1017 = .ok (.ifCond .eq 5, 3) := by decide +kernel
theorem d_L_law_1020 : decode b_L_law 1020 = .ok (.iconst 0, 1) := by decide +kernel
theorem d_L_law_1021 : decode b_L_law 1021 = .ok (.ireturn, 1) := by decide +kernel
theorem d_L_law_1022 : decode b_L_law 1022 = .ok (.goto 146, 3) := by decide +kernel
theorem d_L_law_1025 : decode b_L_law 1025 = .ok (.aload_n 1, 1) := by decide +kernel
theorem d_L_law_1026 : decode b_L_law 1026 = .ok (.aload_n 3, 1) := by decide +kernel
theorem d_L_law_1027 : decode b_L_law 1027 = .ok (.invokestatic 131, 3) := by decide +kernel
theorem d_L_law_1030 : decode b_L_law 1030 = .ok (.istore 5, 2) := by decide +kernel
theorem d_L_law_1032 : decode b_L_law 1032 = .ok (.aload_n 2, 1) := by decide +kernel
theorem d_L_law_1033 : decode b_L_law 1033 = .ok (.invokevirtual 134, 3) := by decide +kernel
theorem d_L_law_1036 : decode b_L_law 1036 = .ok (.istore 6, 2) := by decide +kernel
theorem d_L_law_1038 : decode b_L_law 1038 = .ok (.aload_n 2, 1) := by decide +kernel
theorem d_L_law_1039 : decode b_L_law 1039 = .ok (.invokevirtual 82, 3) := by decide +kernel
theorem d_L_law_1042 : decode b_L_law 1042 = .ok (.iload 5, 2) := by decide +kernel
theorem d_L_law_1044 : decode b_L_law 1044 = .ok (.if_icmp .eq 5, 3) := by decide +kernel
theorem d_L_law_1047 : decode b_L_law 1047 = .ok (.iconst 0, 1) := by decide +kernel
theorem d_L_law_1048 : decode b_L_law 1048 = .ok (.ireturn, 1) := by decide +kernel
theorem d_L_law_1049 : decode b_L_law 1049 = .ok (.iload 5, 2) := by decide +kernel
theorem d_L_law_1051 : decode b_L_law 1051 = .ok (.ifCond .ne 15, 3) := by decide +kernel
theorem d_L_law_1054 : decode b_L_law 1054 = .ok (.aload_n 3, 1) := by decide +kernel
theorem d_L_law_1055 : decode b_L_law 1055 = .ok (.iconst 0, 1) := by decide +kernel
theorem d_L_law_1056 : decode b_L_law 1056 = .ok (.laload, 1) := by decide +kernel
theorem d_L_law_1057 : decode b_L_law 1057 = .ok (.iload 6, 2) := by decide +kernel
theorem d_L_law_1059 : decode b_L_law 1059 = .ok (.i2l, 1) := by decide +kernel
theorem d_L_law_1060 : decode b_L_law 1060 = .ok (.lcmp, 1) := by decide +kernel
theorem d_L_law_1061 : decode b_L_law 1061 = .ok (.ifCond .eq 5, 3) := by decide +kernel
theorem d_L_law_1064 : decode b_L_law 1064 = .ok (.iconst 0, 1) := by decide +kernel
theorem d_L_law_1065 : decode b_L_law 1065 = .ok (.ireturn, 1) := by decide +kernel
theorem d_L_law_1066 : decode b_L_law 1066 = .ok (.goto 102, 3) := by decide +kernel
theorem d_L_law_1069 : decode b_L_law 1069 = .ok (.aload_n 1, 1) := by decide +kernel
theorem d_L_law_1070 : decode b_L_law 1070 = .ok (.aload_n 3, 1) := by decide +kernel
theorem d_L_law_1071 : decode b_L_law 1071 = .ok (.invokestatic 135, 3) := by decide +kernel
theorem d_L_law_1074 : decode b_L_law 1074 = .ok (.istore 5, 2) := by decide +kernel
theorem d_L_law_1076 : decode b_L_law 1076 = .ok (.aload_n 2, 1) := by decide +kernel
theorem d_L_law_1077 : decode b_L_law 1077 = .ok (.invokevirtual 137, 3) := by decide +kernel
theorem d_L_law_1080 : decode b_L_law 1080 = .ok (.lstore 6, 2) := by decide +kernel
theorem d_L_law_1082 : decode b_L_law 1082 = .ok (.aload_n 2, 1) := by decide +kernel
theorem d_L_law_1083 : decode b_L_law 1083 = .ok (.invokevirtual 82, 3) := by decide +kernel
theorem d_L_law_1086 : decode b_L_law 1086 = .ok (.iload 5, 2) := by decide +kernel
theorem d_L_law_1088 : decode b_L_law 1088 = .ok (.if_icmp .eq 5, 3) := by decide +kernel
theorem d_L_law_1091 : decode b_L_law 1091 = .ok (.iconst 0, 1) := by decide +kernel
theorem d_L_law_1092 : decode b_L_law 1092 = .ok (.ireturn, 1) := by decide +kernel
theorem d_L_law_1093 : decode b_L_law 1093 = .ok (.iload 5, 2) := by decide +kernel
theorem d_L_law_1095 : decode b_L_law 1095 = .ok (.ifCond .ne 14, 3) := by decide +kernel
theorem d_L_law_1098 : decode b_L_law 1098 = .ok (.aload_n 3, 1) := by decide +kernel
theorem d_L_law_1099 : decode b_L_law 1099 = .ok (.iconst 0, 1) := by decide +kernel
theorem d_L_law_1100 : decode b_L_law 1100 = .ok (.laload, 1) := by decide +kernel
theorem d_L_law_1101 : decode b_L_law 1101 = .ok (.lload 6, 2) := by decide +kernel
theorem d_L_law_1103 : decode b_L_law 1103 = .ok (.lcmp, 1) := by decide +kernel
theorem d_L_law_1104 : decode b_L_law 1104 = .ok (.ifCond .eq 5, 3) := by decide +kernel
theorem d_L_law_1107 : decode b_L_law 1107 = .ok (.iconst 0, 1) := by decide +kernel
theorem d_L_law_1108 : decode b_L_law 1108 = .ok (.ireturn, 1) := by decide +kernel
theorem d_L_law_1109 : decode b_L_law 1109 = .ok (.goto 59, 3) := by decide +kernel
theorem d_L_law_1112 : decode b_L_law 1112 = .ok (.aload_n 1, 1) := by decide +kernel
theorem d_L_law_1113 : decode b_L_law 1113 = .ok (.aload_n 0, 1) := by decide +kernel
theorem d_L_law_1114 : decode b_L_law 1114 = .ok (.iload 4, 2) := by decide +kernel
theorem d_L_law_1116 : decode b_L_law 1116 = .ok (.iconst 1, 1) := by decide +kernel
theorem d_L_law_1117 : decode b_L_law 1117 = .ok (.iadd, 1) := by decide +kernel
theorem d_L_law_1118 : decode b_L_law 1118 = .ok (.iaload, 1) := by decide +kernel
theorem d_L_law_1119 : decode b_L_law 1119 = .ok (.aload_n 3, 1) := by decide +kernel
theorem d_L_law_1120 : decode b_L_law 1120 = .ok (.invokestatic 138, 3) := by decide +kernel
theorem d_L_law_1123 : decode b_L_law 1123 = .ok (.istore 5, 2) := by decide +kernel
theorem d_L_law_1125 : decode b_L_law 1125 = .ok (.aload_n 2, 1) := by decide +kernel
theorem d_L_law_1126 : decode b_L_law 1126 = .ok (.aload_n 0, 1) := by decide +kernel
theorem d_L_law_1127 : decode b_L_law 1127 = .ok (.iload 4, 2) := by decide +kernel
theorem d_L_law_1129 : decode b_L_law 1129 = .ok (.iconst 1, 1) := by decide +kernel
theorem d_L_law_1130 : decode b_L_law 1130 = .ok (.iadd, 1) := by decide +kernel
theorem d_L_law_1131 : decode b_L_law 1131 = .ok (.iaload, 1) := by decide +kernel
theorem d_L_law_1132 : decode b_L_law 1132 = .ok (.invokevirtual 140, 3) := by decide +kernel
theorem d_L_law_1135 : decode b_L_law 1135 = .ok (.istore 6, 2) := by decide +kernel
theorem d_L_law_1137 : decode b_L_law 1137 = .ok (.aload_n 2, 1) := by decide +kernel
theorem d_L_law_1138 : decode b_L_law 1138 = .ok (.invokevirtual 82, 3) := by decide +kernel
theorem d_L_law_1141 : decode b_L_law 1141 = .ok (.iload 5, 2) := by decide +kernel
theorem d_L_law_1143 : decode b_L_law 1143 = .ok (.if_icmp .eq 5, 3) := by decide +kernel
theorem d_L_law_1146 : decode b_L_law 1146 = .ok (.iconst 0, 1) := by decide +kernel
theorem d_L_law_1147 : decode b_L_law 1147 = .ok (.ireturn, 1) := by decide +kernel
theorem d_L_law_1148 : decode b_L_law 1148 = .ok (.iload 5, 2) := by decide +kernel
theorem d_L_law_1150 : decode b_L_law 1150 = .ok (.ifCond .ne 15, 3) := by decide +kernel
theorem d_L_law_1153 : decode b_L_law 1153 = .ok (.aload_n 3, 1) := by decide +kernel
theorem d_L_law_1154 : decode b_L_law 1154 = .ok (.iconst 0, 1) := by decide +kernel
theorem d_L_law_1155 : decode b_L_law 1155 = .ok (.laload, 1) := by decide +kernel
theorem d_L_law_1156 : decode b_L_law 1156 = .ok (.iload 6, 2) := by decide +kernel
theorem d_L_law_1158 : decode b_L_law 1158 = .ok (.i2l, 1) := by decide +kernel
theorem d_L_law_1159 : decode b_L_law 1159 = .ok (.lcmp, 1) := by decide +kernel
theorem d_L_law_1160 : decode b_L_law 1160 = .ok (.ifCond .eq 5, 3) := by decide +kernel
theorem d_L_law_1163 : decode b_L_law 1163 = .ok (.iconst 0, 1) := by decide +kernel
theorem d_L_law_1164 : decode b_L_law 1164 = .ok (.ireturn, 1) := by decide +kernel
theorem d_L_law_1165 : decode b_L_law 1165 = .ok (.goto 3, 3) := by decide +kernel
theorem d_L_law_1168 : decode b_L_law 1168 = .ok (.iinc 4 6, 3) := by decide +kernel
theorem d_L_law_1171 : decode b_L_law 1171 = .ok (.goto (-1138), 3) := by decide +kernel
theorem d_L_law_1174 : decode b_L_law 1174 = .ok (.iconst 1, 1) := by decide +kernel
theorem d_L_law_1175 : decode b_L_law 1175 = .ok (.ireturn, 1) := by decide +kernel
