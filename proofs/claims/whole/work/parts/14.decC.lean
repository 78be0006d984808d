/-! DECODE ROWS -/
theorem d_X_init_0 : decode b_X_init 0 = .ok (.aload_n 0, 1) := by decide +kernel
theorem d_X_init_1 : decode b_X_init 1 = .ok (.invokespecial 1, 3) := by decide +kernel
theorem d_X_init_4 : decode b_X_init 4 = .ok (.new 7, 3) := by decide +kernel
theorem d_X_init_7 : decode b_X_init 7 = .ok (.dup, 1) := by decide +kernel
theorem d_X_init_8 : decode b_X_init 8 = .ok (.iconst 1, 1) := by decide +kernel
theorem d_X_init_9 : decode b_X_init 9 = .ok (.iload_n 1, 1) := by decide +kernel
theorem d_X_init_10 : decode b_X_init 10 = .ok (.bipush 8, 2) := by decide +kernel
theorem d_X_init_12 : decode b_X_init 12 = .ok (.invokestatic 11, 3) := by decide +kernel
theorem d_X_init_15 : decode b_X_init 15 = .ok (.invokestatic 17, 3) := by decide +kernel
theorem d_X_init_18 : decode b_X_init 18 = .ok (.invokespecial 20, 3) := by decide +kernel
theorem d_X_init_21 : decode b_X_init 21 = .ok (.astore_n 2, 1) := by decide +kernel
theorem d_X_init_22 : decode b_X_init 22 = .ok (.new 23, 3) := by decide +kernel
theorem d_X_init_25 : decode b_X_init 25 = .ok (.dup, 1) := by decide +kernel
theorem d_X_init_26 : decode b_X_init 26 = .ok (.aload_n 2, 1) := by decide +kernel
theorem d_X_init_27 : decode b_X_init 27 = .ok (.invokespecial 25, 3) := by decide +kernel
theorem d_X_init_30 : decode b_X_init 30 = .ok (.astore_n 3, 1) := by decide +kernel
theorem d_X_init_31 : decode b_X_init 31 = .ok (.new 28, 3) := by decide +kernel
theorem d_X_init_34 : decode b_X_init 34 = .ok (.dup, 1) := by decide +kernel
theorem d_X_init_35 : decode b_X_init 35 = .ok (.aload_n 2, 1) := by decide +kernel
theorem d_X_init_36 : decode b_X_init 36 = .ok (.invokespecial 30, 3) := by decide +kernel
theorem d_X_init_39 : decode b_X_init 39 = .ok (.astore 4, 2) := by decide +kernel
theorem d_X_init_41 : decode b_X_init 41 = .ok (.aload_n 0, 1) := by decide +kernel
theorem d_X_init_42 : decode b_X_init 42 = .ok (.aload_n 2, 1) := by decide +kernel
theorem d_X_init_43 : decode b_X_init 43 = .ok (.putfield 31, 3) := by decide +kernel
theorem d_X_init_46 : decode b_X_init 46 = .ok (.aload_n 0, 1) := by decide +kernel
theorem d_X_init_47 : decode b_X_init 47 = .ok (.aload_n 3, 1) := by decide +kernel
theorem d_X_init_48 : decode b_X_init 48 = .ok (.putfield 35, 3) := by decide +kernel
theorem d_X_init_51 : decode b_X_init 51 = .ok (.aload_n 0, 1) := by decide +kernel
theorem d_X_init_52 : decode b_X_init 52 = .ok (.aload 4, 2) := by decide +kernel
theorem d_X_init_54 : decode b_X_init 54 = .ok (.putfield 39, 3) := by decide +kernel
theorem d_X_init_57 : decode b_X_init 57 = .ok (.aload_n 0, 1) := by decide +kernel
theorem d_X_init_58 : decode b_X_init 58 = .ok (.new 43, 3) := by decide +kernel
theorem d_X_init_61 : decode b_X_init 61 = .ok (.dup, 1) := by decide +kernel
theorem d_X_init_62 : decode b_X_init 62 = .ok (.aload_n 2, 1) := by decide +kernel
theorem d_X_init_63 : decode b_X_init 63 = .ok (.aload_n 3, 1) := by decide +kernel
theorem d_X_init_64 : decode b_X_init 64 = .ok (.aload 4, 2) := by decide +kernel
theorem d_X_init_66 : decode b_X_init 66 = .ok (.invokespecial 45, 3) := by decide +kernel
theorem d_X_init_69 : decode b_X_init 69 = .ok (.putfield 48, 3) := by decide +kernel
theorem d_X_init_72 : decode b_X_init 72 = .ok (.aload_n 0, 1) := by decide +kernel
theorem d_X_init_73 : decode b_X_init 73 = .ok (.bipush 6, 2) := by decide +kernel
theorem d_X_init_75 : decode b_X_init 75 = .ok (.newarray .int, 2) := by decide +kernel
theorem d_X_init_77 : decode b_X_init 77 = .ok (.putfield 52, 3) := by decide +kernel
theorem d_X_init_80 : decode b_X_init 80 = .ok (.aload_n 0, 1) := by decide +kernel
theorem d_X_init_81 : decode b_X_init 81 = .ok (.getfield 52, 3) := by decide +kernel
theorem d_X_init_84 : decode b_X_init 84 = .ok (.iconst (-1), 1) := by decide +kernel
theorem d_X_init_85 : decode b_X_init 85 = .ok (.invokestatic 56, 3) := by decide +kernel
theorem d_X_init_88 : decode b_X_init 88 = .ok (.aload_n 0, 1) := by decide +kernel
theorem d_X_init_89 : decode b_X_init 89 = .ok (.iconst 0, 1) := by decide +kernel
theorem d_X_init_90 : decode b_X_init 90 = .ok (.putfield 62, 3) := by decide +kernel
theorem d_X_init_93 : decode b_X_init 93 = .ok (.return_, 1) := by decide +kernel
theorem d_X_place_0 : decode b_X_place 0 = .ok (.iload_n 1, 1) := by decide +kernel
theorem d_X_place_1 : decode b_X_place 1 = .ok (.iconst 0, 1) := by decide +kernel
theorem d_X_place_2 : decode b_X_place 2 = .ok (.ldc 66, 2) := by decide +kernel
theorem d_X_place_4 : decode b_X_place 4 = .ok (.invokestatic 67, 3) := by decide +kernel
theorem d_X_place_7 : decode b_X_place 7 = .ok (.aload_n 0, 1) := by decide +kernel
theorem d_X_place_8 : decode b_X_place 8 = .ok (.getfield 31, 3) := by decide +kernel
theorem d_X_place_11 : decode b_X_place 11 = .ok (.getfield 71, 3) := by decide +kernel
theorem d_X_place_14 : decode b_X_place 14 = .ok (.iconst 4, 1) := by decide +kernel
theorem d_X_place_15 : decode b_X_place 15 = .ok (.invokestatic 75, 3) := by decide +kernel
theorem d_X_place_18 : decode b_X_place 18 = .ok (.aload_n 0, 1) := by decide +kernel
theorem d_X_place_19 : decode b_X_place 19 = .ok (.invokevirtual 79, 3) := by decide +kernel
theorem d_X_place_22 : decode b_X_place 22 = .ok (.aload_n 0, 1) := by decide +kernel
theorem d_X_place_23 : decode b_X_place 23 = .ok (.getfield 31, 3) := by decide +kernel
theorem d_X_place_26 : decode b_X_place 26 = .ok (.new 82, 3) := by decide +kernel
theorem d_X_place_29 : decode b_X_place 29 = .ok (.dup, 1) := by decide +kernel
theorem d_X_place_30 : decode b_X_place 30 = .ok (.iload_n 1, 1) := by decide +kernel
theorem d_X_place_31 : decode b_X_place 31 = .ok (.aload_n 0, 1) := by decide +kernel
theorem d_X_place_32 : decode b_X_place 32 = .ok (.getfield 31, 3) := by decide +kernel
theorem d_X_place_35 : decode b_X_place 35 = .ok (.getfield 84, 3) := by decide +kernel
theorem d_X_place_38 : decode b_X_place 38 = .ok (.invokespecial 87, 3) := by decide +kernel
theorem d_X_place_41 : decode b_X_place 41 = .ok (.invokevirtual 89, 3) := by decide +kernel
theorem d_X_place_44 : decode b_X_place 44 = .ok (.ireturn, 1) := by decide +kernel
theorem d_X_closed_0 : decode b_X_closed 0 = .ok (.iload_n 1, 1) := by decide +kernel
theorem d_X_closed_1 : decode b_X_closed 1 = .ok (.aload_n 0, 1) := by decide +kernel
theorem d_X_closed_2 : decode b_X_closed 2 = .ok (.getfield 31, 3) := by decide +kernel
theorem d_X_closed_5 : decode b_X_closed 5 = .ok (.getfield 71, 3) := by decide +kernel
theorem d_X_closed_8 : decode b_X_closed 8 = .ok (.invokestatic 93, 3) := by decide +kernel
theorem d_X_closed_11 : decode b_X_closed 11 = .ok (.aload_n 0, 1) := by decide +kernel
theorem d_X_closed_12 : decode b_X_closed 12 = .ok (.iload_n 2, 1) := by decide +kernel
theorem d_X_closed_13 : decode b_X_closed 13 = .ok (.invokevirtual 96, 3) := by decide +kernel
theorem d_X_closed_16 : decode b_X_closed 16 = .ok (.aload_n 0, 1) := by decide +kernel
theorem d_X_closed_17 : decode b_X_closed 17 = .ok (.invokevirtual 79, 3) := by decide +kernel
theorem d_X_closed_20 : decode b_X_closed 20 = .ok (.aload_n 0, 1) := by decide +kernel
theorem d_X_closed_21 : decode b_X_closed 21 = .ok (.getfield 31, 3) := by decide +kernel
theorem d_X_closed_24 : decode b_X_closed 24 = .ok (.getfield 99, 3) := by decide +kernel
theorem d_X_closed_27 : decode b_X_closed 27 = .ok (.iload_n 1, 1) := by decide +kernel
theorem d_X_closed_28 : decode b_X_closed 28 = .ok (.aaload, 1) := by decide +kernel
theorem d_X_closed_29 : decode b_X_closed 29 = .ok (.getfield 103, 3) := by decide +kernel
theorem d_X_closed_32 : decode b_X_closed 32 = .ok (.astore 4, 2) := by decide +kernel
theorem d_X_closed_34 : decode b_X_closed 34 = .ok (.aload 4, 2) := by decide +kernel
theorem d_X_closed_36 : decode b_X_closed 36 = .ok (.iload_n 2, 1) := by decide +kernel
theorem d_X_closed_37 : decode b_X_closed 37 = .ok (.baload, 1) := by decide +kernel
theorem d_X_closed_38 : decode b_X_closed 38 = .ok (.istore 5, 2) := by decide +kernel
theorem d_X_closed_40 : decode b_X_closed 40 = .ok (.aload 4, 2) := by decide +kernel
theorem d_X_closed_42 : decode b_X_closed 42 = .ok (.iload_n 2, 1) := by decide +kernel
theorem d_X_closed_43 : decode b_X_closed 43 = .ok (.iload_n 3, 1) := by decide +kernel
theorem d_X_closed_44 : decode b_X_closed 44 = .ok (.bastore, 1) := by decide +kernel
theorem d_X_closed_45 : decode b_X_closed 45 = .ok (.iload 5, 2) := by decide +kernel
theorem d_X_closed_47 : decode b_X_closed 47 = .ok (.ireturn, 1) := by decide +kernel
theorem d_X_cage_0 : decode b_X_cage 0 = .ok (.iload_n 1, 1) := by decide +kernel
theorem d_X_cage_1 : decode b_X_cage 1 = .ok (.aload_n 0, 1) := by decide +kernel
theorem d_X_cage_2 : decode b_X_cage 2 = .ok (.getfield 31, 3) := by decide +kernel
theorem d_X_cage_5 : decode b_X_cage 5 = .ok (.getfield 71, 3) := by decide +kernel
theorem d_X_cage_8 : decode b_X_cage 8 = .ok (.invokestatic 93, 3) := by decide +kernel
theorem d_X_cage_11 : decode b_X_cage 11 = .ok (.aload_n 0, 1) := by decide +kernel
theorem d_X_cage_12 : decode b_X_cage 12 = .ok (.getfield 31, 3) := by decide +kernel
theorem d_X_cage_15 : decode b_X_cage 15 = .ok (.getfield 107, 3) := by decide +kernel
theorem d_X_cage_18 : decode b_X_cage 18 = .ok (.bipush 6, 2) := by decide +kernel
theorem d_X_cage_20 : decode b_X_cage 20 = .ok (.invokestatic 75, 3) := by decide +kernel
theorem d_X_cage_23 : decode b_X_cage 23 = .ok (.aload_n 0, 1) := by decide +kernel
theorem d_X_cage_24 : decode b_X_cage 24 = .ok (.invokevirtual 79, 3) := by decide +kernel
theorem d_X_cage_27 : decode b_X_cage 27 = .ok (.aload_n 0, 1) := by decide +kernel
theorem d_X_cage_28 : decode b_X_cage 28 = .ok (.getfield 31, 3) := by decide +kernel
theorem d_X_cage_31 : decode b_X_cage 31 = .ok (.new 110, 3) := by decide +kernel
theorem d_X_cage_34 : decode b_X_cage 34 = .ok (.dup, 1) := by decide +kernel
theorem d_X_cage_35 : decode b_X_cage 35 = .ok (.iload_n 1, 1) := by decide +kernel
theorem d_X_cage_36 : decode b_X_cage 36 = .ok (.aload_n 0, 1) := by decide +kernel
theorem d_X_cage_37 : decode b_X_cage 37 = .ok (.getfield 31, 3) := by decide +kernel
theorem d_X_cage_40 : decode b_X_cage 40 = .ok (.getfield 84, 3) := by decide +kernel
theorem d_X_cage_43 : decode b_X_cage 43 = .ok (.invokespecial 112, 3) := by decide +kernel
theorem d_X_cage_46 : decode b_X_cage 46 = .ok (.invokevirtual 113, 3) := by decide +kernel
theorem d_X_cage_49 : decode b_X_cage 49 = .ok (.ireturn, 1) := by decide +kernel
theorem d_X_size_0 : decode b_X_size 0 = .ok (.iload_n 1, 1) := by decide +kernel
theorem d_X_size_1 : decode b_X_size 1 = .ok (.aload_n 0, 1) := by decide +kernel
theorem d_X_size_2 : decode b_X_size 2 = .ok (.getfield 31, 3) := by decide +kernel
theorem d_X_size_5 : decode b_X_size 5 = .ok (.getfield 107, 3) := by decide +kernel
theorem d_X_size_8 : decode b_X_size 8 = .ok (.invokestatic 93, 3) := by decide +kernel
theorem d_X_size_11 : decode b_X_size 11 = .ok (.aload_n 0, 1) := by decide +kernel
theorem d_X_size_12 : decode b_X_size 12 = .ok (.iload_n 2, 1) := by decide +kernel
theorem d_X_size_13 : decode b_X_size 13 = .ok (.invokevirtual 96, 3) := by decide +kernel
theorem d_X_size_16 : decode b_X_size 16 = .ok (.iload_n 3, 1) := by decide +kernel
theorem d_X_size_17 : decode b_X_size 17 = .ok (.iconst 0, 1) := by decide +kernel
theorem d_X_size_18 : decode b_X_size 18 = .ok (.sipush 20000, 3) := by decide +kernel
theorem d_X_size_21 : decode b_X_size 21 = .ok (.invokestatic 67, 3) := by decide +kernel
theorem d_X_size_24 : decode b_X_size 24 = .ok (.iload 4, 2) := by decide +kernel
theorem d_X_size_26 : decode b_X_size 26 = .ok (.iconst 0, 1) := by decide +kernel
theorem d_X_size_27 : decode b_X_size 27 = .ok (.ldc 117, 2) := by decide +kernel
theorem d_X_size_29 : decode b_X_size 29 = .ok (.invokestatic 67, 3) := by decide +kernel
theorem d_X_size_32 : decode b_X_size 32 = .ok (.aload_n 0, 1) := by decide +kernel
theorem d_X_size_33 : decode b_X_size 33 = .ok (.invokevirtual 79, 3) := by decide +kernel
theorem d_X_size_36 : decode b_X_size 36 = .ok (.aload_n 0, 1) := by decide +kernel
theorem d_X_size_37 : decode b_X_size 37 = .ok (.getfield 31, 3) := by decide +kernel
theorem d_X_size_40 : decode b_X_size 40 = .ok (.getfield 118, 3) := by decide +kernel
theorem d_X_size_43 : decode b_X_size 43 = .ok (.iload_n 1, 1) := by decide +kernel
theorem d_X_size_44 : decode b_X_size 44 = .ok (.aaload, 1) := by decide +kernel
theorem d_X_size_45 : decode b_X_size 45 = .ok (.astore 5, 2) := by decide +kernel
theorem d_X_size_47 : decode b_X_size 47 = .ok (.aload 5, 2) := by decide +kernel
theorem d_X_size_49 : decode b_X_size 49 = .ok (.getfield 122, 3) := by decide +kernel
theorem d_X_size_52 : decode b_X_size 52 = .ok (.iload_n 2, 1) := by decide +kernel
theorem d_X_size_53 : decode b_X_size 53 = .ok (.iload_n 3, 1) := by decide +kernel
theorem d_X_size_54 : decode b_X_size 54 = .ok (.iastore, 1) := by decide +kernel
theorem d_X_size_55 : decode b_X_size 55 = .ok (.aload 5, 2) := by decide +kernel
theorem d_X_size_57 : decode b_X_size 57 = .ok (.getfield 125, 3) := by decide +kernel
theorem d_X_size_60 : decode b_X_size 60 = .ok (.iload_n 2, 1) := by decide +kernel
theorem d_X_size_61 : decode b_X_size 61 = .ok (.iload_n 3, 1) := by decide +kernel
theorem d_X_size_62 : decode b_X_size 62 = .ok (.iload 4, 2) := by decide +kernel
theorem d_X_size_64 : decode b_X_size 64 = .ok (.imul, 1) := by decide +kernel
theorem d_X_size_65 : decode b_X_size 65 = .ok (.sipush 1000, 3) := by decide +kernel
theorem d_X_size_68 : decode b_X_size 68 = .ok (.idiv, 1) := by decide +kernel
theorem d_X_size_69 : decode b_X_size 69 = .ok (.iastore, 1) := by decide +kernel
theorem d_X_size_70 : decode b_X_size 70 = .ok (.aload 5, 2) := by decide +kernel
theorem d_X_size_72 : decode b_X_size 72 = .ok (.getfield 125, 3) := by decide +kernel
theorem d_X_size_75 : decode b_X_size 75 = .ok (.iload_n 2, 1) := by decide +kernel
theorem d_X_size_76 : decode b_X_size 76 = .ok (.iaload, 1) := by decide +kernel
theorem d_X_size_77 : decode b_X_size 77 = .ok (.ireturn, 1) := by decide +kernel
theorem d_X_boat_0 : decode b_X_boat 0 = .ok (.iload_n 1, 1) := by decide +kernel
theorem d_X_boat_1 : decode b_X_boat 1 = .ok (.iconst 0, 1) := by decide +kernel
theorem d_X_boat_2 : decode b_X_boat 2 = .ok (.ldc 66, 2) := by decide +kernel
theorem d_X_boat_4 : decode b_X_boat 4 = .ok (.invokestatic 67, 3) := by decide +kernel
theorem d_X_boat_7 : decode b_X_boat 7 = .ok (.aload_n 0, 1) := by decide +kernel
theorem d_X_boat_8 : decode b_X_boat 8 = .ok (.getfield 31, 3) := by decide +kernel
theorem d_X_boat_11 : decode b_X_boat 11 = .ok (.getfield 128, 3) := by decide +kernel
theorem d_X_boat_14 : decode b_X_boat 14 = .ok (.iconst 3, 1) := by decide +kernel
theorem d_X_boat_15 : decode b_X_boat 15 = .ok (.invokestatic 75, 3) := by decide +kernel
theorem d_X_boat_18 : decode b_X_boat 18 = .ok (.aload_n 0, 1) := by decide +kernel
theorem d_X_boat_19 : decode b_X_boat 19 = .ok (.invokevirtual 79, 3) := by decide +kernel
theorem d_X_boat_22 : decode b_X_boat 22 = .ok (.aload_n 0, 1) := by decide +kernel
theorem d_X_boat_23 : decode b_X_boat 23 = .ok (.getfield 31, 3) := by decide +kernel
theorem d_X_boat_26 : decode b_X_boat 26 = .ok (.new 131, 3) := by decide +kernel
theorem d_X_boat_29 : decode b_X_boat 29 = .ok (.dup, 1) := by decide +kernel
theorem d_X_boat_30 : decode b_X_boat 30 = .ok (.iload_n 1, 1) := by decide +kernel
theorem d_X_boat_31 : decode b_X_boat 31 = .ok (.aload_n 0, 1) := by decide +kernel
theorem d_X_boat_32 : decode b_X_boat 32 = .ok (.getfield 31, 3) := by decide +kernel
theorem d_X_boat_35 : decode b_X_boat 35 = .ok (.getfield 84, 3) := by decide +kernel
theorem d_X_boat_38 : decode b_X_boat 38 = .ok (.invokespecial 133, 3) := by decide +kernel
theorem d_X_boat_41 : decode b_X_boat 41 = .ok (.invokevirtual 134, 3) := by decide +kernel
theorem d_X_boat_44 : decode b_X_boat 44 = .ok (.ireturn, 1) := by decide +kernel
theorem d_X_weather_0 : decode b_X_weather 0 = .ok (.iload_n 1, 1) := by decide +kernel
theorem d_X_weather_1 : decode b_X_weather 1 = .ok (.aload_n 0, 1) := by decide +kernel
theorem d_X_weather_2 : decode b_X_weather 2 = .ok (.getfield 31, 3) := by decide +kernel
theorem d_X_weather_5 : decode b_X_weather 5 = .ok (.getfield 128, 3) := by decide +kernel
theorem d_X_weather_8 : decode b_X_weather 8 = .ok (.invokestatic 93, 3) := by decide +kernel
theorem d_X_weather_11 : decode b_X_weather 11 = .ok (.aload_n 0, 1) := by decide +kernel
theorem d_X_weather_12 : decode b_X_weather 12 = .ok (.iload_n 2, 1) := by decide +kernel
theorem d_X_weather_13 : decode b_X_weather 13 = .ok (.invokevirtual 96, 3) := by decide +kernel
theorem d_X_weather_16 : decode b_X_weather 16 = .ok (.aload_n 0, 1) := by decide +kernel
theorem d_X_weather_17 : decode b_X_weather 17 = .ok (.invokevirtual 79, 3) := by decide +kernel
theorem d_X_weather_20 : decode b_X_weather 20 = .ok (.aload_n 0, 1) := by decide +kernel
theorem d_X_weather_21 : decode b_X_weather 21 = .ok (.getfield 31, 3) := by decide +kernel
theorem d_X_weather_24 : decode b_X_weather 24 = .ok (.getfield 138, 3) := by decide +kernel
theorem d_X_weather_27 : decode b_X_weather 27 = .ok (.iload_n 1, 1) := by decide +kernel
theorem d_X_weather_28 : decode b_X_weather 28 = .ok (.aaload, 1) := by decide +kernel
theorem d_X_weather_29 : decode b_X_weather 29 = .ok (.getfield 142, 3) := by decide +kernel
theorem d_X_weather_32 : decode b_X_weather 32 = .ok (.astore 4, 2) := by decide +kernel
theorem d_X_weather_34 : decode b_X_weather 34 = .ok (.aload 4, 2) := by decide +kernel
theorem d_X_weather_36 : decode b_X_weather 36 = .ok (.iload_n 2, 1) := by decide +kernel
theorem d_X_weather_37 : decode b_X_weather 37 = .ok (.baload, 1) := by decide +kernel
theorem d_X_weather_38 : decode b_X_weather 38 = .ok (.istore 5, 2) := by decide +kernel
theorem d_X_weather_40 : decode b_X_weather 40 = .ok (.aload 4, 2) := by decide +kernel
theorem d_X_weather_42 : decode b_X_weather 42 = .ok (.iload_n 2, 1) := by decide +kernel
theorem d_X_weather_43 : decode b_X_weather 43 = .ok (.iload_n 3, 1) := by decide +kernel
theorem d_X_weather_44 : decode b_X_weather 44 = .ok (.bastore, 1) := by decide +kernel
theorem d_X_weather_45 : decode b_X_weather 45 = .ok (.iload 5, 2) := by decide +kernel
theorem d_X_weather_47 : decode b_X_weather 47 = .ok (.ireturn, 1) := by decide +kernel
theorem d_X_plant_0 : decode b_X_plant 0 = .ok (.aload_n 0, 1) := by decide +kernel
theorem d_X_plant_1 : decode b_X_plant 1 = .ok (.iload_n 1, 1) := by decide +kernel
theorem d_X_plant_2 : decode b_X_plant 2 = .ok (.invokevirtual 96, 3) := by decide +kernel
theorem d_X_plant_5 : decode b_X_plant 5 = .ok (.iload_n 2, 1) := by decide +kernel
theorem d_X_plant_6 : decode b_X_plant 6 = .ok (.iconst 0, 1) := by decide +kernel
theorem d_X_plant_7 : decode b_X_plant 7 = .ok (.ldc 66, 2) := by decide +kernel
theorem d_X_plant_9 : decode b_X_plant 9 = .ok (.invokestatic 67, 3) := by decide +kernel
theorem d_X_plant_12 : decode b_X_plant 12 = .ok (.aload_n 0, 1) := by decide +kernel
theorem d_X_plant_13 : decode b_X_plant 13 = .ok (.invokevirtual 79, 3) := by decide +kernel
theorem d_X_plant_16 : decode b_X_plant 16 = .ok (.aload_n 0, 1) := by decide +kernel
theorem d_X_plant_17 : decode b_X_plant 17 = .ok (.getfield 31, 3) := by decide +kernel
theorem d_X_plant_20 : decode b_X_plant 20 = .ok (.getfield 145, 3) := by decide +kernel
theorem d_X_plant_23 : decode b_X_plant 23 = .ok (.iload_n 1, 1) := by decide +kernel
theorem d_X_plant_24 : decode b_X_plant 24 = .ok (.iaload, 1) := by decide +kernel
theorem d_X_plant_25 : decode b_X_plant 25 = .ok (.istore_n 3, 1) := by decide +kernel
theorem d_X_plant_26 : decode b_X_plant 26 = .ok (.aload_n 0, 1) := by decide +kernel
theorem d_X_plant_27 : decode b_X_plant 27 = .ok (.getfield 31, 3) := by decide +kernel
theorem d_X_plant_30 : decode b_X_plant 30 = .ok (.getfield 145, 3) := by decide +kernel
theorem d_X_plant_33 : decode b_X_plant 33 = .ok (.iload_n 1, 1) := by decide +kernel
theorem d_X_plant_34 : decode b_X_plant 34 = .ok (.iload_n 2, 1) := by decide +kernel
theorem d_X_plant_35 : decode b_X_plant 35 = .ok (.iastore, 1) := by decide +kernel
theorem d_X_plant_36 : decode b_X_plant 36 = .ok (.iload_n 3, 1) := by decide +kernel
theorem d_X_plant_37 : decode b_X_plant 37 = .ok (.ireturn, 1) := by decide +kernel
theorem d_X_order_0 : decode b_X_order 0 = .ok (.aload_n 0, 1) := by decide +kernel
theorem d_X_order_1 : decode b_X_order 1 = .ok (.iload_n 1, 1) := by decide +kernel
theorem d_X_order_2 : decode b_X_order 2 = .ok (.invokevirtual 96, 3) := by decide +kernel
theorem d_X_order_5 : decode b_X_order 5 = .ok (.iload_n 3, 1) := by decide +kernel
theorem d_X_order_6 : decode b_X_order 6 = .ok (.iconst 0, 1) := by decide +kernel
theorem d_X_order_7 : decode b_X_order 7 = .ok (.sipush 20000, 3) := by decide +kernel
theorem d_X_order_10 : decode b_X_order 10 = .ok (.invokestatic 67, 3) := by decide +kernel
theorem d_X_order_13 : decode b_X_order 13 = .ok (.iload_n 2, 1) := by decide +kernel
theorem d_X_order_14 : decode b_X_order 14 = .ok (.iconst 0, 1) := by decide +kernel
theorem d_X_order_15 : decode b_X_order 15 = .ok (.iload_n 3, 1) := by decide +kernel
theorem d_X_order_16 : decode b_X_order 16 = .ok (.invokestatic 67, 3) := by decide +kernel
theorem d_X_order_19 : decode b_X_order 19 = .ok (.iload 4, 2) := by decide +kernel
theorem d_X_order_21 : decode b_X_order 21 = .ok (.iconst 0, 1) := by decide +kernel
theorem d_X_order_22 : decode b_X_order 22 = .ok (.ldc 66, 2) := by decide +kernel
theorem d_X_order_24 : decode b_X_order 24 = .ok (.invokestatic 67, 3) := by decide +kernel
theorem d_X_order_27 : decode b_X_order 27 = .ok (.iload 5, 2) := by decide +kernel
theorem d_X_order_29 : decode b_X_order 29 = .ok (.iconst 0, 1) := by decide +kernel
theorem d_X_order_30 : decode b_X_order 30 = .ok (.sipush 10000, 3) := by decide +kernel
theorem d_X_order_33 : decode b_X_order 33 = .ok (.invokestatic 67, 3) := by decide +kernel
theorem d_X_order_36 : decode b_X_order 36 = .ok (.aload_n 0, 1) := by decide +kernel
theorem d_X_order_37 : decode b_X_order 37 = .ok (.getfield 31, 3) := by decide +kernel
theorem d_X_order_40 : decode b_X_order 40 = .ok (.getfield 148, 3) := by decide +kernel
theorem d_X_order_43 : decode b_X_order 43 = .ok (.bipush 6, 2) := by decide +kernel
theorem d_X_order_45 : decode b_X_order 45 = .ok (.invokestatic 75, 3) := by decide +kernel
theorem d_X_order_48 : decode b_X_order 48 = .ok (.aload_n 0, 1) := by decide +kernel
theorem d_X_order_49 : decode b_X_order 49 = .ok (.invokevirtual 79, 3) := by decide +kernel
theorem d_X_order_52 : decode b_X_order 52 = .ok (.aload_n 0, 1) := by decide +kernel
theorem d_X_order_53 : decode b_X_order 53 = .ok (.getfield 31, 3) := by decide +kernel
theorem d_X_order_56 : decode b_X_order 56 = .ok (.new 151, 3) := by decide +kernel
theorem d_X_order_59 : decode b_X_order 59 = .ok (.dup, 1) := by decide +kernel
theorem d_X_order_60 : decode b_X_order 60 = .ok (.iload_n 1, 1) := by decide +kernel
theorem d_X_order_61 : decode b_X_order 61 = .ok (.iload_n 2, 1) := by decide +kernel
theorem d_X_order_62 : decode b_X_order 62 = .ok (.iload_n 3, 1) := by decide +kernel
theorem d_X_order_63 : decode b_X_order 63 = .ok (.iload 4, 2) := by decide +kernel
theorem d_X_order_65 : decode b_X_order 65 = .ok (.iload 5, 2) := by decide +kernel
theorem d_X_order_67 : decode b_X_order 67 = .ok (.invokespecial 153, 3) := by decide +kernel
theorem d_X_order_70 : decode b_X_order 70 = .ok (.invokevirtual 156, 3) := by decide +kernel
theorem d_X_order_73 : decode b_X_order 73 = .ok (.ireturn, 1) := by decide +kernel
theorem d_X_prices_0 : decode b_X_prices 0 = .ok (.iload_n 1, 1) := by decide +kernel
theorem d_X_prices_1 : decode b_X_prices 1 = .ok (.iconst 0, 1) := by decide +kernel
theorem d_X_prices_2 : decode b_X_prices 2 = .ok (.sipush 10000, 3) := by decide +kernel
theorem d_X_prices_5 : decode b_X_prices 5 = .ok (.invokestatic 67, 3) := by decide +kernel
theorem d_X_prices_8 : decode b_X_prices 8 = .ok (.iload_n 2, 1) := by decide +kernel
theorem d_X_prices_9 : decode b_X_prices 9 = .ok (.iconst 0, 1) := by decide +kernel
theorem d_X_prices_10 : decode b_X_prices 10 = .ok (.sipush 10000, 3) := by decide +kernel
theorem d_X_prices_13 : decode b_X_prices 13 = .ok (.invokestatic 67, 3) := by decide +kernel
theorem d_X_prices_16 : decode b_X_prices 16 = .ok (.aload_n 0, 1) := by decide +kernel
theorem d_X_prices_17 : decode b_X_prices 17 = .ok (.invokevirtual 79, 3) := by decide +kernel
theorem d_X_prices_20 : decode b_X_prices 20 = .ok (.aload_n 0, 1) := by decide +kernel
theorem d_X_prices_21 : decode b_X_prices 21 = .ok (.getfield 31, 3) := by decide +kernel
theorem d_X_prices_24 : decode b_X_prices 24 = .ok (.iload_n 1, 1) := by decide +kernel
theorem d_X_prices_25 : decode b_X_prices 25 = .ok (.putfield 160, 3) := by decide +kernel
theorem d_X_prices_28 : decode b_X_prices 28 = .ok (.aload_n 0, 1) := by decide +kernel
theorem d_X_prices_29 : decode b_X_prices 29 = .ok (.getfield 31, 3) := by decide +kernel
theorem d_X_prices_32 : decode b_X_prices 32 = .ok (.iload_n 2, 1) := by decide +kernel
theorem d_X_prices_33 : decode b_X_prices 33 = .ok (.putfield 163, 3) := by decide +kernel
theorem d_X_prices_36 : decode b_X_prices 36 = .ok (.return_, 1) := by decide +kernel
theorem d_X_run_0 : decode b_X_run 0 = .ok (.iload_n 1, 1) := by decide +kernel
theorem d_X_run_1 : decode b_X_run 1 = .ok (.iconst 1, 1) := by decide +kernel
theorem d_X_run_2 : decode b_X_run 2 = .ok (.sipush 5000, 3) := by decide +kernel
theorem d_X_run_5 : decode b_X_run 5 = .ok (.invokestatic 67, 3) := by decide +kernel
theorem d_X_run_8 : decode b_X_run 8 = .ok (.aload_n 0, 1) := by decide +kernel
theorem d_X_run_9 : decode b_X_run 9 = .ok (.invokevirtual 79, 3) := by decide +kernel
theorem d_X_run_12 : decode b_X_run 12 = .ok (.aload_n 0, 1) := by decide +kernel
theorem d_X_run_13 : decode b_X_run 13 = .ok (.getfield 48, 3) := by decide +kernel
theorem d_X_run_16 : decode b_X_run 16 = .ok (.iload_n 1, 1) := by decide +kernel
theorem d_X_run_17 : decode b_X_run 17 = .ok (.invokevirtual 166, 3) := by decide +kernel
theorem d_X_run_20 : decode b_X_run 20 = .ok (.aload_n 0, 1) := by decide +kernel
theorem d_X_run_21 : decode b_X_run 21 = .ok (.getfield 48, 3) := by decide +kernel
theorem d_X_run_24 : decode b_X_run 24 = .ok (.invokevirtual 169, 3) := by decide +kernel
theorem d_X_run_27 : decode b_X_run 27 = .ok (.ifCond .ne 19, 3) := by decide +kernel
theorem d_X_run_30 : decode b_X_run 30 = .ok (.aload_n 0, 1) := by decide +kernel
theorem d_X_run_31 : decode b_X_run 31 = .ok (.getfield 48, 3) := by decide +kernel
theorem d_X_run_34 : decode b_X_run 34 = .ok (.getfield 173, 3) := by decide +kernel
theorem d_X_run_37 : decode b_X_run 37 = .ok (.ifCond .eq 7, 3) := by decide +kernel
theorem d_X_run_40 : decode b_X_run 40 = .ok (.iconst 3, 1) := by decide +kernel
theorem d_X_run_41 : decode b_X_run 41 = .ok (.goto 4, 3) := by decide +kernel
theorem d_X_run_44 : decode b_X_run 44 = .ok (.iconst 2, 1) := by decide +kernel
theorem d_X_run_45 : decode b_X_run 45 = .ok (.ireturn, 1) := by decide +kernel
theorem d_X_run_46 : decode b_X_run 46 = .ok (.aload_n 0, 1) := by decide +kernel
theorem d_X_run_47 : decode b_X_run 47 = .ok (.getfield 48, 3) := by decide +kernel
theorem d_X_run_50 : decode b_X_run 50 = .ok (.getfield 176, 3) := by decide +kernel
theorem d_X_run_53 : decode b_X_run 53 = .ok (.iconst 0, 1) := by decide +kernel
theorem d_X_run_54 : decode b_X_run 54 = .ok (.aload_n 0, 1) := by decide +kernel
theorem d_X_run_55 : decode b_X_run 55 = .ok (.getfield 52, 3) := by decide +kernel
theorem d_X_run_58 : decode b_X_run 58 = .ok (.iconst 0, 1) := by decide +kernel
theorem d_X_run_59 : decode b_X_run 59 = .ok (.bipush 6, 2) := by decide +kernel
theorem d_X_run_61 : decode b_X_run 61 = .ok (.invokestatic 179, 3) := by decide +kernel
theorem d_X_run_64 : decode b_X_run 64 = .ok (.aload_n 0, 1) := by decide +kernel
theorem d_X_run_65 : decode b_X_run 65 = .ok (.iconst 1, 1) := by decide +kernel
theorem d_X_run_66 : decode b_X_run 66 = .ok (.putfield 62, 3) := by decide +kernel
theorem d_X_run_69 : decode b_X_run 69 = .ok (.aload_n 0, 1) := by decide +kernel
theorem d_X_run_70 : decode b_X_run 70 = .ok (.getfield 48, 3) := by decide +kernel
theorem d_X_run_73 : decode b_X_run 73 = .ok (.getfield 173, 3) := by decide +kernel
theorem d_X_run_76 : decode b_X_run 76 = .ok (.ifCond .eq 7, 3) := by decide +kernel
theorem d_X_run_79 : decode b_X_run 79 = .ok (.iconst 1, 1) := by decide +kernel
theorem d_X_run_80 : decode b_X_run 80 = .ok (.goto 4, 3) := by decide +kernel
theorem d_X_run_83 : decode b_X_run 83 = .ok (.iconst 0, 1) := by decide +kernel
theorem d_X_run_84 : decode b_X_run 84 = .ok (.ireturn, 1) := by decide +kernel
theorem d_X_nodes_0 : decode b_X_nodes 0 = .ok (.aload_n 0, 1) := by decide +kernel
theorem d_X_nodes_1 : decode b_X_nodes 1 = .ok (.getfield 48, 3) := by decide +kernel
theorem d_X_nodes_4 : decode b_X_nodes 4 = .ok (.getfield 185, 3) := by decide +kernel
theorem d_X_nodes_7 : decode b_X_nodes 7 = .ok (.ireturn, 1) := by decide +kernel
theorem d_X_hope_0 : decode b_X_hope 0 = .ok (.aload_n 0, 1) := by decide +kernel
theorem d_X_hope_1 : decode b_X_hope 1 = .ok (.getfield 48, 3) := by decide +kernel
theorem d_X_hope_4 : decode b_X_hope 4 = .ok (.invokevirtual 188, 3) := by decide +kernel
theorem d_X_hope_7 : decode b_X_hope 7 = .ok (.lreturn, 1) := by decide +kernel
theorem d_X_move_0 : decode b_X_move 0 = .ok (.iload_n 1, 1) := by decide +kernel
theorem d_X_move_1 : decode b_X_move 1 = .ok (.aload_n 0, 1) := by decide +kernel
theorem d_X_move_2 : decode b_X_move 2 = .ok (.getfield 31, 3) := by decide +kernel
theorem d_X_move_5 : decode b_X_move 5 = .ok (.getfield 107, 3) := by decide +kernel
theorem d_X_move_8 : decode b_X_move 8 = .ok (.invokestatic 93, 3) := by decide +kernel
theorem d_X_move_11 : decode b_X_move 11 = .ok (.iload_n 2, 1) := by decide +kernel
theorem d_X_move_12 : decode b_X_move 12 = .ok (.iconst (-1), 1) := by decide +kernel
theorem d_X_move_13 : decode b_X_move 13 = .ok (.if_icmp .eq 8, 3) := by decide +kernel
theorem d_X_move_16 : decode b_X_move 16 = .ok (.aload_n 0, 1) := by decide +kernel
theorem d_X_move_17 : decode b_X_move 17 = .ok (.iload_n 2, 1) := by decide +kernel
theorem d_X_move_18 : decode b_X_move 18 = .ok (.invokevirtual 96, 3) := by decide +kernel
theorem d_X_move_21 : decode b_X_move 21 = .ok (.aload_n 0, 1) := by decide +kernel
theorem d_X_move_22 : decode b_X_move 22 = .ok (.getfield 52, 3) := by decide +kernel
theorem d_X_move_25 : decode b_X_move 25 = .ok (.iload_n 1, 1) := by decide +kernel
theorem d_X_move_26 : decode b_X_move 26 = .ok (.iaload, 1) := by decide +kernel
theorem d_X_move_27 : decode b_X_move 27 = .ok (.istore_n 3, 1) := by decide +kernel
theorem d_X_move_28 : decode b_X_move 28 = .ok (.aload_n 0, 1) := by decide +kernel
theorem d_X_move_29 : decode b_X_move 29 = .ok (.getfield 52, 3) := by decide +kernel
theorem d_X_move_32 : decode b_X_move 32 = .ok (.iload_n 1, 1) := by decide +kernel
theorem d_X_move_33 : decode b_X_move 33 = .ok (.iload_n 2, 1) := by decide +kernel
theorem d_X_move_34 : decode b_X_move 34 = .ok (.iastore, 1) := by decide +kernel
theorem d_X_move_35 : decode b_X_move 35 = .ok (.aload_n 0, 1) := by decide +kernel
theorem d_X_move_36 : decode b_X_move 36 = .ok (.iconst 1, 1) := by decide +kernel
theorem d_X_move_37 : decode b_X_move 37 = .ok (.putfield 62, 3) := by decide +kernel
theorem d_X_move_40 : decode b_X_move 40 = .ok (.iload_n 3, 1) := by decide +kernel
theorem d_X_move_41 : decode b_X_move 41 = .ok (.ireturn, 1) := by decide +kernel
theorem d_X_taken_0 : decode b_X_taken 0 = .ok (.iload_n 1, 1) := by decide +kernel
theorem d_X_taken_1 : decode b_X_taken 1 = .ok (.aload_n 0, 1) := by decide +kernel
theorem d_X_taken_2 : decode b_X_taken 2 = .ok (.getfield 31, 3) := by decide +kernel
theorem d_X_taken_5 : decode b_X_taken 5 = .ok (.getfield 107, 3) := by decide +kernel
theorem d_X_taken_8 : decode b_X_taken 8 = .ok (.invokestatic 93, 3) := by decide +kernel
theorem d_X_taken_11 : decode b_X_taken 11 = .ok (.aload_n 0, 1) := by decide +kernel
theorem d_X_taken_12 : decode b_X_taken 12 = .ok (.getfield 52, 3) := by decide +kernel
theorem d_X_taken_15 : decode b_X_taken 15 = .ok (.iload_n 1, 1) := by decide +kernel
theorem d_X_taken_16 : decode b_X_taken 16 = .ok (.iaload, 1) := by decide +kernel
theorem d_X_taken_17 : decode b_X_taken 17 = .ok (.ireturn, 1) := by decide +kernel
theorem d_X_check_0 : decode b_X_check 0 = .ok (.aload_n 0, 1) := by decide +kernel
theorem d_X_check_1 : decode b_X_check 1 = .ok (.invokevirtual 192, 3) := by decide +kernel
theorem d_X_check_4 : decode b_X_check 4 = .ok (.iconst 0, 1) := by decide +kernel
theorem d_X_check_5 : decode b_X_check 5 = .ok (.istore_n 1, 1) := by decide +kernel
theorem d_X_check_6 : decode b_X_check 6 = .ok (.iload_n 1, 1) := by decide +kernel
theorem d_X_check_7 : decode b_X_check 7 = .ok (.aload_n 0, 1) := by decide +kernel
theorem d_X_check_8 : decode b_X_check 8 = .ok (.getfield 31, 3) := by decide +kernel
theorem d_X_check_11 : decode b_X_check 11 = .ok (.getfield 84, 3) := by decide +kernel
theorem d_X_check_14 : decode b_X_check 14 = .ok (.if_icmp .ge 33, 3) := by decide +kernel
theorem d_X_check_17 : decode b_X_check 17 = .ok (.aload_n 0, 1) := by decide +kernel
theorem d_X_check_18 : decode b_X_check 18 = .ok (.getfield 35, 3) := by decide +kernel
theorem d_X_check_21 : decode b_X_check 21 = .ok (.aload_n 0, 1) := by decide +kernel
theorem d_X_check_22 : decode b_X_check 22 = .ok (.getfield 52, 3) := by decide +kernel
theorem d_X_check_25 : decode b_X_check 25 = .ok (.iload_n 1, 1) := by decide +kernel
theorem d_X_check_26 : decode b_X_check 26 = .ok (.invokevirtual 195, 3) := by decide +kernel
theorem d_X_check_29 : decode b_X_check 29 = .ok (.istore_n 2, 1) := by decide +kernel
theorem d_X_check_30 : decode b_X_check 30 = .ok (.iload_n 2, 1) := by decide +kernel
theorem d_X_check_31 : decode b_X_check 31 = .ok (.ifCond .eq 10, 3) := by decide +kernel
theorem d_X_check_34 : decode b_X_check 34 = .ok (.bipush 10, 2) := by decide +kernel
theorem d_X_check_36 : decode b_X_check 36 = .ok (.iload_n 1, 1) := by decide +kernel
theorem d_X_check_37 : decode b_X_check 37 = .ok (.imul, 1) := by decide +kernel
theorem d_X_check_38 : decode b_X_check 38 = .ok (.iload_n 2, 1) := by decide +kernel
theorem d_X_check_39 : decode b_X_check 39 = .ok (.iadd, 1) := by decide +kernel
theorem d_X_check_40 : decode b_X_check 40 = .ok (.ireturn, 1) := by decide +kernel
theorem d_X_check_41 : decode b_X_check 41 = .ok (.iinc 1 1, 3) := by decide +kernel
theorem d_X_check_44 : decode b_X_check 44 = .ok (.goto (-38), 3) := by decide +kernel
theorem d_X_check_47 : decode b_X_check 47 = .ok (.iconst 0, 1) := by decide +kernel
theorem d_X_check_48 : decode b_X_check 48 = .ok (.ireturn, 1) := by decide +kernel
theorem d_X_worth_0 : decode b_X_worth 0 = .ok (.aload_n 0, 1) := by decide +kernel
theorem d_X_worth_1 : decode b_X_worth 1 = .ok (.invokevirtual 192, 3) := by decide +kernel
theorem d_X_worth_4 : decode b_X_worth 4 = .ok (.aload_n 0, 1) := by decide +kernel
theorem d_X_worth_5 : decode b_X_worth 5 = .ok (.getfield 39, 3) := by decide +kernel
theorem d_X_worth_8 : decode b_X_worth 8 = .ok (.aload_n 0, 1) := by decide +kernel
theorem d_X_worth_9 : decode b_X_worth 9 = .ok (.getfield 52, 3) := by decide +kernel
theorem d_X_worth_12 : decode b_X_worth 12 = .ok (.invokevirtual 199, 3) := by decide +kernel
theorem d_X_worth_15 : decode b_X_worth 15 = .ok (.lreturn, 1) := by decide +kernel
theorem d_X_sold_0 : decode b_X_sold 0 = .ok (.iload_n 1, 1) := by decide +kernel
theorem d_X_sold_1 : decode b_X_sold 1 = .ok (.aload_n 0, 1) := by decide +kernel
theorem d_X_sold_2 : decode b_X_sold 2 = .ok (.getfield 31, 3) := by decide +kernel
theorem d_X_sold_5 : decode b_X_sold 5 = .ok (.getfield 148, 3) := by decide +kernel
theorem d_X_sold_8 : decode b_X_sold 8 = .ok (.invokestatic 93, 3) := by decide +kernel
theorem d_X_sold_11 : decode b_X_sold 11 = .ok (.aload_n 0, 1) := by decide +kernel
theorem d_X_sold_12 : decode b_X_sold 12 = .ok (.invokevirtual 192, 3) := by decide +kernel
theorem d_X_sold_15 : decode b_X_sold 15 = .ok (.aload_n 0, 1) := by decide +kernel
theorem d_X_sold_16 : decode b_X_sold 16 = .ok (.getfield 39, 3) := by decide +kernel
theorem d_X_sold_19 : decode b_X_sold 19 = .ok (.aload_n 0, 1) := by decide +kernel
theorem d_X_sold_20 : decode b_X_sold 20 = .ok (.getfield 52, 3) := by decide +kernel
theorem d_X_sold_23 : decode b_X_sold 23 = .ok (.invokevirtual 199, 3) := by decide +kernel
theorem d_X_sold_26 : decode b_X_sold 26 = .ok (.pop2, 1) := by decide +kernel
theorem d_X_sold_27 : decode b_X_sold 27 = .ok (.aload_n 0, 1) := by decide +kernel
theorem d_X_sold_28 : decode b_X_sold 28 = .ok (.getfield 39, 3) := by decide +kernel
theorem d_X_sold_31 : decode b_X_sold 31 = .ok (.getfield 203, 3) := by decide +kernel
theorem d_X_sold_34 : decode b_X_sold 34 = .ok (.iload_n 1, 1) := by decide +kernel
theorem d_X_sold_35 : decode b_X_sold 35 = .ok (.iaload, 1) := by decide +kernel
theorem d_X_sold_36 : decode b_X_sold 36 = .ok (.ireturn, 1) := by decide +kernel
theorem d_X_forgetPlan_0 : decode b_X_forgetPlan 0 = .ok (.aload_n 0, 1) := by decide +kernel
theorem d_X_forgetPlan_1 : decode b_X_forgetPlan 1 = .ok (.getfield 52, 3) := by decide +kernel
theorem d_X_forgetPlan_4 : decode b_X_forgetPlan 4 = .ok (.iconst (-1), 1) := by decide +kernel
theorem d_X_forgetPlan_5 : decode b_X_forgetPlan 5 = .ok (.invokestatic 56, 3) := by decide +kernel
theorem d_X_forgetPlan_8 : decode b_X_forgetPlan 8 = .ok (.aload_n 0, 1) := by decide +kernel
theorem d_X_forgetPlan_9 : decode b_X_forgetPlan 9 = .ok (.iconst 0, 1) := by decide +kernel
theorem d_X_forgetPlan_10 : decode b_X_forgetPlan 10 = .ok (.putfield 62, 3) := by decide +kernel
theorem d_X_forgetPlan_13 : decode b_X_forgetPlan 13 = .ok (.return_, 1) := by decide +kernel
theorem d_X_requirePlan_0 : decode b_X_requirePlan 0 = .ok (.aload_n 0, 1) := by decide +kernel
theorem d_X_requirePlan_1 : decode b_X_requirePlan 1 = .ok (.getfield 62, 3) := by decide +kernel
theorem d_X_requirePlan_4 : decode b_X_requirePlan 4 = .ok (.ifCond .ne 13, 3) := by decide +kernel
theorem d_X_requirePlan_7 : decode b_X_requirePlan 7 = .ok (.new 206, 3) := by decide +kernel
theorem d_X_requirePlan_10 : decode b_X_requirePlan 10 = .ok (.dup, 1) := by decide +kernel
theorem d_X_requirePlan_11 : decode b_X_requirePlan 11 = .ok (.ldc 208, 2) := by decide +kernel
theorem d_X_requirePlan_13 : decode b_X_requirePlan 13 = .ok (.invokespecial 210, 3) := by decide +kernel
theorem d_X_requirePlan_16 : decode b_X_requirePlan 16 = .ok (.athrow, 1) := by decide +kernel
theorem d_X_requirePlan_17 : decode b_X_requirePlan 17 = .ok (.return_, 1) := by decide +kernel
theorem d_X_requireWeek_0 : decode b_X_requireWeek 0 = .ok (.iload_n 1, 1) := by decide +kernel
theorem d_X_requireWeek_1 : decode b_X_requireWeek 1 = .ok (.aload_n 0, 1) := by decide +kernel
theorem d_X_requireWeek_2 : decode b_X_requireWeek 2 = .ok (.getfield 31, 3) := by decide +kernel
theorem d_X_requireWeek_5 : decode b_X_requireWeek 5 = .ok (.getfield 84, 3) := by decide +kernel
theorem d_X_requireWeek_8 : decode b_X_requireWeek 8 = .ok (.invokestatic 93, 3) := by decide +kernel
theorem d_X_requireWeek_11 : decode b_X_requireWeek 11 = .ok (.return_, 1) := by decide +kernel
theorem d_X_requireOneOf_0 : decode b_X_requireOneOf 0 = .ok (.iload_n 0, 1) := by decide +kernel
theorem d_X_requireOneOf_1 : decode b_X_requireOneOf 1 = .ok (.ifCond .lt 8, 3) := by decide +kernel
theorem d_X_requireOneOf_4 : decode b_X_requireOneOf 4 = .ok (.iload_n 0, 1) := by decide +kernel
theorem d_X_requireOneOf_5 : decode b_X_requireOneOf 5 = .ok (.iload_n 1, 1) := by decide +kernel
theorem d_X_requireOneOf_6 : decode b_X_requireOneOf 6 = .ok (.if_icmp .lt 13, 3) := by decide +kernel
theorem d_X_requireOneOf_9 : decode b_X_requireOneOf 9 = .ok (.new 213, 3) := by decide +kernel
theorem d_X_requireOneOf_12 : decode b_X_requireOneOf 12 = .ok (.dup, 1) := by decide +kernel
theorem d_X_requireOneOf_13 : decode b_X_requireOneOf 13 = .ok (.ldc 215, 2) := by decide +kernel
theorem d_X_requireOneOf_15 : decode b_X_requireOneOf 15 = .ok (.invokespecial 217, 3) := by decide +kernel
theorem d_X_requireOneOf_18 : decode b_X_requireOneOf 18 = .ok (.athrow, 1) := by decide +kernel
theorem d_X_requireOneOf_19 : decode b_X_requireOneOf 19 = .ok (.return_, 1) := by decide +kernel
theorem d_X_requireWithin_0 : decode b_X_requireWithin 0 = .ok (.iload_n 0, 1) := by decide +kernel
theorem d_X_requireWithin_1 : decode b_X_requireWithin 1 = .ok (.iload_n 1, 1) := by decide +kernel
theorem d_X_requireWithin_2 : decode b_X_requireWithin 2 = .ok (.if_icmp .lt 8, 3) := by decide +kernel
theorem d_X_requireWithin_5 : decode b_X_requireWithin 5 = .ok (.iload_n 0, 1) := by decide +kernel
theorem d_X_requireWithin_6 : decode b_X_requireWithin 6 = .ok (.iload_n 2, 1) := by decide +kernel
theorem d_X_requireWithin_7 : decode b_X_requireWithin 7 = .ok (.if_icmp .le 13, 3) := by decide +kernel
theorem d_X_requireWithin_10 : decode b_X_requireWithin 10 = .ok (.new 213, 3) := by decide +kernel
theorem d_X_requireWithin_13 : decode b_X_requireWithin 13 = .ok (.dup, 1) := by decide +kernel
theorem d_X_requireWithin_14 : decode b_X_requireWithin 14 = .ok (.ldc 218, 2) := by decide +kernel
theorem d_X_requireWithin_16 : decode b_X_requireWithin 16 = .ok (.invokespecial 217, 3) := by decide +kernel
theorem d_X_requireWithin_19 : decode b_X_requireWithin 19 = .ok (.athrow, 1) := by decide +kernel
theorem d_X_requireWithin_20 : decode b_X_requireWithin 20 = .ok (.return_, 1) := by decide +kernel
theorem d_X_requireRoom_0 : decode b_X_requireRoom 0 = .ok (.iload_n 0, 1) := by decide +kernel
theorem d_X_requireRoom_1 : decode b_X_requireRoom 1 = .ok (.iload_n 1, 1) := by decide +kernel
theorem d_X_requireRoom_2 : decode b_X_requireRoom 2 = .ok (.if_icmp .lt 13, 3) := by decide +kernel
theorem d_X_requireRoom_5 : decode b_X_requireRoom 5 = .ok (.new 206, 3) := by decide +kernel
theorem d_X_requireRoom_8 : decode b_X_requireRoom 8 = .ok (.dup, 1) := by decide +kernel
theorem d_X_requireRoom_9 : decode b_X_requireRoom 9 = .ok (.ldc 220, 2) := by decide +kernel
theorem d_X_requireRoom_11 : decode b_X_requireRoom 11 = .ok (.invokespecial 210, 3) := by decide +kernel
theorem d_X_requireRoom_14 : decode b_X_requireRoom 14 = .ok (.athrow, 1) := by decide +kernel
theorem d_X_requireRoom_15 : decode b_X_requireRoom 15 = .ok (.return_, 1) := by decide +kernel
theorem d_Boat_init_0 : decode b_Boat_init 0 = .ok (.aload_n 0, 1) := by decide +kernel
theorem d_Boat_init_1 : decode b_Boat_init 1 = .ok (.invokespecial 1, 3) := by decide +kernel
theorem d_Boat_init_4 : decode b_Boat_init 4 = .ok (.aload_n 0, 1) := by decide +kernel
theorem d_Boat_init_5 : decode b_Boat_init 5 = .ok (.iload_n 1, 1) := by decide +kernel
theorem d_Boat_init_6 : decode b_Boat_init 6 = .ok (.putfield 7, 3) := by decide +kernel
theorem d_Boat_init_9 : decode b_Boat_init 9 = .ok (.aload_n 0, 1) := by decide +kernel
theorem d_Boat_init_10 : decode b_Boat_init 10 = .ok (.iload_n 2, 1) := by decide +kernel
theorem d_Boat_init_11 : decode b_Boat_init 11 = .ok (.newarray .boolean, 2) := by decide +kernel
theorem d_Boat_init_13 : decode b_Boat_init 13 = .ok (.putfield 13, 3) := by decide +kernel
theorem d_Boat_init_16 : decode b_Boat_init 16 = .ok (.return_, 1) := by decide +kernel
theorem d_Cage_init_0 : decode b_Cage_init 0 = .ok (.aload_n 0, 1) := by decide +kernel
theorem d_Cage_init_1 : decode b_Cage_init 1 = .ok (.invokespecial 1, 3) := by decide +kernel
theorem d_Cage_init_4 : decode b_Cage_init 4 = .ok (.aload_n 0, 1) := by decide +kernel
theorem d_Cage_init_5 : decode b_Cage_init 5 = .ok (.iload_n 1, 1) := by decide +kernel
theorem d_Cage_init_6 : decode b_Cage_init 6 = .ok (.putfield 7, 3) := by decide +kernel
theorem d_Cage_init_9 : decode b_Cage_init 9 = .ok (.aload_n 0, 1) := by decide +kernel
theorem d_Cage_init_10 : decode b_Cage_init 10 = .ok (.iload_n 2, 1) := by decide +kernel
theorem d_Cage_init_11 : decode b_Cage_init 11 = .ok (.newarray .int, 2) := by decide +kernel
theorem d_Cage_init_13 : decode b_Cage_init 13 = .ok (.putfield 13, 3) := by decide +kernel
theorem d_Cage_init_16 : decode b_Cage_init 16 = .ok (.aload_n 0, 1) := by decide +kernel
theorem d_Cage_init_17 : decode b_Cage_init 17 = .ok (.iload_n 2, 1) := by decide +kernel
theorem d_Cage_init_18 : decode b_Cage_init 18 = .ok (.newarray .int, 2) := by decide +kernel
theorem d_Cage_init_20 : decode b_Cage_init 20 = .ok (.putfield 17, 3) := by decide +kernel
theorem d_Cage_init_23 : decode b_Cage_init 23 = .ok (.return_, 1) := by decide +kernel
theorem d_Farm_init_0 : decode b_Farm_init 0 = .ok (.aload_n 0, 1) := by decide +kernel
theorem d_Farm_init_1 : decode b_Farm_init 1 = .ok (.invokespecial 3, 3) := by decide +kernel
theorem d_Farm_init_4 : decode b_Farm_init 4 = .ok (.aload_n 0, 1) := by decide +kernel
theorem d_Farm_init_5 : decode b_Farm_init 5 = .ok (.iconst 4, 1) := by decide +kernel
theorem d_Farm_init_6 : decode b_Farm_init 6 = .ok (.anewarray 9, 3) := by decide +kernel
theorem d_Farm_init_9 : decode b_Farm_init 9 = .ok (.putfield 11, 3) := by decide +kernel
theorem d_Farm_init_12 : decode b_Farm_init 12 = .ok (.aload_n 0, 1) := by decide +kernel
theorem d_Farm_init_13 : decode b_Farm_init 13 = .ok (.bipush 6, 2) := by decide +kernel
theorem d_Farm_init_15 : decode b_Farm_init 15 = .ok (.anewarray 17, 3) := by decide +kernel
theorem d_Farm_init_18 : decode b_Farm_init 18 = .ok (.putfield 19, 3) := by decide +kernel
theorem d_Farm_init_21 : decode b_Farm_init 21 = .ok (.aload_n 0, 1) := by decide +kernel
theorem d_Farm_init_22 : decode b_Farm_init 22 = .ok (.iconst 3, 1) := by decide +kernel
theorem d_Farm_init_23 : decode b_Farm_init 23 = .ok (.anewarray 23, 3) := by decide +kernel
theorem d_Farm_init_26 : decode b_Farm_init 26 = .ok (.putfield 25, 3) := by decide +kernel
theorem d_Farm_init_29 : decode b_Farm_init 29 = .ok (.aload_n 0, 1) := by decide +kernel
theorem d_Farm_init_30 : decode b_Farm_init 30 = .ok (.bipush 6, 2) := by decide +kernel
theorem d_Farm_init_32 : decode b_Farm_init 32 = .ok (.anewarray 29, 3) := by decide +kernel
theorem d_Farm_init_35 : decode b_Farm_init 35 = .ok (.putfield 31, 3) := by decide +kernel
theorem d_Farm_init_38 : decode b_Farm_init 38 = .ok (.aload_n 0, 1) := by decide +kernel
theorem d_Farm_init_39 : decode b_Farm_init 39 = .ok (.bipush 6, 2) := by decide +kernel
theorem d_Farm_init_41 : decode b_Farm_init 41 = .ok (.newarray .int, 2) := by decide +kernel
theorem d_Farm_init_43 : decode b_Farm_init 43 = .ok (.putfield 35, 3) := by decide +kernel
theorem d_Farm_init_46 : decode b_Farm_init 46 = .ok (.aload_n 0, 1) := by decide +kernel
theorem d_Farm_init_47 : decode b_Farm_init 47 = .ok (.iload_n 1, 1) := by decide +kernel
theorem d_Farm_init_48 : decode b_Farm_init 48 = .ok (.putfield 39, 3) := by decide +kernel
theorem d_Farm_init_51 : decode b_Farm_init 51 = .ok (.aload_n 0, 1) := by decide +kernel
theorem d_Farm_init_52 : decode b_Farm_init 52 = .ok (.iload_n 1, 1) := by decide +kernel
theorem d_Farm_init_53 : decode b_Farm_init 53 = .ok (.newarray .int, 2) := by decide +kernel
theorem d_Farm_init_55 : decode b_Farm_init 55 = .ok (.putfield 43, 3) := by decide +kernel
theorem d_Farm_init_58 : decode b_Farm_init 58 = .ok (.return_, 1) := by decide +kernel
theorem d_Farm_addPlace_0 : decode b_Farm_addPlace 0 = .ok (.aload_n 0, 1) := by decide +kernel
theorem d_Farm_addPlace_1 : decode b_Farm_addPlace 1 = .ok (.getfield 11, 3) := by decide +kernel
theorem d_Farm_addPlace_4 : decode b_Farm_addPlace 4 = .ok (.aload_n 0, 1) := by decide +kernel
theorem d_Farm_addPlace_5 : decode b_Farm_addPlace 5 = .ok (.getfield 46, 3) := by decide +kernel
theorem d_Farm_addPlace_8 : decode b_Farm_addPlace 8 = .ok (.aload_n 1, 1) := by decide +kernel
theorem d_Farm_addPlace_9 : decode b_Farm_addPlace 9 = .ok (.aastore, 1) := by decide +kernel
theorem d_Farm_addPlace_10 : decode b_Farm_addPlace 10 = .ok (.aload_n 0, 1) := by decide +kernel
theorem d_Farm_addPlace_11 : decode b_Farm_addPlace 11 = .ok (.dup, 1) := by decide +kernel
theorem d_Farm_addPlace_12 : decode b_Farm_addPlace 12 = .ok (.getfield 46, 3) := by decide +kernel
theorem d_Farm_addPlace_15 : decode b_Farm_addPlace 15 = .ok (.dup_x1, 1) := by decide +kernel
theorem d_Farm_addPlace_16 : decode b_Farm_addPlace 16 = .ok (.iconst 1, 1) := by decide +kernel
theorem d_Farm_addPlace_17 : decode b_Farm_addPlace 17 = .ok (.iadd, 1) := by decide +kernel
theorem d_Farm_addPlace_18 : decode b_Farm_addPlace 18 = .ok (.putfield 46, 3) := by decide +kernel
theorem d_Farm_addPlace_21 : decode b_Farm_addPlace 21 = .ok (.ireturn, 1) := by decide +kernel
theorem d_Farm_addCage_0 : decode b_Farm_addCage 0 = .ok (.aload_n 0, 1) := by decide +kernel
theorem d_Farm_addCage_1 : decode b_Farm_addCage 1 = .ok (.getfield 19, 3) := by decide +kernel
theorem d_Farm_addCage_4 : decode b_Farm_addCage 4 = .ok (.aload_n 0, 1) := by decide +kernel
theorem d_Farm_addCage_5 : decode b_Farm_addCage 5 = .ok (.getfield 49, 3) := by decide +kernel
theorem d_Farm_addCage_8 : decode b_Farm_addCage 8 = .ok (.aload_n 1, 1) := by decide +kernel
theorem d_Farm_addCage_9 : decode b_Farm_addCage 9 = .ok (.aastore, 1) := by decide +kernel
theorem d_Farm_addCage_10 : decode b_Farm_addCage 10 = .ok (.aload_n 0, 1) := by decide +kernel
theorem d_Farm_addCage_11 : decode b_Farm_addCage 11 = .ok (.dup, 1) := by decide +kernel
theorem d_Farm_addCage_12 : decode b_Farm_addCage 12 = .ok (.getfield 49, 3) := by decide +kernel
theorem d_Farm_addCage_15 : decode b_Farm_addCage 15 = .ok (.dup_x1, 1) := by decide +kernel
theorem d_Farm_addCage_16 : decode b_Farm_addCage 16 = .ok (.iconst 1, 1) := by decide +kernel
theorem d_Farm_addCage_17 : decode b_Farm_addCage 17 = .ok (.iadd, 1) := by decide +kernel
theorem d_Farm_addCage_18 : decode b_Farm_addCage 18 = .ok (.putfield 49, 3) := by decide +kernel
theorem d_Farm_addCage_21 : decode b_Farm_addCage 21 = .ok (.ireturn, 1) := by decide +kernel
theorem d_Farm_addBoat_0 : decode b_Farm_addBoat 0 = .ok (.aload_n 0, 1) := by decide +kernel
theorem d_Farm_addBoat_1 : decode b_Farm_addBoat 1 = .ok (.getfield 25, 3) := by decide +kernel
theorem d_Farm_addBoat_4 : decode b_Farm_addBoat 4 = .ok (.aload_n 0, 1) := by decide +kernel
theorem d_Farm_addBoat_5 : decode b_Farm_addBoat 5 = .ok (.getfield 52, 3) := by decide +kernel
theorem d_Farm_addBoat_8 : decode b_Farm_addBoat 8 = .ok (.aload_n 1, 1) := by decide +kernel
theorem d_Farm_addBoat_9 : decode b_Farm_addBoat 9 = .ok (.aastore, 1) := by decide +kernel
theorem d_Farm_addBoat_10 : decode b_Farm_addBoat 10 = .ok (.aload_n 0, 1) := by decide +kernel
theorem d_Farm_addBoat_11 : decode b_Farm_addBoat 11 = .ok (.dup, 1) := by decide +kernel
theorem d_Farm_addBoat_12 : decode b_Farm_addBoat 12 = .ok (.getfield 52, 3) := by decide +kernel
theorem d_Farm_addBoat_15 : decode b_Farm_addBoat 15 = .ok (.dup_x1, 1) := by decide +kernel
theorem d_Farm_addBoat_16 : decode b_Farm_addBoat 16 = .ok (.iconst 1, 1) := by decide +kernel
theorem d_Farm_addBoat_17 : decode b_Farm_addBoat 17 = .ok (.iadd, 1) := by decide +kernel
theorem d_Farm_addBoat_18 : decode b_Farm_addBoat 18 = .ok (.putfield 52, 3) := by decide +kernel
theorem d_Farm_addBoat_21 : decode b_Farm_addBoat 21 = .ok (.ireturn, 1) := by decide +kernel
theorem d_Farm_addOrder_0 : decode b_Farm_addOrder 0 = .ok (.aload_n 0, 1) := by decide +kernel
theorem d_Farm_addOrder_1 : decode b_Farm_addOrder 1 = .ok (.getfield 55, 3) := by decide +kernel
theorem d_Farm_addOrder_4 : decode b_Farm_addOrder 4 = .ok (.istore_n 2, 1) := by decide +kernel
theorem d_Farm_addOrder_5 : decode b_Farm_addOrder 5 = .ok (.iload_n 2, 1) := by decide +kernel
theorem d_Farm_addOrder_6 : decode b_Farm_addOrder 6 = .ok (.ifCond .le 46, 3) := by decide +kernel
theorem d_Farm_addOrder_9 : decode b_Farm_addOrder 9 = .ok (.aload_n 0, 1) := by decide +kernel
theorem d_Farm_addOrder_10 : decode b_Farm_addOrder 10 = .ok (.getfield 31, 3) := by decide +kernel
theorem d_Farm_addOrder_13 : decode b_Farm_addOrder 13 = .ok (.aload_n 0, 1) := by decide +kernel
theorem d_Farm_addOrder_14 : decode b_Farm_addOrder 14 = .ok (.getfield 35, 3) := by decide +kernel
theorem d_Farm_addOrder_17 : decode b_Farm_addOrder 17 = .ok (.iload_n 2, 1) := by decide +kernel
theorem d_Farm_addOrder_18 : decode b_Farm_addOrder 18 = .ok (.iconst 1, 1) := by decide +kernel
theorem d_Farm_addOrder_19 : decode b_Farm_addOrder 19 = .ok (.isub, 1) := by decide +kernel
theorem d_Farm_addOrder_20 : decode b_Farm_addOrder 20 = .ok (.iaload, 1) := by decide +kernel
theorem d_Farm_addOrder_21 : decode b_Farm_addOrder 21 = .ok (.aaload, 1) := by decide +kernel
theorem d_Farm_addOrder_22 : decode b_Farm_addOrder 22 = .ok (.getfield 58, 3) := by decide +kernel
theorem d_Farm_addOrder_25 : decode b_Farm_addOrder 25 = .ok (.aload_n 1, 1) := by decide +kernel
theorem d_Farm_addOrder_26 : decode b_Farm_addOrder 26 = .ok (.getfield 58, 3) := by decide +kernel
theorem d_Farm_addOrder_29 : decode b_Farm_addOrder 29 = .ok (.if_icmp .ge 23, 3) := by decide +kernel
theorem d_Farm_addOrder_32 : decode b_Farm_addOrder 32 = .ok (.aload_n 0, 1) := by decide +kernel
theorem d_Farm_addOrder_33 : decode b_Farm_addOrder 33 = .ok (.getfield 35, 3) := by decide +kernel
theorem d_Farm_addOrder_36 : decode b_Farm_addOrder 36 = .ok (.iload_n 2, 1) := by decide +kernel
theorem d_Farm_addOrder_37 : decode b_Farm_addOrder 37 = .ok (.aload_n 0, 1) := by decide +kernel
theorem d_Farm_addOrder_38 : decode b_Farm_addOrder 38 = .ok (.getfield 35, 3) := by decide +kernel
theorem d_Farm_addOrder_41 : decode b_Farm_addOrder 41 = .ok (.iload_n 2, 1) := by decide +kernel
theorem d_Farm_addOrder_42 : decode b_Farm_addOrder 42 = .ok (.iconst 1, 1) := by decide +kernel
theorem d_Farm_addOrder_43 : decode b_Farm_addOrder 43 = .ok (.isub, 1) := by decide +kernel
theorem d_Farm_addOrder_44 : decode b_Farm_addOrder 44 = .ok (.iaload, 1) := by decide +kernel
theorem d_Farm_addOrder_45 : decode b_Farm_addOrder 45 = .ok (.iastore, 1) := by decide +kernel
theorem d_Farm_addOrder_46 : decode b_Farm_addOrder 46 = .ok (.iinc 2 (-1), 3) := by decide +kernel
theorem d_Farm_addOrder_49 : decode b_Farm_addOrder 49 = .ok (.goto (-44), 3) := by decide +kernel
theorem d_Farm_addOrder_52 : decode b_Farm_addOrder 52 = .ok (.aload_n 0, 1) := by decide +kernel
theorem d_Farm_addOrder_53 : decode b_Farm_addOrder 53 = .ok (.getfield 35, 3) := by decide +kernel
theorem d_Farm_addOrder_56 : decode b_Farm_addOrder 56 = .ok (.iload_n 2, 1) := by decide +kernel
theorem d_Farm_addOrder_57 : decode b_Farm_addOrder 57 = .ok (.aload_n 0, 1) := by decide +kernel
theorem d_Farm_addOrder_58 : decode b_Farm_addOrder 58 = .ok (.getfield 55, 3) := by decide +kernel
theorem d_Farm_addOrder_61 : decode b_Farm_addOrder 61 = .ok (.iastore, 1) := by decide +kernel
theorem d_Farm_addOrder_62 : decode b_Farm_addOrder 62 = .ok (.aload_n 0, 1) := by decide +kernel
theorem d_Farm_addOrder_63 : decode b_Farm_addOrder 63 = .ok (.getfield 31, 3) := by decide +kernel
theorem d_Farm_addOrder_66 : decode b_Farm_addOrder 66 = .ok (.aload_n 0, 1) := by decide +kernel
theorem d_Farm_addOrder_67 : decode b_Farm_addOrder 67 = .ok (.getfield 55, 3) := by decide +kernel
theorem d_Farm_addOrder_70 : decode b_Farm_addOrder 70 = .ok (.aload_n 1, 1) := by decide +kernel
theorem d_Farm_addOrder_71 : decode b_Farm_addOrder 71 = .ok (.aastore, 1) := by decide +kernel
theorem d_Farm_addOrder_72 : decode b_Farm_addOrder 72 = .ok (.aload_n 0, 1) := by decide +kernel
theorem d_Farm_addOrder_73 : decode b_Farm_addOrder 73 = .ok (.dup, 1) := by decide +kernel
theorem d_Farm_addOrder_74 : decode b_Farm_addOrder 74 = .ok (.getfield 55, 3) := by decide +kernel
theorem d_Farm_addOrder_77 : decode b_Farm_addOrder 77 = .ok (.dup_x1, 1) := by decide +kernel
theorem d_Farm_addOrder_78 : decode b_Farm_addOrder 78 = .ok (.iconst 1, 1) := by decide +kernel
theorem d_Farm_addOrder_79 : decode b_Farm_addOrder 79 = .ok (.iadd, 1) := by decide +kernel
theorem d_Farm_addOrder_80 : decode b_Farm_addOrder 80 = .ok (.putfield 55, 3) := by decide +kernel
theorem d_Farm_addOrder_83 : decode b_Farm_addOrder 83 = .ok (.ireturn, 1) := by decide +kernel
theorem d_Farm_centsKept_0 : decode b_Farm_centsKept 0 = .ok (.aload_n 0, 1) := by decide +kernel
theorem d_Farm_centsKept_1 : decode b_Farm_centsKept 1 = .ok (.getfield 19, 3) := by decide +kernel
theorem d_Farm_centsKept_4 : decode b_Farm_centsKept 4 = .ok (.iload_n 1, 1) := by decide +kernel
theorem d_Farm_centsKept_5 : decode b_Farm_centsKept 5 = .ok (.aaload, 1) := by decide +kernel
theorem d_Farm_centsKept_6 : decode b_Farm_centsKept 6 = .ok (.getfield 61, 3) := by decide +kernel
theorem d_Farm_centsKept_9 : decode b_Farm_centsKept 9 = .ok (.aload_n 0, 1) := by decide +kernel
theorem d_Farm_centsKept_10 : decode b_Farm_centsKept 10 = .ok (.getfield 39, 3) := by decide +kernel
theorem d_Farm_centsKept_13 : decode b_Farm_centsKept 13 = .ok (.iconst 1, 1) := by decide +kernel
theorem d_Farm_centsKept_14 : decode b_Farm_centsKept 14 = .ok (.isub, 1) := by decide +kernel
theorem d_Farm_centsKept_15 : decode b_Farm_centsKept 15 = .ok (.iaload, 1) := by decide +kernel
theorem d_Farm_centsKept_16 : decode b_Farm_centsKept 16 = .ok (.i2l, 1) := by decide +kernel
theorem d_Farm_centsKept_17 : decode b_Farm_centsKept 17 = .ok (.aload_n 0, 1) := by decide +kernel
theorem d_Farm_centsKept_18 : decode b_Farm_centsKept 18 = .ok (.getfield 64, 3) := by decide +kernel
theorem d_Farm_centsKept_21 : decode b_Farm_centsKept 21 = .ok (.i2l, 1) := by decide +kernel
theorem d_Farm_centsKept_22 : decode b_Farm_centsKept 22 = .ok (.lmul, 1) := by decide +kernel
theorem d_Farm_centsKept_23 : decode b_Farm_centsKept 23 = .ok (.lreturn, 1) := by decide +kernel
theorem d_Farm_top_0 : decode b_Farm_top 0 = .ok (.iload_n 2, 1) := by decide +kernel
theorem d_Farm_top_1 : decode b_Farm_top 1 = .ok (.iconst (-1), 1) := by decide +kernel
theorem d_Farm_top_2 : decode b_Farm_top 2 = .ok (.if_icmp .ne 9, 3) := by decide +kernel
theorem d_Farm_top_5 : decode b_Farm_top 5 = .ok (.aload_n 0, 1) := by decide +kernel
theorem d_Farm_top_6 : decode b_Farm_top 6 = .ok (.iload_n 1, 1) := by decide +kernel
theorem d_Farm_top_7 : decode b_Farm_top 7 = .ok (.invokevirtual 67, 3) := by decide +kernel
theorem d_Farm_top_10 : decode b_Farm_top 10 = .ok (.lreturn, 1) := by decide +kernel
theorem d_Farm_top_11 : decode b_Farm_top 11 = .ok (.aload_n 0, 1) := by decide +kernel
theorem d_Farm_top_12 : decode b_Farm_top 12 = .ok (.getfield 71, 3) := by decide +kernel
theorem d_Farm_top_15 : decode b_Farm_top 15 = .ok (.istore_n 3, 1) := by decide +kernel
theorem d_Farm_top_16 : decode b_Farm_top 16 = .ok (.iconst 0, 1) := by decide +kernel
theorem d_Farm_top_17 : decode b_Farm_top 17 = .ok (.istore 4, 2) := by decide +kernel
theorem d_Farm_top_19 : decode b_Farm_top 19 = .ok (.iload 4, 2) := by decide +kernel
theorem d_Farm_top_21 : decode b_Farm_top 21 = .ok (.aload_n 0, 1) := by decide +kernel
theorem d_Farm_top_22 : decode b_Farm_top 22 = .ok (.getfield 55, 3) := by decide +kernel
theorem d_Farm_top_25 : decode b_Farm_top 25 = .ok (.if_icmp .ge 44, 3) := by decide +kernel
theorem d_Farm_top_28 : decode b_Farm_top 28 = .ok (.aload_n 0, 1) := by decide +kernel
theorem d_Farm_top_29 : decode b_Farm_top 29 = .ok (.getfield 31, 3) := by decide +kernel
theorem d_Farm_top_32 : decode b_Farm_top 32 = .ok (.iload 4, 2) := by decide +kernel
theorem d_Farm_top_34 : decode b_Farm_top 34 = .ok (.aaload, 1) := by decide +kernel
theorem d_Farm_top_35 : decode b_Farm_top 35 = .ok (.aload_n 0, 1) := by decide +kernel
theorem d_Farm_top_36 : decode b_Farm_top 36 = .ok (.getfield 19, 3) := by decide +kernel
theorem d_Farm_top_39 : decode b_Farm_top 39 = .ok (.iload_n 1, 1) := by decide +kernel
theorem d_Farm_top_40 : decode b_Farm_top 40 = .ok (.aaload, 1) := by decide +kernel
theorem d_Farm_top_41 : decode b_Farm_top 41 = .ok (.iload_n 2, 1) := by decide +kernel
theorem d_Farm_top_42 : decode b_Farm_top 42 = .ok (.invokevirtual 74, 3) := by decide +kernel
theorem d_Farm_top_45 : decode b_Farm_top 45 = .ok (.ifCond .eq 18, 3) := by decide +kernel
theorem d_Farm_top_48 : decode b_Farm_top 48 = .ok (.iload_n 3, 1) := by decide +kernel
theorem d_Farm_top_49 : decode b_Farm_top 49 = .ok (.aload_n 0, 1) := by decide +kernel
theorem d_Farm_top_50 : decode b_Farm_top 50 = .ok (.getfield 31, 3) := by decide +kernel
theorem d_Farm_top_53 : decode b_Farm_top 53 = .ok (.iload 4, 2) := by decide +kernel
theorem d_Farm_top_55 : decode b_Farm_top 55 = .ok (.aaload, 1) := by decide +kernel
theorem d_Farm_top_56 : decode b_Farm_top 56 = .ok (.getfield 58, 3) := by decide +kernel
theorem d_Farm_top_59 : decode b_Farm_top 59 = .ok (.invokestatic 78, 3) := by decide +kernel
theorem d_Farm_top_62 : decode b_Farm_top 62 = .ok (.istore_n 3, 1) := by decide +kernel
theorem d_Farm_top_63 : decode b_Farm_top 63 = .ok (.iinc 4 1, 3) := by decide +kernel
theorem d_Farm_top_66 : decode b_Farm_top 66 = .ok (.goto (-47), 3) := by decide +kernel
theorem d_Farm_top_69 : decode b_Farm_top 69 = .ok (.aload_n 0, 1) := by decide +kernel
theorem d_Farm_top_70 : decode b_Farm_top 70 = .ok (.getfield 19, 3) := by decide +kernel
theorem d_Farm_top_73 : decode b_Farm_top 73 = .ok (.iload_n 1, 1) := by decide +kernel
theorem d_Farm_top_74 : decode b_Farm_top 74 = .ok (.aaload, 1) := by decide +kernel
theorem d_Farm_top_75 : decode b_Farm_top 75 = .ok (.getfield 61, 3) := by decide +kernel
theorem d_Farm_top_78 : decode b_Farm_top 78 = .ok (.iload_n 2, 1) := by decide +kernel
theorem d_Farm_top_79 : decode b_Farm_top 79 = .ok (.iaload, 1) := by decide +kernel
theorem d_Farm_top_80 : decode b_Farm_top 80 = .ok (.i2l, 1) := by decide +kernel
theorem d_Farm_top_81 : decode b_Farm_top 81 = .ok (.iload_n 3, 1) := by decide +kernel
theorem d_Farm_top_82 : decode b_Farm_top 82 = .ok (.i2l, 1) := by decide +kernel
theorem d_Farm_top_83 : decode b_Farm_top 83 = .ok (.lmul, 1) := by decide +kernel
theorem d_Farm_top_84 : decode b_Farm_top 84 = .ok (.lreturn, 1) := by decide +kernel
theorem d_Farm_greatestTop_0 : decode b_Farm_greatestTop 0 = .ok (.aload_n 0, 1) := by decide +kernel
theorem d_Farm_greatestTop_1 : decode b_Farm_greatestTop 1 = .ok (.iload_n 1, 1) := by decide +kernel
theorem d_Farm_greatestTop_2 : decode b_Farm_greatestTop 2 = .ok (.invokevirtual 67, 3) := by decide +kernel
theorem d_Farm_greatestTop_5 : decode b_Farm_greatestTop 5 = .ok (.lstore_n 2, 1) := by decide +kernel
theorem d_Farm_greatestTop_6 : decode b_Farm_greatestTop 6 = .ok (.iconst 0, 1) := by decide +kernel
theorem d_Farm_greatestTop_7 : decode b_Farm_greatestTop 7 = .ok (.istore 4, 2) := by decide +kernel
theorem d_Farm_greatestTop_9 : decode b_Farm_greatestTop 9 = .ok (.iload 4, 2) := by decide +kernel
theorem d_Farm_greatestTop_11 : decode b_Farm_greatestTop 11 = .ok (.aload_n 0, 1) := by decide +kernel
theorem d_Farm_greatestTop_12 : decode b_Farm_greatestTop 12 = .ok (.getfield 39, 3) := by decide +kernel
theorem d_Farm_greatestTop_15 : decode b_Farm_greatestTop 15 = .ok (.if_icmp .ge 21, 3) := by decide +kernel
theorem d_Farm_greatestTop_18 : decode b_Farm_greatestTop 18 = .ok (.lload_n 2, 1) := by decide +kernel
theorem d_Farm_greatestTop_19 : decode b_Farm_greatestTop 19 = .ok (.aload_n 0, 1) := by decide +kernel
theorem d_Farm_greatestTop_20 : decode b_Farm_greatestTop 20 = .ok (.iload_n 1, 1) := by decide +kernel
theorem d_Farm_greatestTop_21 : decode b_Farm_greatestTop 21 = .ok (.iload 4, 2) := by decide +kernel
theorem d_Farm_greatestTop_23 : decode b_Farm_greatestTop 23 = .ok (.invokevirtual 84, 3) := by decide +kernel
theorem d_Farm_greatestTop_26 : decode b_Farm_greatestTop 26 = .ok (.invokestatic 88, 3) := by decide +kernel
theorem d_Farm_greatestTop_29 : decode b_Farm_greatestTop 29 = .ok (.lstore_n 2, 1) := by decide +kernel
theorem d_Farm_greatestTop_30 : decode b_Farm_greatestTop 30 = .ok (.iinc 4 1, 3) := by decide +kernel
theorem d_Farm_greatestTop_33 : decode b_Farm_greatestTop 33 = .ok (.goto (-24), 3) := by decide +kernel
theorem d_Farm_greatestTop_36 : decode b_Farm_greatestTop 36 = .ok (.lload_n 2, 1) := by decide +kernel
theorem d_Farm_greatestTop_37 : decode b_Farm_greatestTop 37 = .ok (.lreturn, 1) := by decide +kernel
theorem d_Order_init_0 : decode b_Order_init 0 = .ok (.aload_n 0, 1) := by decide +kernel
theorem d_Order_init_1 : decode b_Order_init 1 = .ok (.invokespecial 1, 3) := by decide +kernel
theorem d_Order_init_4 : decode b_Order_init 4 = .ok (.aload_n 0, 1) := by decide +kernel
theorem d_Order_init_5 : decode b_Order_init 5 = .ok (.iload_n 1, 1) := by decide +kernel
theorem d_Order_init_6 : decode b_Order_init 6 = .ok (.putfield 7, 3) := by decide +kernel
theorem d_Order_init_9 : decode b_Order_init 9 = .ok (.aload_n 0, 1) := by decide +kernel
theorem d_Order_init_10 : decode b_Order_init 10 = .ok (.iload_n 2, 1) := by decide +kernel
theorem d_Order_init_11 : decode b_Order_init 11 = .ok (.putfield 13, 3) := by decide +kernel
theorem d_Order_init_14 : decode b_Order_init 14 = .ok (.aload_n 0, 1) := by decide +kernel
theorem d_Order_init_15 : decode b_Order_init 15 = .ok (.iload_n 3, 1) := by decide +kernel
theorem d_Order_init_16 : decode b_Order_init 16 = .ok (.putfield 16, 3) := by decide +kernel
theorem d_Order_init_19 : decode b_Order_init 19 = .ok (.aload_n 0, 1) := by decide +kernel
theorem d_Order_init_20 : decode b_Order_init 20 = .ok (.iload 4, 2) := by decide +kernel
theorem d_Order_init_22 : decode b_Order_init 22 = .ok (.putfield 19, 3) := by decide +kernel
theorem d_Order_init_25 : decode b_Order_init 25 = .ok (.aload_n 0, 1) := by decide +kernel
theorem d_Order_init_26 : decode b_Order_init 26 = .ok (.iload 5, 2) := by decide +kernel
theorem d_Order_init_28 : decode b_Order_init 28 = .ok (.putfield 22, 3) := by decide +kernel
theorem d_Order_init_31 : decode b_Order_init 31 = .ok (.return_, 1) := by decide +kernel
theorem d_Order_wants_0 : decode b_Order_wants 0 = .ok (.iload_n 2, 1) := by decide +kernel
theorem d_Order_wants_1 : decode b_Order_wants 1 = .ok (.aload_n 0, 1) := by decide +kernel
theorem d_Order_wants_2 : decode b_Order_wants 2 = .ok (.getfield 7, 3) := by decide +kernel
theorem d_Order_wants_5 : decode b_Order_wants 5 = .ok (.if_icmp .ne 39, 3) := by decide +kernel
theorem d_Order_wants_8 : decode b_Order_wants 8 = .ok (.aload_n 1, 1) := by decide +kernel
theorem d_Order_wants_9 : decode b_Order_wants 9 = .ok (.getfield 25, 3) := by decide +kernel
theorem d_Order_wants_12 : decode b_Order_wants 12 = .ok (.aload_n 0, 1) := by decide +kernel
theorem d_Order_wants_13 : decode b_Order_wants 13 = .ok (.getfield 7, 3) := by decide +kernel
theorem d_Order_wants_16 : decode b_Order_wants 16 = .ok (.iaload, 1) := by decide +kernel
theorem d_Order_wants_17 : decode b_Order_wants 17 = .ok (.aload_n 0, 1) := by decide +kernel
theorem d_Order_wants_18 : decode b_Order_wants 18 = .ok (.getfield 13, 3) := by decide +kernel
theorem d_Order_wants_21 : decode b_Order_wants 21 = .ok (.if_icmp .lt 23, 3) := by decide +kernel
theorem d_Order_wants_24 : decode b_Order_wants 24 = .ok (.aload_n 1, 1) := by decide +kernel
theorem d_Order_wants_25 : decode b_Order_wants 25 = .ok (.getfield 25, 3) := by decide +kernel
theorem d_Order_wants_28 : decode b_Order_wants 28 = .ok (.aload_n 0, 1) := by decide +kernel
theorem d_Order_wants_29 : decode b_Order_wants 29 = .ok (.getfield 7, 3) := by decide +kernel
theorem d_Order_wants_32 : decode b_Order_wants 32 = .ok (.iaload, 1) := by decide +kernel
theorem d_Order_wants_33 : decode b_Order_wants 33 = .ok (.aload_n 0, 1) := by decide +kernel
theorem d_Order_wants_34 : decode b_Order_wants 34 = .ok (.getfield 16, 3) := by decide +kernel
theorem d_Order_wants_37 : decode b_Order_wants 37 = .ok (.if_icmp .gt 7, 3) := by decide +kernel
theorem d_Order_wants_40 : decode b_Order_wants 40 = .ok (.iconst 1, 1) := by decide +kernel
theorem d_Order_wants_41 : decode b_Order_wants 41 = .ok (.goto 4, 3) := by decide +kernel
theorem d_Order_wants_44 : decode b_Order_wants 44 = .ok (.iconst 0, 1) := by decide +kernel
theorem d_Order_wants_45 : decode b_Order_wants 45 = .ok (.ireturn, 1) := by decide +kernel
theorem d_Place_init_0 : decode b_Place_init 0 = .ok (.aload_n 0, 1) := by decide +kernel
theorem d_Place_init_1 : decode b_Place_init 1 = .ok (.invokespecial 1, 3) := by decide +kernel
theorem d_Place_init_4 : decode b_Place_init 4 = .ok (.aload_n 0, 1) := by decide +kernel
theorem d_Place_init_5 : decode b_Place_init 5 = .ok (.iload_n 1, 1) := by decide +kernel
theorem d_Place_init_6 : decode b_Place_init 6 = .ok (.putfield 7, 3) := by decide +kernel
theorem d_Place_init_9 : decode b_Place_init 9 = .ok (.aload_n 0, 1) := by decide +kernel
theorem d_Place_init_10 : decode b_Place_init 10 = .ok (.iload_n 2, 1) := by decide +kernel
theorem d_Place_init_11 : decode b_Place_init 11 = .ok (.newarray .boolean, 2) := by decide +kernel
theorem d_Place_init_13 : decode b_Place_init 13 = .ok (.putfield 13, 3) := by decide +kernel
theorem d_Place_init_16 : decode b_Place_init 16 = .ok (.return_, 1) := by decide +kernel
theorem d_Rules_init_0 : decode b_Rules_init 0 = .ok (.aload_n 0, 1) := by decide +kernel
theorem d_Rules_init_1 : decode b_Rules_init 1 = .ok (.invokespecial 3, 3) := by decide +kernel
theorem d_Rules_init_4 : decode b_Rules_init 4 = .ok (.aload_n 0, 1) := by decide +kernel
theorem d_Rules_init_5 : decode b_Rules_init 5 = .ok (.bipush 6, 2) := by decide +kernel
theorem d_Rules_init_7 : decode b_Rules_init 7 = .ok (.newarray .int, 2) := by decide +kernel
theorem d_Rules_init_9 : decode b_Rules_init 9 = .ok (.putfield 9, 3) := by decide +kernel
theorem d_Rules_init_12 : decode b_Rules_init 12 = .ok (.aload_n 0, 1) := by decide +kernel
theorem d_Rules_init_13 : decode b_Rules_init 13 = .ok (.iconst 3, 1) := by decide +kernel
theorem d_Rules_init_14 : decode b_Rules_init 14 = .ok (.newarray .int, 2) := by decide +kernel
theorem d_Rules_init_16 : decode b_Rules_init 16 = .ok (.putfield 15, 3) := by decide +kernel
theorem d_Rules_init_19 : decode b_Rules_init 19 = .ok (.aload_n 0, 1) := by decide +kernel
theorem d_Rules_init_20 : decode b_Rules_init 20 = .ok (.bipush 6, 2) := by decide +kernel
theorem d_Rules_init_22 : decode b_Rules_init 22 = .ok (.newarray .int, 2) := by decide +kernel
theorem d_Rules_init_24 : decode b_Rules_init 24 = .ok (.putfield 18, 3) := by decide +kernel
theorem d_Rules_init_27 : decode b_Rules_init 27 = .ok (.aload_n 0, 1) := by decide +kernel
theorem d_Rules_init_28 : decode b_Rules_init 28 = .ok (.iconst 4, 1) := by decide +kernel
theorem d_Rules_init_29 : decode b_Rules_init 29 = .ok (.newarray .int, 2) := by decide +kernel
theorem d_Rules_init_31 : decode b_Rules_init 31 = .ok (.putfield 21, 3) := by decide +kernel
theorem d_Rules_init_34 : decode b_Rules_init 34 = .ok (.aload_n 0, 1) := by decide +kernel
theorem d_Rules_init_35 : decode b_Rules_init 35 = .ok (.aload_n 1, 1) := by decide +kernel
theorem d_Rules_init_36 : decode b_Rules_init 36 = .ok (.putfield 24, 3) := by decide +kernel
theorem d_Rules_init_39 : decode b_Rules_init 39 = .ok (.return_, 1) := by decide +kernel
theorem d_Rules_leastBroken_0 : decode b_Rules_leastBroken 0 = .ok (.aload_n 0, 1) := by decide +kernel
theorem d_Rules_leastBroken_1 : decode b_Rules_leastBroken 1 = .ok (.aload_n 1, 1) := by decide +kernel
theorem d_Rules_leastBroken_2 : decode b_Rules_leastBroken 2 = .ok (.iload_n 2, 1) := by decide +kernel
theorem d_Rules_leastBroken_3 : decode b_Rules_leastBroken 3 = .ok (.invokevirtual 28, 3) := by decide +kernel
theorem d_Rules_leastBroken_6 : decode b_Rules_leastBroken 6 = .ok (.ifCond .ne 5, 3) := by decide +kernel
theorem d_Rules_leastBroken_9 : decode b_Rules_leastBroken 9 = .ok (.iconst 1, 1) := by decide +kernel
theorem d_Rules_leastBroken_10 : decode b_Rules_leastBroken 10 = .ok (.ireturn, 1) := by decide +kernel
theorem d_Rules_leastBroken_11 : decode b_Rules_leastBroken 11 = .ok (.aload_n 0, 1) := by decide +kernel
theorem d_Rules_leastBroken_12 : decode b_Rules_leastBroken 12 = .ok (.aload_n 1, 1) := by decide +kernel
theorem d_Rules_leastBroken_13 : decode b_Rules_leastBroken 13 = .ok (.iload_n 2, 1) := by decide +kernel
theorem d_Rules_leastBroken_14 : decode b_Rules_leastBroken 14 = .ok (.invokevirtual 32, 3) := by decide +kernel
theorem d_Rules_leastBroken_17 : decode b_Rules_leastBroken 17 = .ok (.ifCond .ne 5, 3) := by decide +kernel
theorem d_Rules_leastBroken_20 : decode b_Rules_leastBroken 20 = .ok (.iconst 2, 1) := by decide +kernel
theorem d_Rules_leastBroken_21 : decode b_Rules_leastBroken 21 = .ok (.ireturn, 1) := by decide +kernel
theorem d_Rules_leastBroken_22 : decode b_Rules_leastBroken 22 = .ok (.aload_n 0, 1) := by decide +kernel
theorem d_Rules_leastBroken_23 : decode b_Rules_leastBroken 23 = .ok (.aload_n 1, 1) := by decide +kernel
theorem d_Rules_leastBroken_24 : decode b_Rules_leastBroken 24 = .ok (.iload_n 2, 1) := by decide +kernel
theorem d_Rules_leastBroken_25 : decode b_Rules_leastBroken 25 = .ok (.invokevirtual 35, 3) := by decide +kernel
theorem d_Rules_leastBroken_28 : decode b_Rules_leastBroken 28 = .ok (.ifCond .ne 5, 3) := by decide +kernel
theorem d_Rules_leastBroken_31 : decode b_Rules_leastBroken 31 = .ok (.iconst 3, 1) := by decide +kernel
theorem d_Rules_leastBroken_32 : decode b_Rules_leastBroken 32 = .ok (.ireturn, 1) := by decide +kernel
theorem d_Rules_leastBroken_33 : decode b_Rules_leastBroken 33 = .ok (.aload_n 0, 1) := by decide +kernel
theorem d_Rules_leastBroken_34 : decode b_Rules_leastBroken 34 = .ok (.aload_n 1, 1) := by decide +kernel
theorem d_Rules_leastBroken_35 : decode b_Rules_leastBroken 35 = .ok (.iload_n 2, 1) := by decide +kernel
theorem d_Rules_leastBroken_36 : decode b_Rules_leastBroken 36 = .ok (.invokevirtual 38, 3) := by decide +kernel
theorem d_Rules_leastBroken_39 : decode b_Rules_leastBroken 39 = .ok (.ifCond .eq 7, 3) := by decide +kernel
theorem d_Rules_leastBroken_42 : decode b_Rules_leastBroken 42 = .ok (.iconst 0, 1) := by decide +kernel
theorem d_Rules_leastBroken_43 : decode b_Rules_leastBroken 43 = .ok (.goto 4, 3) := by decide +kernel
theorem d_Rules_leastBroken_46 : decode b_Rules_leastBroken 46 = .ok (.iconst 4, 1) := by decide +kernel
theorem d_Rules_leastBroken_47 : decode b_Rules_leastBroken 47 = .ok (.ireturn, 1) := by decide +kernel
theorem d_Rules_allowsTaking_0 : decode b_Rules_allowsTaking 0 = .ok (.aload_n 0, 1) := by decide +kernel
theorem d_Rules_allowsTaking_1 : decode b_Rules_allowsTaking 1 = .ok (.aload_n 1, 1) := by decide +kernel
theorem d_Rules_allowsTaking_2 : decode b_Rules_allowsTaking 2 = .ok (.iload_n 2, 1) := by decide +kernel
theorem d_Rules_allowsTaking_3 : decode b_Rules_allowsTaking 3 = .ok (.invokevirtual 35, 3) := by decide +kernel
theorem d_Rules_allowsTaking_6 : decode b_Rules_allowsTaking 6 = .ok (.ifCond .eq 25, 3) := by decide +kernel
theorem d_Rules_allowsTaking_9 : decode b_Rules_allowsTaking 9 = .ok (.aload_n 0, 1) := by decide +kernel
theorem d_Rules_allowsTaking_10 : decode b_Rules_allowsTaking 10 = .ok (.aload_n 1, 1) := by decide +kernel
theorem d_Rules_allowsTaking_11 : decode b_Rules_allowsTaking 11 = .ok (.iload_n 2, 1) := by decide +kernel
theorem d_Rules_allowsTaking_12 : decode b_Rules_allowsTaking 12 = .ok (.invokevirtual 28, 3) := by decide +kernel
theorem d_Rules_allowsTaking_15 : decode b_Rules_allowsTaking 15 = .ok (.ifCond .eq 16, 3) := by decide +kernel
theorem d_Rules_allowsTaking_18 : decode b_Rules_allowsTaking 18 = .ok (.aload_n 0, 1) := by decide +kernel
theorem d_Rules_allowsTaking_19 : decode b_Rules_allowsTaking 19 = .ok (.aload_n 1, 1) := by decide +kernel
theorem d_Rules_allowsTaking_20 : decode b_Rules_allowsTaking 20 = .ok (.iload_n 2, 1) := by decide +kernel
theorem d_Rules_allowsTaking_21 : decode b_Rules_allowsTaking 21 = .ok (.invokevirtual 32, 3) := by decide +kernel
theorem d_Rules_allowsTaking_24 : decode b_Rules_allowsTaking 24 = .ok (.ifCond .eq 7, 3) := by decide +kernel
theorem d_Rules_allowsTaking_27 : decode b_Rules_allowsTaking 27 = .ok (.iconst 1, 1) := by decide +kernel
theorem d_Rules_allowsTaking_28 : decode b_Rules_allowsTaking 28 = .ok (.goto 4, 3) := by decide +kernel
theorem d_Rules_allowsTaking_31 : decode b_Rules_allowsTaking 31 = .ok (.iconst 0, 1) := by decide +kernel
theorem d_Rules_allowsTaking_32 : decode b_Rules_allowsTaking 32 = .ok (.ireturn, 1) := by decide +kernel
theorem d_Rules_keepsPlant_0 : decode b_Rules_keepsPlant 0 = .ok (.iconst 0, 1) := by decide +kernel
theorem d_Rules_keepsPlant_1 : decode b_Rules_keepsPlant 1 = .ok (.istore_n 3, 1) := by decide +kernel
theorem d_Rules_keepsPlant_2 : decode b_Rules_keepsPlant 2 = .ok (.iconst 0, 1) := by decide +kernel
theorem d_Rules_keepsPlant_3 : decode b_Rules_keepsPlant 3 = .ok (.istore 4, 2) := by decide +kernel
theorem d_Rules_keepsPlant_5 : decode b_Rules_keepsPlant 5 = .ok (.iload 4, 2) := by decide +kernel
theorem d_Rules_keepsPlant_7 : decode b_Rules_keepsPlant 7 = .ok (.aload_n 0, 1) := by decide +kernel
theorem d_Rules_keepsPlant_8 : decode b_Rules_keepsPlant 8 = .ok (.getfield 24, 3) := by decide +kernel
theorem d_Rules_keepsPlant_11 : decode b_Rules_keepsPlant 11 = .ok (.getfield 41, 3) := by decide +kernel
theorem d_Rules_keepsPlant_14 : decode b_Rules_keepsPlant 14 = .ok (.if_icmp .ge 35, 3) := by decide +kernel
theorem d_Rules_keepsPlant_17 : decode b_Rules_keepsPlant 17 = .ok (.aload_n 1, 1) := by decide +kernel
theorem d_Rules_keepsPlant_18 : decode b_Rules_keepsPlant 18 = .ok (.iload 4, 2) := by decide +kernel
theorem d_Rules_keepsPlant_20 : decode b_Rules_keepsPlant 20 = .ok (.iaload, 1) := by decide +kernel
theorem d_Rules_keepsPlant_21 : decode b_Rules_keepsPlant 21 = .ok (.iload_n 2, 1) := by decide +kernel
theorem d_Rules_keepsPlant_22 : decode b_Rules_keepsPlant 22 = .ok (.if_icmp .ne 21, 3) := by decide +kernel
theorem d_Rules_keepsPlant_25 : decode b_Rules_keepsPlant 25 = .ok (.iload_n 3, 1) := by decide +kernel
theorem d_Rules_keepsPlant_26 : decode b_Rules_keepsPlant 26 = .ok (.aload_n 0, 1) := by decide +kernel
theorem d_Rules_keepsPlant_27 : decode b_Rules_keepsPlant 27 = .ok (.getfield 24, 3) := by decide +kernel
theorem d_Rules_keepsPlant_30 : decode b_Rules_keepsPlant 30 = .ok (.getfield 47, 3) := by decide +kernel
theorem d_Rules_keepsPlant_33 : decode b_Rules_keepsPlant 33 = .ok (.iload 4, 2) := by decide +kernel
theorem d_Rules_keepsPlant_35 : decode b_Rules_keepsPlant 35 = .ok (.aaload, 1) := by decide +kernel
theorem d_Rules_keepsPlant_36 : decode b_Rules_keepsPlant 36 = .ok (.getfield 51, 3) := by decide +kernel
theorem d_Rules_keepsPlant_39 : decode b_Rules_keepsPlant 39 = .ok (.iload_n 2, 1) := by decide +kernel
theorem d_Rules_keepsPlant_40 : decode b_Rules_keepsPlant 40 = .ok (.iaload, 1) := by decide +kernel
theorem d_Rules_keepsPlant_41 : decode b_Rules_keepsPlant 41 = .ok (.iadd, 1) := by decide +kernel
theorem d_Rules_keepsPlant_42 : decode b_Rules_keepsPlant 42 = .ok (.istore_n 3, 1) := by decide +kernel
theorem d_Rules_keepsPlant_43 : decode b_Rules_keepsPlant 43 = .ok (.iinc 4 1, 3) := by decide +kernel
theorem d_Rules_keepsPlant_46 : decode b_Rules_keepsPlant 46 = .ok (.goto (-41), 3) := by decide +kernel
theorem d_Rules_keepsPlant_49 : decode b_Rules_keepsPlant 49 = .ok (.iload_n 3, 1) := by decide +kernel
theorem d_Rules_keepsPlant_50 : decode b_Rules_keepsPlant 50 = .ok (.aload_n 0, 1) := by decide +kernel
theorem d_Rules_keepsPlant_51 : decode b_Rules_keepsPlant 51 = .ok (.getfield 24, 3) := by decide +kernel
theorem d_Rules_keepsPlant_54 : decode b_Rules_keepsPlant 54 = .ok (.getfield 56, 3) := by decide +kernel
theorem d_Rules_keepsPlant_57 : decode b_Rules_keepsPlant 57 = .ok (.iload_n 2, 1) := by decide +kernel
theorem d_Rules_keepsPlant_58 : decode b_Rules_keepsPlant 58 = .ok (.iaload, 1) := by decide +kernel
theorem d_Rules_keepsPlant_59 : decode b_Rules_keepsPlant 59 = .ok (.if_icmp .gt 7, 3) := by decide +kernel
theorem d_Rules_keepsPlant_62 : decode b_Rules_keepsPlant 62 = .ok (.iconst 1, 1) := by decide +kernel
theorem d_Rules_keepsPlant_63 : decode b_Rules_keepsPlant 63 = .ok (.goto 4, 3) := by decide +kernel
theorem d_Rules_keepsPlant_66 : decode b_Rules_keepsPlant 66 = .ok (.iconst 0, 1) := by decide +kernel
theorem d_Rules_keepsPlant_67 : decode b_Rules_keepsPlant 67 = .ok (.ireturn, 1) := by decide +kernel
theorem d_Rules_keepsClosed_0 : decode b_Rules_keepsClosed 0 = .ok (.iconst 0, 1) := by decide +kernel
theorem d_Rules_keepsClosed_1 : decode b_Rules_keepsClosed 1 = .ok (.istore_n 3, 1) := by decide +kernel
theorem d_Rules_keepsClosed_2 : decode b_Rules_keepsClosed 2 = .ok (.iload_n 3, 1) := by decide +kernel
theorem d_Rules_keepsClosed_3 : decode b_Rules_keepsClosed 3 = .ok (.aload_n 0, 1) := by decide +kernel
theorem d_Rules_keepsClosed_4 : decode b_Rules_keepsClosed 4 = .ok (.getfield 24, 3) := by decide +kernel
theorem d_Rules_keepsClosed_7 : decode b_Rules_keepsClosed 7 = .ok (.getfield 41, 3) := by decide +kernel
theorem d_Rules_keepsClosed_10 : decode b_Rules_keepsClosed 10 = .ok (.if_icmp .ge 46, 3) := by decide +kernel
theorem d_Rules_keepsClosed_13 : decode b_Rules_keepsClosed 13 = .ok (.aload_n 1, 1) := by decide +kernel
theorem d_Rules_keepsClosed_14 : decode b_Rules_keepsClosed 14 = .ok (.iload_n 3, 1) := by decide +kernel
theorem d_Rules_keepsClosed_15 : decode b_Rules_keepsClosed 15 = .ok (.iaload, 1) := by decide +kernel
theorem d_Rules_keepsClosed_16 : decode b_Rules_keepsClosed 16 = .ok (.iload_n 2, 1) := by decide +kernel
theorem d_Rules_keepsClosed_17 : decode b_Rules_keepsClosed 17 = .ok (.if_icmp .ne 33, 3) := by decide +kernel
theorem d_Rules_keepsClosed_20 : decode b_Rules_keepsClosed 20 = .ok (.aload_n 0, 1) := by decide +kernel
theorem d_Rules_keepsClosed_21 : decode b_Rules_keepsClosed 21 = .ok (.getfield 24, 3) := by decide +kernel
theorem d_Rules_keepsClosed_24 : decode b_Rules_keepsClosed 24 = .ok (.getfield 59, 3) := by decide +kernel
theorem d_Rules_keepsClosed_27 : decode b_Rules_keepsClosed 27 = .ok (.aload_n 0, 1) := by decide +kernel
theorem d_Rules_keepsClosed_28 : decode b_Rules_keepsClosed 28 = .ok (.getfield 24, 3) := by decide +kernel
theorem d_Rules_keepsClosed_31 : decode b_Rules_keepsClosed 31 = .ok (.getfield 47, 3) := by decide +kernel
theorem d_Rules_keepsClosed_34 : decode b_Rules_keepsClosed 34 = .ok (.iload_n 3, 1) := by decide +kernel
theorem d_Rules_keepsClosed_35 : decode b_Rules_keepsClosed 35 = .ok (.aaload, 1) := by decide +kernel
theorem d_Rules_keepsClosed_36 : decode b_Rules_keepsClosed 36 = .ok (.getfield 63, 3) := by decide +kernel
theorem d_Rules_keepsClosed_39 : decode b_Rules_keepsClosed 39 = .ok (.aaload, 1) := by decide +kernel
theorem d_Rules_keepsClosed_40 : decode b_Rules_keepsClosed 40 = .ok (.getfield 66, 3) := by decide +kernel
theorem d_Rules_keepsClosed_43 : decode b_Rules_keepsClosed 43 = .ok (.iload_n 2, 1) := by decide +kernel
theorem d_Rules_keepsClosed_44 : decode b_Rules_keepsClosed 44 = .ok (.baload, 1) := by decide +kernel
theorem d_Rules_keepsClosed_45 : decode b_Rules_keepsClosed 45 = .ok (.ifCond .eq 5, 3) := by decide +kernel
theorem d_Rules_keepsClosed_48 : decode b_Rules_keepsClosed 48 = .ok (.iconst 0, 1) := by decide +kernel
theorem d_Rules_keepsClosed_49 : decode b_Rules_keepsClosed 49 = .ok (.ireturn, 1) := by decide +kernel
theorem d_Rules_keepsClosed_50 : decode b_Rules_keepsClosed 50 = .ok (.iinc 3 1, 3) := by decide +kernel
theorem d_Rules_keepsClosed_53 : decode b_Rules_keepsClosed 53 = .ok (.goto (-51), 3) := by decide +kernel
theorem d_Rules_keepsClosed_56 : decode b_Rules_keepsClosed 56 = .ok (.iconst 1, 1) := by decide +kernel
theorem d_Rules_keepsClosed_57 : decode b_Rules_keepsClosed 57 = .ok (.ireturn, 1) := by decide +kernel
theorem d_Rules_keepsHeld_0 : decode b_Rules_keepsHeld 0 = .ok (.aload_n 0, 1) := by decide +kernel
theorem d_Rules_keepsHeld_1 : decode b_Rules_keepsHeld 1 = .ok (.getfield 21, 3) := by decide +kernel
theorem d_Rules_keepsHeld_4 : decode b_Rules_keepsHeld 4 = .ok (.iconst 0, 1) := by decide +kernel
theorem d_Rules_keepsHeld_5 : decode b_Rules_keepsHeld 5 = .ok (.invokestatic 72, 3) := by decide +kernel
theorem d_Rules_keepsHeld_8 : decode b_Rules_keepsHeld 8 = .ok (.iconst 0, 1) := by decide +kernel
theorem d_Rules_keepsHeld_9 : decode b_Rules_keepsHeld 9 = .ok (.istore_n 3, 1) := by decide +kernel
theorem d_Rules_keepsHeld_10 : decode b_Rules_keepsHeld 10 = .ok (.iload_n 3, 1) := by decide +kernel
theorem d_Rules_keepsHeld_11 : decode b_Rules_keepsHeld 11 = .ok (.aload_n 0, 1) := by decide +kernel
theorem d_Rules_keepsHeld_12 : decode b_Rules_keepsHeld 12 = .ok (.getfield 24, 3) := by decide +kernel
theorem d_Rules_keepsHeld_15 : decode b_Rules_keepsHeld 15 = .ok (.getfield 41, 3) := by decide +kernel
theorem d_Rules_keepsHeld_18 : decode b_Rules_keepsHeld 18 = .ok (.if_icmp .ge 57, 3) := by decide +kernel
theorem d_Rules_keepsHeld_21 : decode b_Rules_keepsHeld 21 = .ok (.aload_n 1, 1) := by decide +kernel
theorem d_Rules_keepsHeld_22 : decode b_Rules_keepsHeld 22 = .ok (.iload_n 3, 1) := by decide +kernel
theorem d_Rules_keepsHeld_23 : decode b_Rules_keepsHeld 23 = .ok (.iaload, 1) := by decide +kernel
theorem d_Rules_keepsHeld_24 : decode b_Rules_keepsHeld 24 = .ok (.iconst (-1), 1) := by decide +kernel
theorem d_Rules_keepsHeld_25 : decode b_Rules_keepsHeld 25 = .ok (.if_icmp .eq 10, 3) := by decide +kernel
theorem d_Rules_keepsHeld_28 : decode b_Rules_keepsHeld 28 = .ok (.aload_n 1, 1) := by decide +kernel
theorem d_Rules_keepsHeld_29 : decode b_Rules_keepsHeld 29 = .ok (.iload_n 3, 1) := by decide +kernel
theorem d_Rules_keepsHeld_30 : decode b_Rules_keepsHeld 30 = .ok (.iaload, 1) := by decide +kernel
theorem d_Rules_keepsHeld_31 : decode b_Rules_keepsHeld 31 = .ok (.iload_n 2, 1) := by decide +kernel
theorem d_Rules_keepsHeld_32 : decode b_Rules_keepsHeld 32 = .ok (.if_icmp .lt 37, 3) := by decide +kernel
theorem d_Rules_keepsHeld_35 : decode b_Rules_keepsHeld 35 = .ok (.aload_n 0, 1) := by decide +kernel
theorem d_Rules_keepsHeld_36 : decode b_Rules_keepsHeld 36 = .ok (.getfield 21, 3) := by decide +kernel
theorem d_Rules_keepsHeld_39 : decode b_Rules_keepsHeld 39 = .ok (.aload_n 0, 1) := by decide +kernel
theorem d_Rules_keepsHeld_40 : decode b_Rules_keepsHeld 40 = .ok (.getfield 24, 3) := by decide +kernel
theorem d_Rules_keepsHeld_43 : decode b_Rules_keepsHeld 43 = .ok (.getfield 47, 3) := by decide +kernel
theorem d_Rules_keepsHeld_46 : decode b_Rules_keepsHeld 46 = .ok (.iload_n 3, 1) := by decide +kernel
theorem d_Rules_keepsHeld_47 : decode b_Rules_keepsHeld 47 = .ok (.aaload, 1) := by decide +kernel
theorem d_Rules_keepsHeld_48 : decode b_Rules_keepsHeld 48 = .ok (.getfield 63, 3) := by decide +kernel
theorem d_Rules_keepsHeld_51 : decode b_Rules_keepsHeld 51 = .ok (.dup2, 1) := by decide +kernel
theorem d_Rules_keepsHeld_52 : decode b_Rules_keepsHeld 52 = .ok (.iaload, 1) := by decide +kernel
theorem d_Rules_keepsHeld_53 : decode b_Rules_keepsHeld 53 = .ok (.aload_n 0, 1) := by decide +kernel
theorem d_Rules_keepsHeld_54 : decode b_Rules_keepsHeld 54 = .ok (.getfield 24, 3) := by decide +kernel
theorem d_Rules_keepsHeld_57 : decode b_Rules_keepsHeld 57 = .ok (.getfield 47, 3) := by decide +kernel
theorem d_Rules_keepsHeld_60 : decode b_Rules_keepsHeld 60 = .ok (.iload_n 3, 1) := by decide +kernel
theorem d_Rules_keepsHeld_61 : decode b_Rules_keepsHeld 61 = .ok (.aaload, 1) := by decide +kernel
theorem d_Rules_keepsHeld_62 : decode b_Rules_keepsHeld 62 = .ok (.getfield 51, 3) := by decide +kernel
theorem d_Rules_keepsHeld_65 : decode b_Rules_keepsHeld 65 = .ok (.iload_n 2, 1) := by decide +kernel
theorem d_Rules_keepsHeld_66 : decode b_Rules_keepsHeld 66 = .ok (.iaload, 1) := by decide +kernel
theorem d_Rules_keepsHeld_67 : decode b_Rules_keepsHeld 67 = .ok (.iadd, 1) := by decide +kernel
theorem d_Rules_keepsHeld_68 : decode b_Rules_keepsHeld 68 = .ok (.iastore, 1) := by decide +kernel
theorem d_Rules_keepsHeld_69 : decode b_Rules_keepsHeld 69 = .ok (.iinc 3 1, 3) := by decide +kernel
theorem d_Rules_keepsHeld_72 : decode b_Rules_keepsHeld 72 = .ok (.goto (-62), 3) := by decide +kernel
theorem d_Rules_keepsHeld_75 : decode b_Rules_keepsHeld 75 = .ok (.iconst 0, 1) := by decide +kernel
theorem d_Rules_keepsHeld_76 : decode b_Rules_keepsHeld 76 = .ok (.istore_n 3, 1) := by decide +kernel
theorem d_Rules_keepsHeld_77 : decode b_Rules_keepsHeld 77 = .ok (.iload_n 3, 1) := by decide +kernel
theorem d_Rules_keepsHeld_78 : decode b_Rules_keepsHeld 78 = .ok (.aload_n 0, 1) := by decide +kernel
theorem d_Rules_keepsHeld_79 : decode b_Rules_keepsHeld 79 = .ok (.getfield 24, 3) := by decide +kernel
theorem d_Rules_keepsHeld_82 : decode b_Rules_keepsHeld 82 = .ok (.getfield 78, 3) := by decide +kernel
theorem d_Rules_keepsHeld_85 : decode b_Rules_keepsHeld 85 = .ok (.if_icmp .ge 32, 3) := by decide +kernel
theorem d_Rules_keepsHeld_88 : decode b_Rules_keepsHeld 88 = .ok (.aload_n 0, 1) := by decide +kernel
theorem d_Rules_keepsHeld_89 : decode b_Rules_keepsHeld 89 = .ok (.getfield 21, 3) := by decide +kernel
theorem d_Rules_keepsHeld_92 : decode b_Rules_keepsHeld 92 = .ok (.iload_n 3, 1) := by decide +kernel
theorem d_Rules_keepsHeld_93 : decode b_Rules_keepsHeld 93 = .ok (.iaload, 1) := by decide +kernel
theorem d_Rules_keepsHeld_94 : decode b_Rules_keepsHeld 94 = .ok (.aload_n 0, 1) := by decide +kernel
theorem d_Rules_keepsHeld_95 : decode b_Rules_keepsHeld 95 = .ok (.getfield 24, 3) := by decide +kernel
theorem d_Rules_keepsHeld_98 : decode b_Rules_keepsHeld 98 = .ok (.getfield 59, 3) := by decide +kernel
theorem d_Rules_keepsHeld_101 : decode b_Rules_keepsHeld 101 = .ok (.iload_n 3, 1) := by decide +kernel
theorem d_Rules_keepsHeld_102 : decode b_Rules_keepsHeld 102 = .ok (.aaload, 1) := by decide +kernel
theorem d_Rules_keepsHeld_103 : decode b_Rules_keepsHeld 103 = .ok (.getfield 81, 3) := by decide +kernel
theorem d_Rules_keepsHeld_106 : decode b_Rules_keepsHeld 106 = .ok (.if_icmp .le 5, 3) := by decide +kernel
theorem d_Rules_keepsHeld_109 : decode b_Rules_keepsHeld 109 = .ok (.iconst 0, 1) := by decide +kernel
theorem d_Rules_keepsHeld_110 : decode b_Rules_keepsHeld 110 = .ok (.ireturn, 1) := by decide +kernel
theorem d_Rules_keepsHeld_111 : decode b_Rules_keepsHeld 111 = .ok (.iinc 3 1, 3) := by decide +kernel
theorem d_Rules_keepsHeld_114 : decode b_Rules_keepsHeld 114 = .ok (.goto (-37), 3) := by decide +kernel
theorem d_Rules_keepsHeld_117 : decode b_Rules_keepsHeld 117 = .ok (.iconst 1, 1) := by decide +kernel
theorem d_Rules_keepsHeld_118 : decode b_Rules_keepsHeld 118 = .ok (.ireturn, 1) := by decide +kernel
theorem d_Rules_keepsAllHeld_0 : decode b_Rules_keepsAllHeld 0 = .ok (.iconst 0, 1) := by decide +kernel
theorem d_Rules_keepsAllHeld_1 : decode b_Rules_keepsAllHeld 1 = .ok (.istore_n 2, 1) := by decide +kernel
theorem d_Rules_keepsAllHeld_2 : decode b_Rules_keepsAllHeld 2 = .ok (.iload_n 2, 1) := by decide +kernel
theorem d_Rules_keepsAllHeld_3 : decode b_Rules_keepsAllHeld 3 = .ok (.aload_n 0, 1) := by decide +kernel
theorem d_Rules_keepsAllHeld_4 : decode b_Rules_keepsAllHeld 4 = .ok (.getfield 24, 3) := by decide +kernel
theorem d_Rules_keepsAllHeld_7 : decode b_Rules_keepsAllHeld 7 = .ok (.getfield 84, 3) := by decide +kernel
theorem d_Rules_keepsAllHeld_10 : decode b_Rules_keepsAllHeld 10 = .ok (.if_icmp .ge 20, 3) := by decide +kernel
theorem d_Rules_keepsAllHeld_13 : decode b_Rules_keepsAllHeld 13 = .ok (.aload_n 0, 1) := by decide +kernel
theorem d_Rules_keepsAllHeld_14 : decode b_Rules_keepsAllHeld 14 = .ok (.aload_n 1, 1) := by decide +kernel
theorem d_Rules_keepsAllHeld_15 : decode b_Rules_keepsAllHeld 15 = .ok (.iload_n 2, 1) := by decide +kernel
theorem d_Rules_keepsAllHeld_16 : decode b_Rules_keepsAllHeld 16 = .ok (.invokevirtual 38, 3) := by decide +kernel
theorem d_Rules_keepsAllHeld_19 : decode b_Rules_keepsAllHeld 19 = .ok (.ifCond .ne 5, 3) := by decide +kernel
theorem d_Rules_keepsAllHeld_22 : decode b_Rules_keepsAllHeld 22 = .ok (.iconst 0, 1) := by decide +kernel
theorem d_Rules_keepsAllHeld_23 : decode b_Rules_keepsAllHeld 23 = .ok (.ireturn, 1) := by decide +kernel
theorem d_Rules_keepsAllHeld_24 : decode b_Rules_keepsAllHeld 24 = .ok (.iinc 2 1, 3) := by decide +kernel
theorem d_Rules_keepsAllHeld_27 : decode b_Rules_keepsAllHeld 27 = .ok (.goto (-25), 3) := by decide +kernel
theorem d_Rules_keepsAllHeld_30 : decode b_Rules_keepsAllHeld 30 = .ok (.iconst 1, 1) := by decide +kernel
theorem d_Rules_keepsAllHeld_31 : decode b_Rules_keepsAllHeld 31 = .ok (.ireturn, 1) := by decide +kernel
theorem d_Rules_keepsBoats_0 : decode b_Rules_keepsBoats 0 = .ok (.aload_n 0, 1) := by decide +kernel
theorem d_Rules_keepsBoats_1 : decode b_Rules_keepsBoats 1 = .ok (.aload_n 1, 1) := by decide +kernel
theorem d_Rules_keepsBoats_2 : decode b_Rules_keepsBoats 2 = .ok (.iload_n 2, 1) := by decide +kernel
theorem d_Rules_keepsBoats_3 : decode b_Rules_keepsBoats 3 = .ok (.invokevirtual 87, 3) := by decide +kernel
theorem d_Rules_keepsBoats_6 : decode b_Rules_keepsBoats 6 = .ok (.istore_n 3, 1) := by decide +kernel
theorem d_Rules_keepsBoats_7 : decode b_Rules_keepsBoats 7 = .ok (.iload_n 3, 1) := by decide +kernel
theorem d_Rules_keepsBoats_8 : decode b_Rules_keepsBoats 8 = .ok (.ifCond .ne 5, 3) := by decide +kernel
theorem d_Rules_keepsBoats_11 : decode b_Rules_keepsBoats 11 = .ok (.iconst 1, 1) := by decide +kernel
theorem d_Rules_keepsBoats_12 : decode b_Rules_keepsBoats 12 = .ok (.ireturn, 1) := by decide +kernel
theorem d_Rules_keepsBoats_13 : decode b_Rules_keepsBoats 13 = .ok (.aload_n 0, 1) := by decide +kernel
theorem d_Rules_keepsBoats_14 : decode b_Rules_keepsBoats 14 = .ok (.iload_n 2, 1) := by decide +kernel
theorem d_Rules_keepsBoats_15 : decode b_Rules_keepsBoats 15 = .ok (.invokevirtual 91, 3) := by decide +kernel
theorem d_Rules_keepsBoats_18 : decode b_Rules_keepsBoats 18 = .ok (.istore 4, 2) := by decide +kernel
theorem d_Rules_keepsBoats_20 : decode b_Rules_keepsBoats 20 = .ok (.iload_n 3, 1) := by decide +kernel
theorem d_Rules_keepsBoats_21 : decode b_Rules_keepsBoats 21 = .ok (.iload 4, 2) := by decide +kernel
theorem d_Rules_keepsBoats_23 : decode b_Rules_keepsBoats 23 = .ok (.if_icmp .le 5, 3) := by decide +kernel
theorem d_Rules_keepsBoats_26 : decode b_Rules_keepsBoats 26 = .ok (.iconst 0, 1) := by decide +kernel
theorem d_Rules_keepsBoats_27 : decode b_Rules_keepsBoats 27 = .ok (.ireturn, 1) := by decide +kernel
theorem d_Rules_keepsBoats_28 : decode b_Rules_keepsBoats 28 = .ok (.iconst 1, 1) := by decide +kernel
theorem d_Rules_keepsBoats_29 : decode b_Rules_keepsBoats 29 = .ok (.istore 5, 2) := by decide +kernel
theorem d_Rules_keepsBoats_31 : decode b_Rules_keepsBoats 31 = .ok (.iconst 0, 1) := by decide +kernel
theorem d_Rules_keepsBoats_32 : decode b_Rules_keepsBoats 32 = .ok (.istore 6, 2) := by decide +kernel
theorem d_Rules_keepsBoats_34 : decode b_Rules_keepsBoats 34 = .ok (.iload 6, 2) := by decide +kernel
theorem d_Rules_keepsBoats_36 : decode b_Rules_keepsBoats 36 = .ok (.iload 4, 2) := by decide +kernel
theorem d_Rules_keepsBoats_38 : decode b_Rules_keepsBoats 38 = .ok (.if_icmp .ge 15, 3) := by decide +kernel
theorem d_Rules_keepsBoats_41 : decode b_Rules_keepsBoats 41 = .ok (.iload 5, 2) := by decide +kernel
theorem d_Rules_keepsBoats_43 : decode b_Rules_keepsBoats 43 = .ok (.iload_n 3, 1) := by decide +kernel
theorem d_Rules_keepsBoats_44 : decode b_Rules_keepsBoats 44 = .ok (.imul, 1) := by decide +kernel
theorem d_Rules_keepsBoats_45 : decode b_Rules_keepsBoats 45 = .ok (.istore 5, 2) := by decide +kernel
theorem d_Rules_keepsBoats_47 : decode b_Rules_keepsBoats 47 = .ok (.iinc 6 1, 3) := by decide +kernel
theorem d_Rules_keepsBoats_50 : decode b_Rules_keepsBoats 50 = .ok (.goto (-16), 3) := by decide +kernel
theorem d_Rules_keepsBoats_53 : decode b_Rules_keepsBoats 53 = .ok (.iconst 0, 1) := by decide +kernel
theorem d_Rules_keepsBoats_54 : decode b_Rules_keepsBoats 54 = .ok (.istore 6, 2) := by decide +kernel
theorem d_Rules_keepsBoats_56 : decode b_Rules_keepsBoats 56 = .ok (.iload 6, 2) := by decide +kernel
theorem d_Rules_keepsBoats_58 : decode b_Rules_keepsBoats 58 = .ok (.iload 5, 2) := by decide +kernel
theorem d_Rules_keepsBoats_60 : decode b_Rules_keepsBoats 60 = .ok (.if_icmp .ge 23, 3) := by decide +kernel
theorem d_Rules_keepsBoats_63 : decode b_Rules_keepsBoats 63 = .ok (.aload_n 0, 1) := by decide +kernel
theorem d_Rules_keepsBoats_64 : decode b_Rules_keepsBoats 64 = .ok (.iload 6, 2) := by decide +kernel
theorem d_Rules_keepsBoats_66 : decode b_Rules_keepsBoats 66 = .ok (.iload_n 3, 1) := by decide +kernel
theorem d_Rules_keepsBoats_67 : decode b_Rules_keepsBoats 67 = .ok (.iload 4, 2) := by decide +kernel
theorem d_Rules_keepsBoats_69 : decode b_Rules_keepsBoats 69 = .ok (.invokevirtual 95, 3) := by decide +kernel
theorem d_Rules_keepsBoats_72 : decode b_Rules_keepsBoats 72 = .ok (.ifCond .eq 5, 3) := by decide +kernel
theorem d_Rules_keepsBoats_75 : decode b_Rules_keepsBoats 75 = .ok (.iconst 1, 1) := by decide +kernel
theorem d_Rules_keepsBoats_76 : decode b_Rules_keepsBoats 76 = .ok (.ireturn, 1) := by decide +kernel
theorem d_Rules_keepsBoats_77 : decode b_Rules_keepsBoats 77 = .ok (.iinc 6 1, 3) := by decide +kernel
theorem d_Rules_keepsBoats_80 : decode b_Rules_keepsBoats 80 = .ok (.goto (-24), 3) := by decide +kernel
theorem d_Rules_keepsBoats_83 : decode b_Rules_keepsBoats 83 = .ok (.iconst 0, 1) := by decide +kernel
theorem d_Rules_keepsBoats_84 : decode b_Rules_keepsBoats 84 = .ok (.ireturn, 1) := by decide +kernel
theorem d_Rules_gatherNeeds_0 : decode b_Rules_gatherNeeds 0 = .ok (.iconst 0, 1) := by decide +kernel
theorem d_Rules_gatherNeeds_1 : decode b_Rules_gatherNeeds 1 = .ok (.istore_n 3, 1) := by decide +kernel
theorem d_Rules_gatherNeeds_2 : decode b_Rules_gatherNeeds 2 = .ok (.iconst 0, 1) := by decide +kernel
theorem d_Rules_gatherNeeds_3 : decode b_Rules_gatherNeeds 3 = .ok (.istore 4, 2) := by decide +kernel
theorem d_Rules_gatherNeeds_5 : decode b_Rules_gatherNeeds 5 = .ok (.iload 4, 2) := by decide +kernel
theorem d_Rules_gatherNeeds_7 : decode b_Rules_gatherNeeds 7 = .ok (.aload_n 0, 1) := by decide +kernel
theorem d_Rules_gatherNeeds_8 : decode b_Rules_gatherNeeds 8 = .ok (.getfield 24, 3) := by decide +kernel
theorem d_Rules_gatherNeeds_11 : decode b_Rules_gatherNeeds 11 = .ok (.getfield 41, 3) := by decide +kernel
theorem d_Rules_gatherNeeds_14 : decode b_Rules_gatherNeeds 14 = .ok (.if_icmp .ge 59, 3) := by decide +kernel
theorem d_Rules_gatherNeeds_17 : decode b_Rules_gatherNeeds 17 = .ok (.aload_n 1, 1) := by decide +kernel
theorem d_Rules_gatherNeeds_18 : decode b_Rules_gatherNeeds 18 = .ok (.iload 4, 2) := by decide +kernel
theorem d_Rules_gatherNeeds_20 : decode b_Rules_gatherNeeds 20 = .ok (.iaload, 1) := by decide +kernel
theorem d_Rules_gatherNeeds_21 : decode b_Rules_gatherNeeds 21 = .ok (.iload_n 2, 1) := by decide +kernel
theorem d_Rules_gatherNeeds_22 : decode b_Rules_gatherNeeds 22 = .ok (.if_icmp .ne 45, 3) := by decide +kernel
theorem d_Rules_gatherNeeds_25 : decode b_Rules_gatherNeeds 25 = .ok (.aload_n 0, 1) := by decide +kernel
theorem d_Rules_gatherNeeds_26 : decode b_Rules_gatherNeeds 26 = .ok (.getfield 24, 3) := by decide +kernel
theorem d_Rules_gatherNeeds_29 : decode b_Rules_gatherNeeds 29 = .ok (.getfield 47, 3) := by decide +kernel
theorem d_Rules_gatherNeeds_32 : decode b_Rules_gatherNeeds 32 = .ok (.iload 4, 2) := by decide +kernel
theorem d_Rules_gatherNeeds_34 : decode b_Rules_gatherNeeds 34 = .ok (.aaload, 1) := by decide +kernel
theorem d_Rules_gatherNeeds_35 : decode b_Rules_gatherNeeds 35 = .ok (.getfield 51, 3) := by decide +kernel
theorem d_Rules_gatherNeeds_38 : decode b_Rules_gatherNeeds 38 = .ok (.iload_n 2, 1) := by decide +kernel
theorem d_Rules_gatherNeeds_39 : decode b_Rules_gatherNeeds 39 = .ok (.iaload, 1) := by decide +kernel
theorem d_Rules_gatherNeeds_40 : decode b_Rules_gatherNeeds 40 = .ok (.ifCond .le 27, 3) := by decide +kernel
theorem d_Rules_gatherNeeds_43 : decode b_Rules_gatherNeeds 43 = .ok (.aload_n 0, 1) := by decide +kernel
theorem d_Rules_gatherNeeds_44 : decode b_Rules_gatherNeeds 44 = .ok (.getfield 9, 3) := by decide +kernel
theorem d_Rules_gatherNeeds_47 : decode b_Rules_gatherNeeds 47 = .ok (.iload_n 3, 1) := by decide +kernel
theorem d_Rules_gatherNeeds_48 : decode b_Rules_gatherNeeds 48 = .ok (.aload_n 0, 1) := by decide +kernel
theorem d_Rules_gatherNeeds_49 : decode b_Rules_gatherNeeds 49 = .ok (.getfield 24, 3) := by decide +kernel
theorem d_Rules_gatherNeeds_52 : decode b_Rules_gatherNeeds 52 = .ok (.getfield 47, 3) := by decide +kernel
theorem d_Rules_gatherNeeds_55 : decode b_Rules_gatherNeeds 55 = .ok (.iload 4, 2) := by decide +kernel
theorem d_Rules_gatherNeeds_57 : decode b_Rules_gatherNeeds 57 = .ok (.aaload, 1) := by decide +kernel
theorem d_Rules_gatherNeeds_58 : decode b_Rules_gatherNeeds 58 = .ok (.getfield 51, 3) := by decide +kernel
theorem d_Rules_gatherNeeds_61 : decode b_Rules_gatherNeeds 61 = .ok (.iload_n 2, 1) := by decide +kernel
theorem d_Rules_gatherNeeds_62 : decode b_Rules_gatherNeeds 62 = .ok (.iaload, 1) := by decide +kernel
theorem d_Rules_gatherNeeds_63 : decode b_Rules_gatherNeeds 63 = .ok (.iastore, 1) := by decide +kernel
theorem d_Rules_gatherNeeds_64 : decode b_Rules_gatherNeeds 64 = .ok (.iinc 3 1, 3) := by decide +kernel
theorem d_Rules_gatherNeeds_67 : decode b_Rules_gatherNeeds 67 = .ok (.iinc 4 1, 3) := by decide +kernel
theorem d_Rules_gatherNeeds_70 : decode b_Rules_gatherNeeds 70 = .ok (.goto (-65), 3) := by decide +kernel
theorem d_Rules_gatherNeeds_73 : decode b_Rules_gatherNeeds 73 = .ok (.iload_n 3, 1) := by decide +kernel
theorem d_Rules_gatherNeeds_74 : decode b_Rules_gatherNeeds 74 = .ok (.ireturn, 1) := by decide +kernel
theorem d_Rules_gatherLoads_0 : decode b_Rules_gatherLoads 0 = .ok (.iconst 0, 1) := by decide +kernel
theorem d_Rules_gatherLoads_1 : decode b_Rules_gatherLoads 1 = .ok (.istore_n 2, 1) := by decide +kernel
theorem d_Rules_gatherLoads_2 : decode b_Rules_gatherLoads 2 = .ok (.iconst 0, 1) := by decide +kernel
theorem d_Rules_gatherLoads_3 : decode b_Rules_gatherLoads 3 = .ok (.istore_n 3, 1) := by decide +kernel
theorem d_Rules_gatherLoads_4 : decode b_Rules_gatherLoads 4 = .ok (.iload_n 3, 1) := by decide +kernel
theorem d_Rules_gatherLoads_5 : decode b_Rules_gatherLoads 5 = .ok (.aload_n 0, 1) := by decide +kernel
theorem d_Rules_gatherLoads_6 : decode b_Rules_gatherLoads 6 = .ok (.getfield 24, 3) := by decide +kernel
theorem d_Rules_gatherLoads_9 : decode b_Rules_gatherLoads 9 = .ok (.getfield 99, 3) := by decide +kernel
theorem d_Rules_gatherLoads_12 : decode b_Rules_gatherLoads 12 = .ok (.if_icmp .ge 47, 3) := by decide +kernel
theorem d_Rules_gatherLoads_15 : decode b_Rules_gatherLoads 15 = .ok (.aload_n 0, 1) := by decide +kernel
theorem d_Rules_gatherLoads_16 : decode b_Rules_gatherLoads 16 = .ok (.getfield 24, 3) := by decide +kernel
theorem d_Rules_gatherLoads_19 : decode b_Rules_gatherLoads 19 = .ok (.getfield 102, 3) := by decide +kernel
theorem d_Rules_gatherLoads_22 : decode b_Rules_gatherLoads 22 = .ok (.iload_n 3, 1) := by decide +kernel
theorem d_Rules_gatherLoads_23 : decode b_Rules_gatherLoads 23 = .ok (.aaload, 1) := by decide +kernel
theorem d_Rules_gatherLoads_24 : decode b_Rules_gatherLoads 24 = .ok (.getfield 106, 3) := by decide +kernel
theorem d_Rules_gatherLoads_27 : decode b_Rules_gatherLoads 27 = .ok (.iload_n 1, 1) := by decide +kernel
theorem d_Rules_gatherLoads_28 : decode b_Rules_gatherLoads 28 = .ok (.baload, 1) := by decide +kernel
theorem d_Rules_gatherLoads_29 : decode b_Rules_gatherLoads 29 = .ok (.ifCond .ne 24, 3) := by decide +kernel
theorem d_Rules_gatherLoads_32 : decode b_Rules_gatherLoads 32 = .ok (.aload_n 0, 1) := by decide +kernel
theorem d_Rules_gatherLoads_33 : decode b_Rules_gatherLoads 33 = .ok (.getfield 15, 3) := by decide +kernel
theorem d_Rules_gatherLoads_36 : decode b_Rules_gatherLoads 36 = .ok (.iload_n 2, 1) := by decide +kernel
theorem d_Rules_gatherLoads_37 : decode b_Rules_gatherLoads 37 = .ok (.aload_n 0, 1) := by decide +kernel
theorem d_Rules_gatherLoads_38 : decode b_Rules_gatherLoads 38 = .ok (.getfield 24, 3) := by decide +kernel
theorem d_Rules_gatherLoads_41 : decode b_Rules_gatherLoads 41 = .ok (.getfield 102, 3) := by decide +kernel
theorem d_Rules_gatherLoads_44 : decode b_Rules_gatherLoads 44 = .ok (.iload_n 3, 1) := by decide +kernel
theorem d_Rules_gatherLoads_45 : decode b_Rules_gatherLoads 45 = .ok (.aaload, 1) := by decide +kernel
theorem d_Rules_gatherLoads_46 : decode b_Rules_gatherLoads 46 = .ok (.getfield 111, 3) := by decide +kernel
theorem d_Rules_gatherLoads_49 : decode b_Rules_gatherLoads 49 = .ok (.iastore, 1) := by decide +kernel
theorem d_Rules_gatherLoads_50 : decode b_Rules_gatherLoads 50 = .ok (.iinc 2 1, 3) := by decide +kernel
theorem d_Rules_gatherLoads_53 : decode b_Rules_gatherLoads 53 = .ok (.iinc 3 1, 3) := by decide +kernel
theorem d_Rules_gatherLoads_56 : decode b_Rules_gatherLoads 56 = .ok (.goto (-52), 3) := by decide +kernel
theorem d_Rules_gatherLoads_59 : decode b_Rules_gatherLoads 59 = .ok (.iload_n 2, 1) := by decide +kernel
theorem d_Rules_gatherLoads_60 : decode b_Rules_gatherLoads 60 = .ok (.ireturn, 1) := by decide +kernel
theorem d_Rules_carriesAll_0 : decode b_Rules_carriesAll 0 = .ok (.aload_n 0, 1) := by decide +kernel
theorem d_Rules_carriesAll_1 : decode b_Rules_carriesAll 1 = .ok (.getfield 9, 3) := by decide +kernel
theorem d_Rules_carriesAll_4 : decode b_Rules_carriesAll 4 = .ok (.iconst 0, 1) := by decide +kernel
theorem d_Rules_carriesAll_5 : decode b_Rules_carriesAll 5 = .ok (.aload_n 0, 1) := by decide +kernel
theorem d_Rules_carriesAll_6 : decode b_Rules_carriesAll 6 = .ok (.getfield 18, 3) := by decide +kernel
theorem d_Rules_carriesAll_9 : decode b_Rules_carriesAll 9 = .ok (.iconst 0, 1) := by decide +kernel
theorem d_Rules_carriesAll_10 : decode b_Rules_carriesAll 10 = .ok (.iload_n 2, 1) := by decide +kernel
theorem d_Rules_carriesAll_11 : decode b_Rules_carriesAll 11 = .ok (.invokestatic 114, 3) := by decide +kernel
theorem d_Rules_carriesAll_14 : decode b_Rules_carriesAll 14 = .ok (.iload_n 1, 1) := by decide +kernel
theorem d_Rules_carriesAll_15 : decode b_Rules_carriesAll 15 = .ok (.istore 4, 2) := by decide +kernel
theorem d_Rules_carriesAll_17 : decode b_Rules_carriesAll 17 = .ok (.iconst 0, 1) := by decide +kernel
theorem d_Rules_carriesAll_18 : decode b_Rules_carriesAll 18 = .ok (.istore 5, 2) := by decide +kernel
theorem d_Rules_carriesAll_20 : decode b_Rules_carriesAll 20 = .ok (.iload 5, 2) := by decide +kernel
theorem d_Rules_carriesAll_22 : decode b_Rules_carriesAll 22 = .ok (.iload_n 3, 1) := by decide +kernel
theorem d_Rules_carriesAll_23 : decode b_Rules_carriesAll 23 = .ok (.if_icmp .ge 34, 3) := by decide +kernel
theorem d_Rules_carriesAll_26 : decode b_Rules_carriesAll 26 = .ok (.aload_n 0, 1) := by decide +kernel
theorem d_Rules_carriesAll_27 : decode b_Rules_carriesAll 27 = .ok (.getfield 18, 3) := by decide +kernel
theorem d_Rules_carriesAll_30 : decode b_Rules_carriesAll 30 = .ok (.iload 4, 2) := by decide +kernel
theorem d_Rules_carriesAll_32 : decode b_Rules_carriesAll 32 = .ok (.iload_n 2, 1) := by decide +kernel
theorem d_Rules_carriesAll_33 : decode b_Rules_carriesAll 33 = .ok (.irem, 1) := by decide +kernel
theorem d_Rules_carriesAll_34 : decode b_Rules_carriesAll 34 = .ok (.dup2, 1) := by decide +kernel
theorem d_Rules_carriesAll_35 : decode b_Rules_carriesAll 35 = .ok (.iaload, 1) := by decide +kernel
theorem d_Rules_carriesAll_36 : decode b_Rules_carriesAll 36 = .ok (.aload_n 0, 1) := by decide +kernel
theorem d_Rules_carriesAll_37 : decode b_Rules_carriesAll 37 = .ok (.getfield 15, 3) := by decide +kernel
theorem d_Rules_carriesAll_40 : decode b_Rules_carriesAll 40 = .ok (.iload 5, 2) := by decide +kernel
theorem d_Rules_carriesAll_42 : decode b_Rules_carriesAll 42 = .ok (.iaload, 1) := by decide +kernel
theorem d_Rules_carriesAll_43 : decode b_Rules_carriesAll 43 = .ok (.isub, 1) := by decide +kernel
theorem d_Rules_carriesAll_44 : decode b_Rules_carriesAll 44 = .ok (.iastore, 1) := by decide +kernel
theorem d_Rules_carriesAll_45 : decode b_Rules_carriesAll 45 = .ok (.iload 4, 2) := by decide +kernel
theorem d_Rules_carriesAll_47 : decode b_Rules_carriesAll 47 = .ok (.iload_n 2, 1) := by decide +kernel
theorem d_Rules_carriesAll_48 : decode b_Rules_carriesAll 48 = .ok (.idiv, 1) := by decide +kernel
theorem d_Rules_carriesAll_49 : decode b_Rules_carriesAll 49 = .ok (.istore 4, 2) := by decide +kernel
theorem d_Rules_carriesAll_51 : decode b_Rules_carriesAll 51 = .ok (.iinc 5 1, 3) := by decide +kernel
theorem d_Rules_carriesAll_54 : decode b_Rules_carriesAll 54 = .ok (.goto (-34), 3) := by decide +kernel
theorem d_Rules_carriesAll_57 : decode b_Rules_carriesAll 57 = .ok (.iconst 0, 1) := by decide +kernel
theorem d_Rules_carriesAll_58 : decode b_Rules_carriesAll 58 = .ok (.istore 5, 2) := by decide +kernel
theorem d_Rules_carriesAll_60 : decode b_Rules_carriesAll 60 = .ok (.iload 5, 2) := by decide +kernel
theorem d_Rules_carriesAll_62 : decode b_Rules_carriesAll 62 = .ok (.iload_n 2, 1) := by decide +kernel
theorem d_Rules_carriesAll_63 : decode b_Rules_carriesAll 63 = .ok (.if_icmp .ge 21, 3) := by decide +kernel
theorem d_Rules_carriesAll_66 : decode b_Rules_carriesAll 66 = .ok (.aload_n 0, 1) := by decide +kernel
theorem d_Rules_carriesAll_67 : decode b_Rules_carriesAll 67 = .ok (.getfield 18, 3) := by decide +kernel
theorem d_Rules_carriesAll_70 : decode b_Rules_carriesAll 70 = .ok (.iload 5, 2) := by decide +kernel
theorem d_Rules_carriesAll_72 : decode b_Rules_carriesAll 72 = .ok (.iaload, 1) := by decide +kernel
theorem d_Rules_carriesAll_73 : decode b_Rules_carriesAll 73 = .ok (.ifCond .le 5, 3) := by decide +kernel
theorem d_Rules_carriesAll_76 : decode b_Rules_carriesAll 76 = .ok (.iconst 0, 1) := by decide +kernel
theorem d_Rules_carriesAll_77 : decode b_Rules_carriesAll 77 = .ok (.ireturn, 1) := by decide +kernel
theorem d_Rules_carriesAll_78 : decode b_Rules_carriesAll 78 = .ok (.iinc 5 1, 3) := by decide +kernel
theorem d_Rules_carriesAll_81 : decode b_Rules_carriesAll 81 = .ok (.goto (-21), 3) := by decide +kernel
theorem d_Rules_carriesAll_84 : decode b_Rules_carriesAll 84 = .ok (.iconst 1, 1) := by decide +kernel
theorem d_Rules_carriesAll_85 : decode b_Rules_carriesAll 85 = .ok (.ireturn, 1) := by decide +kernel
theorem d_Sales_init_0 : decode b_Sales_init 0 = .ok (.aload_n 0, 1) := by decide +kernel
theorem d_Sales_init_1 : decode b_Sales_init 1 = .ok (.invokespecial 3, 3) := by decide +kernel
theorem d_Sales_init_4 : decode b_Sales_init 4 = .ok (.aload_n 0, 1) := by decide +kernel
theorem d_Sales_init_5 : decode b_Sales_init 5 = .ok (.bipush 6, 2) := by decide +kernel
theorem d_Sales_init_7 : decode b_Sales_init 7 = .ok (.newarray .int, 2) := by decide +kernel
theorem d_Sales_init_9 : decode b_Sales_init 9 = .ok (.putfield 9, 3) := by decide +kernel
theorem d_Sales_init_12 : decode b_Sales_init 12 = .ok (.aload_n 0, 1) := by decide +kernel
theorem d_Sales_init_13 : decode b_Sales_init 13 = .ok (.bipush 6, 2) := by decide +kernel
theorem d_Sales_init_15 : decode b_Sales_init 15 = .ok (.newarray .int, 2) := by decide +kernel
theorem d_Sales_init_17 : decode b_Sales_init 17 = .ok (.putfield 15, 3) := by decide +kernel
theorem d_Sales_init_20 : decode b_Sales_init 20 = .ok (.aload_n 0, 1) := by decide +kernel
theorem d_Sales_init_21 : decode b_Sales_init 21 = .ok (.aload_n 1, 1) := by decide +kernel
theorem d_Sales_init_22 : decode b_Sales_init 22 = .ok (.putfield 18, 3) := by decide +kernel
theorem d_Sales_init_25 : decode b_Sales_init 25 = .ok (.return_, 1) := by decide +kernel
theorem d_Sales_sellAll_0 : decode b_Sales_sellAll 0 = .ok (.iconst 0, 1) := by decide +kernel
theorem d_Sales_sellAll_1 : decode b_Sales_sellAll 1 = .ok (.istore_n 2, 1) := by decide +kernel
theorem d_Sales_sellAll_2 : decode b_Sales_sellAll 2 = .ok (.iload_n 2, 1) := by decide +kernel
theorem d_Sales_sellAll_3 : decode b_Sales_sellAll 3 = .ok (.aload_n 0, 1) := by decide +kernel
theorem d_Sales_sellAll_4 : decode b_Sales_sellAll 4 = .ok (.getfield 18, 3) := by decide +kernel
theorem d_Sales_sellAll_7 : decode b_Sales_sellAll 7 = .ok (.getfield 22, 3) := by decide +kernel
theorem d_Sales_sellAll_10 : decode b_Sales_sellAll 10 = .ok (.if_icmp .ge 42, 3) := by decide +kernel
theorem d_Sales_sellAll_13 : decode b_Sales_sellAll 13 = .ok (.aload_n 0, 1) := by decide +kernel
theorem d_Sales_sellAll_14 : decode b_Sales_sellAll 14 = .ok (.getfield 9, 3) := by decide +kernel
theorem d_Sales_sellAll_17 : decode b_Sales_sellAll 17 = .ok (.iload_n 2, 1) := by decide +kernel
theorem d_Sales_sellAll_18 : decode b_Sales_sellAll 18 = .ok (.aload_n 1, 1) := by decide +kernel
theorem d_Sales_sellAll_19 : decode b_Sales_sellAll 19 = .ok (.iload_n 2, 1) := by decide +kernel
theorem d_Sales_sellAll_20 : decode b_Sales_sellAll 20 = .ok (.iaload, 1) := by decide +kernel
theorem d_Sales_sellAll_21 : decode b_Sales_sellAll 21 = .ok (.iconst (-1), 1) := by decide +kernel
theorem d_Sales_sellAll_22 : decode b_Sales_sellAll 22 = .ok (.if_icmp .ne 7, 3) := by decide +kernel
theorem d_Sales_sellAll_25 : decode b_Sales_sellAll 25 = .ok (.iconst 0, 1) := by decide +kernel
theorem d_Sales_sellAll_26 : decode b_Sales_sellAll 26 = .ok (.goto 19, 3) := by decide +kernel
theorem d_Sales_sellAll_29 : decode b_Sales_sellAll 29 = .ok (.aload_n 0, 1) := by decide +kernel
theorem d_Sales_sellAll_30 : decode b_Sales_sellAll 30 = .ok (.getfield 18, 3) := by decide +kernel
theorem d_Sales_sellAll_33 : decode b_Sales_sellAll 33 = .ok (.getfield 28, 3) := by decide +kernel
theorem d_Sales_sellAll_36 : decode b_Sales_sellAll 36 = .ok (.iload_n 2, 1) := by decide +kernel
theorem d_Sales_sellAll_37 : decode b_Sales_sellAll 37 = .ok (.aaload, 1) := by decide +kernel
theorem d_Sales_sellAll_38 : decode b_Sales_sellAll 38 = .ok (.getfield 32, 3) := by decide +kernel
theorem d_Sales_sellAll_41 : decode b_Sales_sellAll 41 = .ok (.aload_n 1, 1) := by decide +kernel
theorem d_Sales_sellAll_42 : decode b_Sales_sellAll 42 = .ok (.iload_n 2, 1) := by decide +kernel
theorem d_Sales_sellAll_43 : decode b_Sales_sellAll 43 = .ok (.iaload, 1) := by decide +kernel
theorem d_Sales_sellAll_44 : decode b_Sales_sellAll 44 = .ok (.iaload, 1) := by decide +kernel
theorem d_Sales_sellAll_45 : decode b_Sales_sellAll 45 = .ok (.iastore, 1) := by decide +kernel
theorem d_Sales_sellAll_46 : decode b_Sales_sellAll 46 = .ok (.iinc 2 1, 3) := by decide +kernel
theorem d_Sales_sellAll_49 : decode b_Sales_sellAll 49 = .ok (.goto (-47), 3) := by decide +kernel
theorem d_Sales_sellAll_52 : decode b_Sales_sellAll 52 = .ok (.lconst 0, 1) := by decide +kernel
theorem d_Sales_sellAll_53 : decode b_Sales_sellAll 53 = .ok (.lstore_n 2, 1) := by decide +kernel
theorem d_Sales_sellAll_54 : decode b_Sales_sellAll 54 = .ok (.iconst 0, 1) := by decide +kernel
theorem d_Sales_sellAll_55 : decode b_Sales_sellAll 55 = .ok (.istore 4, 2) := by decide +kernel
theorem d_Sales_sellAll_57 : decode b_Sales_sellAll 57 = .ok (.iload 4, 2) := by decide +kernel
theorem d_Sales_sellAll_59 : decode b_Sales_sellAll 59 = .ok (.aload_n 0, 1) := by decide +kernel
theorem d_Sales_sellAll_60 : decode b_Sales_sellAll 60 = .ok (.getfield 18, 3) := by decide +kernel
theorem d_Sales_sellAll_63 : decode b_Sales_sellAll 63 = .ok (.getfield 37, 3) := by decide +kernel
theorem d_Sales_sellAll_66 : decode b_Sales_sellAll 66 = .ok (.if_icmp .ge 69, 3) := by decide +kernel
theorem d_Sales_sellAll_69 : decode b_Sales_sellAll 69 = .ok (.aload_n 0, 1) := by decide +kernel
theorem d_Sales_sellAll_70 : decode b_Sales_sellAll 70 = .ok (.getfield 18, 3) := by decide +kernel
theorem d_Sales_sellAll_73 : decode b_Sales_sellAll 73 = .ok (.getfield 40, 3) := by decide +kernel
theorem d_Sales_sellAll_76 : decode b_Sales_sellAll 76 = .ok (.iload 4, 2) := by decide +kernel
theorem d_Sales_sellAll_78 : decode b_Sales_sellAll 78 = .ok (.iaload, 1) := by decide +kernel
theorem d_Sales_sellAll_79 : decode b_Sales_sellAll 79 = .ok (.istore 5, 2) := by decide +kernel
theorem d_Sales_sellAll_81 : decode b_Sales_sellAll 81 = .ok (.aload_n 0, 1) := by decide +kernel
theorem d_Sales_sellAll_82 : decode b_Sales_sellAll 82 = .ok (.getfield 15, 3) := by decide +kernel
theorem d_Sales_sellAll_85 : decode b_Sales_sellAll 85 = .ok (.iload 5, 2) := by decide +kernel
theorem d_Sales_sellAll_87 : decode b_Sales_sellAll 87 = .ok (.aload_n 0, 1) := by decide +kernel
theorem d_Sales_sellAll_88 : decode b_Sales_sellAll 88 = .ok (.aload_n 0, 1) := by decide +kernel
theorem d_Sales_sellAll_89 : decode b_Sales_sellAll 89 = .ok (.getfield 18, 3) := by decide +kernel
theorem d_Sales_sellAll_92 : decode b_Sales_sellAll 92 = .ok (.getfield 43, 3) := by decide +kernel
theorem d_Sales_sellAll_95 : decode b_Sales_sellAll 95 = .ok (.iload 5, 2) := by decide +kernel
theorem d_Sales_sellAll_97 : decode b_Sales_sellAll 97 = .ok (.aaload, 1) := by decide +kernel
theorem d_Sales_sellAll_98 : decode b_Sales_sellAll 98 = .ok (.aload_n 1, 1) := by decide +kernel
theorem d_Sales_sellAll_99 : decode b_Sales_sellAll 99 = .ok (.invokevirtual 47, 3) := by decide +kernel
theorem d_Sales_sellAll_102 : decode b_Sales_sellAll 102 = .ok (.iastore, 1) := by decide +kernel
theorem d_Sales_sellAll_103 : decode b_Sales_sellAll 103 = .ok (.lload_n 2, 1) := by decide +kernel
theorem d_Sales_sellAll_104 : decode b_Sales_sellAll 104 = .ok (.aload_n 0, 1) := by decide +kernel
theorem d_Sales_sellAll_105 : decode b_Sales_sellAll 105 = .ok (.getfield 15, 3) := by decide +kernel
theorem d_Sales_sellAll_108 : decode b_Sales_sellAll 108 = .ok (.iload 5, 2) := by decide +kernel
theorem d_Sales_sellAll_110 : decode b_Sales_sellAll 110 = .ok (.iaload, 1) := by decide +kernel
theorem d_Sales_sellAll_111 : decode b_Sales_sellAll 111 = .ok (.i2l, 1) := by decide +kernel
theorem d_Sales_sellAll_112 : decode b_Sales_sellAll 112 = .ok (.aload_n 0, 1) := by decide +kernel
theorem d_Sales_sellAll_113 : decode b_Sales_sellAll 113 = .ok (.getfield 18, 3) := by decide +kernel
theorem d_Sales_sellAll_116 : decode b_Sales_sellAll 116 = .ok (.getfield 43, 3) := by decide +kernel
theorem d_Sales_sellAll_119 : decode b_Sales_sellAll 119 = .ok (.iload 5, 2) := by decide +kernel
theorem d_Sales_sellAll_121 : decode b_Sales_sellAll 121 = .ok (.aaload, 1) := by decide +kernel
theorem d_Sales_sellAll_122 : decode b_Sales_sellAll 122 = .ok (.getfield 51, 3) := by decide +kernel
theorem d_Sales_sellAll_125 : decode b_Sales_sellAll 125 = .ok (.i2l, 1) := by decide +kernel
theorem d_Sales_sellAll_126 : decode b_Sales_sellAll 126 = .ok (.lmul, 1) := by decide +kernel
theorem d_Sales_sellAll_127 : decode b_Sales_sellAll 127 = .ok (.ladd, 1) := by decide +kernel
theorem d_Sales_sellAll_128 : decode b_Sales_sellAll 128 = .ok (.lstore_n 2, 1) := by decide +kernel
theorem d_Sales_sellAll_129 : decode b_Sales_sellAll 129 = .ok (.iinc 4 1, 3) := by decide +kernel
theorem d_Sales_sellAll_132 : decode b_Sales_sellAll 132 = .ok (.goto (-75), 3) := by decide +kernel
theorem d_Sales_sellAll_135 : decode b_Sales_sellAll 135 = .ok (.lload_n 2, 1) := by decide +kernel
theorem d_Sales_sellAll_136 : decode b_Sales_sellAll 136 = .ok (.aload_n 0, 1) := by decide +kernel
theorem d_Sales_sellAll_137 : decode b_Sales_sellAll 137 = .ok (.aload_n 1, 1) := by decide +kernel
theorem d_Sales_sellAll_138 : decode b_Sales_sellAll 138 = .ok (.invokevirtual 56, 3) := by decide +kernel
theorem d_Sales_sellAll_141 : decode b_Sales_sellAll 141 = .ok (.ladd, 1) := by decide +kernel
theorem d_Sales_sellAll_142 : decode b_Sales_sellAll 142 = .ok (.lreturn, 1) := by decide +kernel
theorem d_Sales_serve_0 : decode b_Sales_serve 0 = .ok (.iconst 0, 1) := by decide +kernel
theorem d_Sales_serve_1 : decode b_Sales_serve 1 = .ok (.istore_n 3, 1) := by decide +kernel
theorem d_Sales_serve_2 : decode b_Sales_serve 2 = .ok (.iconst 0, 1) := by decide +kernel
theorem d_Sales_serve_3 : decode b_Sales_serve 3 = .ok (.istore 4, 2) := by decide +kernel
theorem d_Sales_serve_5 : decode b_Sales_serve 5 = .ok (.iload 4, 2) := by decide +kernel
theorem d_Sales_serve_7 : decode b_Sales_serve 7 = .ok (.aload_n 0, 1) := by decide +kernel
theorem d_Sales_serve_8 : decode b_Sales_serve 8 = .ok (.getfield 18, 3) := by decide +kernel
theorem d_Sales_serve_11 : decode b_Sales_serve 11 = .ok (.getfield 22, 3) := by decide +kernel
theorem d_Sales_serve_14 : decode b_Sales_serve 14 = .ok (.if_icmp .ge 65, 3) := by decide +kernel
theorem d_Sales_serve_17 : decode b_Sales_serve 17 = .ok (.aload_n 1, 1) := by decide +kernel
theorem d_Sales_serve_18 : decode b_Sales_serve 18 = .ok (.aload_n 0, 1) := by decide +kernel
theorem d_Sales_serve_19 : decode b_Sales_serve 19 = .ok (.getfield 18, 3) := by decide +kernel
theorem d_Sales_serve_22 : decode b_Sales_serve 22 = .ok (.getfield 28, 3) := by decide +kernel
theorem d_Sales_serve_25 : decode b_Sales_serve 25 = .ok (.iload 4, 2) := by decide +kernel
theorem d_Sales_serve_27 : decode b_Sales_serve 27 = .ok (.aaload, 1) := by decide +kernel
theorem d_Sales_serve_28 : decode b_Sales_serve 28 = .ok (.aload_n 2, 1) := by decide +kernel
theorem d_Sales_serve_29 : decode b_Sales_serve 29 = .ok (.iload 4, 2) := by decide +kernel
theorem d_Sales_serve_31 : decode b_Sales_serve 31 = .ok (.iaload, 1) := by decide +kernel
theorem d_Sales_serve_32 : decode b_Sales_serve 32 = .ok (.invokevirtual 60, 3) := by decide +kernel
theorem d_Sales_serve_35 : decode b_Sales_serve 35 = .ok (.ifCond .eq 38, 3) := by decide +kernel
theorem d_Sales_serve_38 : decode b_Sales_serve 38 = .ok (.aload_n 0, 1) := by decide +kernel
theorem d_Sales_serve_39 : decode b_Sales_serve 39 = .ok (.getfield 9, 3) := by decide +kernel
theorem d_Sales_serve_42 : decode b_Sales_serve 42 = .ok (.iload 4, 2) := by decide +kernel
theorem d_Sales_serve_44 : decode b_Sales_serve 44 = .ok (.iaload, 1) := by decide +kernel
theorem d_Sales_serve_45 : decode b_Sales_serve 45 = .ok (.aload_n 1, 1) := by decide +kernel
theorem d_Sales_serve_46 : decode b_Sales_serve 46 = .ok (.getfield 64, 3) := by decide +kernel
theorem d_Sales_serve_49 : decode b_Sales_serve 49 = .ok (.iload_n 3, 1) := by decide +kernel
theorem d_Sales_serve_50 : decode b_Sales_serve 50 = .ok (.isub, 1) := by decide +kernel
theorem d_Sales_serve_51 : decode b_Sales_serve 51 = .ok (.invokestatic 66, 3) := by decide +kernel
theorem d_Sales_serve_54 : decode b_Sales_serve 54 = .ok (.istore 5, 2) := by decide +kernel
theorem d_Sales_serve_56 : decode b_Sales_serve 56 = .ok (.aload_n 0, 1) := by decide +kernel
theorem d_Sales_serve_57 : decode b_Sales_serve 57 = .ok (.getfield 9, 3) := by decide +kernel
theorem d_Sales_serve_60 : decode b_Sales_serve 60 = .ok (.iload 4, 2) := by decide +kernel
theorem d_Sales_serve_62 : decode b_Sales_serve 62 = .ok (.dup2, 1) := by decide +kernel
theorem d_Sales_serve_63 : decode b_Sales_serve 63 = .ok (.iaload, 1) := by decide +kernel
theorem d_Sales_serve_64 : decode b_Sales_serve 64 = .ok (.iload 5, 2) := by decide +kernel
theorem d_Sales_serve_66 : decode b_Sales_serve 66 = .ok (.isub, 1) := by decide +kernel
theorem d_Sales_serve_67 : decode b_Sales_serve 67 = .ok (.iastore, 1) := by decide +kernel
theorem d_Sales_serve_68 : decode b_Sales_serve 68 = .ok (.iload_n 3, 1) := by decide +kernel
theorem d_Sales_serve_69 : decode b_Sales_serve 69 = .ok (.iload 5, 2) := by decide +kernel
theorem d_Sales_serve_71 : decode b_Sales_serve 71 = .ok (.iadd, 1) := by decide +kernel
theorem d_Sales_serve_72 : decode b_Sales_serve 72 = .ok (.istore_n 3, 1) := by decide +kernel
theorem d_Sales_serve_73 : decode b_Sales_serve 73 = .ok (.iinc 4 1, 3) := by decide +kernel
theorem d_Sales_serve_76 : decode b_Sales_serve 76 = .ok (.goto (-71), 3) := by decide +kernel
theorem d_Sales_serve_79 : decode b_Sales_serve 79 = .ok (.iload_n 3, 1) := by decide +kernel
theorem d_Sales_serve_80 : decode b_Sales_serve 80 = .ok (.ireturn, 1) := by decide +kernel
theorem d_Sales_priceOfRest_0 : decode b_Sales_priceOfRest 0 = .ok (.lconst 0, 1) := by decide +kernel
theorem d_Sales_priceOfRest_1 : decode b_Sales_priceOfRest 1 = .ok (.lstore_n 2, 1) := by decide +kernel
theorem d_Sales_priceOfRest_2 : decode b_Sales_priceOfRest 2 = .ok (.iconst 0, 1) := by decide +kernel
theorem d_Sales_priceOfRest_3 : decode b_Sales_priceOfRest 3 = .ok (.istore 4, 2) := by decide +kernel
theorem d_Sales_priceOfRest_5 : decode b_Sales_priceOfRest 5 = .ok (.iload 4, 2) := by decide +kernel
theorem d_Sales_priceOfRest_7 : decode b_Sales_priceOfRest 7 = .ok (.aload_n 0, 1) := by decide +kernel
theorem d_Sales_priceOfRest_8 : decode b_Sales_priceOfRest 8 = .ok (.getfield 18, 3) := by decide +kernel
theorem d_Sales_priceOfRest_11 : decode b_Sales_priceOfRest 11 = .ok (.getfield 22, 3) := by decide +kernel
theorem d_Sales_priceOfRest_14 : decode b_Sales_priceOfRest 14 = .ok (.if_icmp .ge 49, 3) := by decide +kernel
theorem d_Sales_priceOfRest_17 : decode b_Sales_priceOfRest 17 = .ok (.lload_n 2, 1) := by decide +kernel
theorem d_Sales_priceOfRest_18 : decode b_Sales_priceOfRest 18 = .ok (.aload_n 1, 1) := by decide +kernel
theorem d_Sales_priceOfRest_19 : decode b_Sales_priceOfRest 19 = .ok (.iload 4, 2) := by decide +kernel
theorem d_Sales_priceOfRest_21 : decode b_Sales_priceOfRest 21 = .ok (.iaload, 1) := by decide +kernel
theorem d_Sales_priceOfRest_22 : decode b_Sales_priceOfRest 22 = .ok (.iconst (-1), 1) := by decide +kernel
theorem d_Sales_priceOfRest_23 : decode b_Sales_priceOfRest 23 = .ok (.if_icmp .ne 15, 3) := by decide +kernel
theorem d_Sales_priceOfRest_26 : decode b_Sales_priceOfRest 26 = .ok (.aload_n 0, 1) := by decide +kernel
theorem d_Sales_priceOfRest_27 : decode b_Sales_priceOfRest 27 = .ok (.getfield 18, 3) := by decide +kernel
theorem d_Sales_priceOfRest_30 : decode b_Sales_priceOfRest 30 = .ok (.iload 4, 2) := by decide +kernel
theorem d_Sales_priceOfRest_32 : decode b_Sales_priceOfRest 32 = .ok (.invokevirtual 72, 3) := by decide +kernel
theorem d_Sales_priceOfRest_35 : decode b_Sales_priceOfRest 35 = .ok (.goto 20, 3) := by decide +kernel
theorem d_Sales_priceOfRest_38 : decode b_Sales_priceOfRest 38 = .ok (.aload_n 0, 1) := by decide +kernel
theorem d_Sales_priceOfRest_39 : decode b_Sales_priceOfRest 39 = .ok (.getfield 9, 3) := by decide +kernel
theorem d_Sales_priceOfRest_42 : decode b_Sales_priceOfRest 42 = .ok (.iload 4, 2) := by decide +kernel
theorem d_Sales_priceOfRest_44 : decode b_Sales_priceOfRest 44 = .ok (.iaload, 1) := by decide +kernel
theorem d_Sales_priceOfRest_45 : decode b_Sales_priceOfRest 45 = .ok (.i2l, 1) := by decide +kernel
theorem d_Sales_priceOfRest_46 : decode b_Sales_priceOfRest 46 = .ok (.aload_n 0, 1) := by decide +kernel
theorem d_Sales_priceOfRest_47 : decode b_Sales_priceOfRest 47 = .ok (.getfield 18, 3) := by decide +kernel
theorem d_Sales_priceOfRest_50 : decode b_Sales_priceOfRest 50 = .ok (.getfield 76, 3) := by decide +kernel
theorem d_Sales_priceOfRest_53 : decode b_Sales_priceOfRest 53 = .ok (.i2l, 1) := by decide +kernel
theorem d_Sales_priceOfRest_54 : decode b_Sales_priceOfRest 54 = .ok (.lmul, 1) := by decide +kernel
theorem d_Sales_priceOfRest_55 : decode b_Sales_priceOfRest 55 = .ok (.ladd, 1) := by decide +kernel
theorem d_Sales_priceOfRest_56 : decode b_Sales_priceOfRest 56 = .ok (.lstore_n 2, 1) := by decide +kernel
theorem d_Sales_priceOfRest_57 : decode b_Sales_priceOfRest 57 = .ok (.iinc 4 1, 3) := by decide +kernel
theorem d_Sales_priceOfRest_60 : decode b_Sales_priceOfRest 60 = .ok (.goto (-55), 3) := by decide +kernel
theorem d_Sales_priceOfRest_63 : decode b_Sales_priceOfRest 63 = .ok (.lload_n 2, 1) := by decide +kernel
theorem d_Sales_priceOfRest_64 : decode b_Sales_priceOfRest 64 = .ok (.lreturn, 1) := by decide +kernel
theorem d_Search_init_0 : decode b_Search_init 0 = .ok (.aload_n 0, 1) := by decide +kernel
theorem d_Search_init_1 : decode b_Search_init 1 = .ok (.invokespecial 3, 3) := by decide +kernel
theorem d_Search_init_4 : decode b_Search_init 4 = .ok (.aload_n 0, 1) := by decide +kernel
theorem d_Search_init_5 : decode b_Search_init 5 = .ok (.bipush 6, 2) := by decide +kernel
theorem d_Search_init_7 : decode b_Search_init 7 = .ok (.newarray .int, 2) := by decide +kernel
theorem d_Search_init_9 : decode b_Search_init 9 = .ok (.putfield 9, 3) := by decide +kernel
theorem d_Search_init_12 : decode b_Search_init 12 = .ok (.aload_n 0, 1) := by decide +kernel
theorem d_Search_init_13 : decode b_Search_init 13 = .ok (.bipush 6, 2) := by decide +kernel
theorem d_Search_init_15 : decode b_Search_init 15 = .ok (.newarray .int, 2) := by decide +kernel
theorem d_Search_init_17 : decode b_Search_init 17 = .ok (.putfield 15, 3) := by decide +kernel
theorem d_Search_init_20 : decode b_Search_init 20 = .ok (.aload_n 0, 1) := by decide +kernel
theorem d_Search_init_21 : decode b_Search_init 21 = .ok (.bipush 7, 2) := by decide +kernel
theorem d_Search_init_23 : decode b_Search_init 23 = .ok (.newarray .long, 2) := by decide +kernel
theorem d_Search_init_25 : decode b_Search_init 25 = .ok (.putfield 18, 3) := by decide +kernel
theorem d_Search_init_28 : decode b_Search_init 28 = .ok (.aload_n 0, 1) := by decide +kernel
theorem d_Search_init_29 : decode b_Search_init 29 = .ok (.ldc2_w 22, 3) := by decide +kernel
theorem d_Search_init_32 : decode b_Search_init 32 = .ok (.putfield 24, 3) := by decide +kernel
theorem d_Search_init_35 : decode b_Search_init 35 = .ok (.aload_n 0, 1) := by decide +kernel
theorem d_Search_init_36 : decode b_Search_init 36 = .ok (.aload_n 1, 1) := by decide +kernel
theorem d_Search_init_37 : decode b_Search_init 37 = .ok (.putfield 28, 3) := by decide +kernel
theorem d_Search_init_40 : decode b_Search_init 40 = .ok (.aload_n 0, 1) := by decide +kernel
theorem d_Search_init_41 : decode b_Search_init 41 = .ok (.aload_n 2, 1) := by decide +kernel
theorem d_Search_init_42 : decode b_Search_init 42 = .ok (.putfield 32, 3) := by decide +kernel
theorem d_Search_init_45 : decode b_Search_init 45 = .ok (.aload_n 0, 1) := by decide +kernel
theorem d_Search_init_46 : decode b_Search_init 46 = .ok (.aload_n 3, 1) := by decide +kernel
theorem d_Search_init_47 : decode b_Search_init 47 = .ok (.putfield 36, 3) := by decide +kernel
theorem d_Search_init_50 : decode b_Search_init 50 = .ok (.return_, 1) := by decide +kernel
theorem d_Search_start_0 : decode b_Search_start 0 = .ok (.aload_n 0, 1) := by decide +kernel
theorem d_Search_start_1 : decode b_Search_start 1 = .ok (.iload_n 1, 1) := by decide +kernel
theorem d_Search_start_2 : decode b_Search_start 2 = .ok (.putfield 40, 3) := by decide +kernel
theorem d_Search_start_5 : decode b_Search_start 5 = .ok (.aload_n 0, 1) := by decide +kernel
theorem d_Search_start_6 : decode b_Search_start 6 = .ok (.iconst 0, 1) := by decide +kernel
theorem d_Search_start_7 : decode b_Search_start 7 = .ok (.putfield 44, 3) := by decide +kernel
theorem d_Search_start_10 : decode b_Search_start 10 = .ok (.aload_n 0, 1) := by decide +kernel
theorem d_Search_start_11 : decode b_Search_start 11 = .ok (.iconst 0, 1) := by decide +kernel
theorem d_Search_start_12 : decode b_Search_start 12 = .ok (.putfield 47, 3) := by decide +kernel
theorem d_Search_start_15 : decode b_Search_start 15 = .ok (.aload_n 0, 1) := by decide +kernel
theorem d_Search_start_16 : decode b_Search_start 16 = .ok (.ldc2_w 22, 3) := by decide +kernel
theorem d_Search_start_19 : decode b_Search_start 19 = .ok (.putfield 24, 3) := by decide +kernel
theorem d_Search_start_22 : decode b_Search_start 22 = .ok (.aload_n 0, 1) := by decide +kernel
theorem d_Search_start_23 : decode b_Search_start 23 = .ok (.getfield 9, 3) := by decide +kernel
theorem d_Search_start_26 : decode b_Search_start 26 = .ok (.iconst (-1), 1) := by decide +kernel
theorem d_Search_start_27 : decode b_Search_start 27 = .ok (.invokestatic 51, 3) := by decide +kernel
theorem d_Search_start_30 : decode b_Search_start 30 = .ok (.aload_n 0, 1) := by decide +kernel
theorem d_Search_start_31 : decode b_Search_start 31 = .ok (.invokevirtual 57, 3) := by decide +kernel
theorem d_Search_start_34 : decode b_Search_start 34 = .ok (.aload_n 0, 1) := by decide +kernel
theorem d_Search_start_35 : decode b_Search_start 35 = .ok (.iconst 0, 1) := by decide +kernel
theorem d_Search_start_36 : decode b_Search_start 36 = .ok (.lconst 0, 1) := by decide +kernel
theorem d_Search_start_37 : decode b_Search_start 37 = .ok (.invokevirtual 60, 3) := by decide +kernel
theorem d_Search_start_40 : decode b_Search_start 40 = .ok (.return_, 1) := by decide +kernel
theorem d_Search_hasMet_0 : decode b_Search_hasMet 0 = .ok (.aload_n 0, 1) := by decide +kernel
theorem d_Search_hasMet_1 : decode b_Search_hasMet 1 = .ok (.getfield 24, 3) := by decide +kernel
theorem d_Search_hasMet_4 : decode b_Search_hasMet 4 = .ok (.ldc2_w 22, 3) := by decide +kernel
theorem d_Search_hasMet_7 : decode b_Search_hasMet 7 = .ok (.lcmp, 1) := by decide +kernel
theorem d_Search_hasMet_8 : decode b_Search_hasMet 8 = .ok (.ifCond .eq 7, 3) := by decide +kernel
theorem d_Search_hasMet_11 : decode b_Search_hasMet 11 = .ok (.iconst 1, 1) := by decide +kernel
theorem d_Search_hasMet_12 : decode b_Search_hasMet 12 = .ok (.goto 4, 3) := by decide +kernel
theorem d_Search_hasMet_15 : decode b_Search_hasMet 15 = .ok (.iconst 0, 1) := by decide +kernel
theorem d_Search_hasMet_16 : decode b_Search_hasMet 16 = .ok (.ireturn, 1) := by decide +kernel
theorem d_Search_hopeBeforeAny_0 : decode b_Search_hopeBeforeAny 0 = .ok (.aload_n 0, 1) := by decide +kernel
theorem d_Search_hopeBeforeAny_1 : decode b_Search_hopeBeforeAny 1 = .ok (.invokevirtual 57, 3) := by decide +kernel
theorem d_Search_hopeBeforeAny_4 : decode b_Search_hopeBeforeAny 4 = .ok (.aload_n 0, 1) := by decide +kernel
theorem d_Search_hopeBeforeAny_5 : decode b_Search_hopeBeforeAny 5 = .ok (.getfield 18, 3) := by decide +kernel
theorem d_Search_hopeBeforeAny_8 : decode b_Search_hopeBeforeAny 8 = .ok (.iconst 0, 1) := by decide +kernel
theorem d_Search_hopeBeforeAny_9 : decode b_Search_hopeBeforeAny 9 = .ok (.laload, 1) := by decide +kernel
theorem d_Search_hopeBeforeAny_10 : decode b_Search_hopeBeforeAny 10 = .ok (.lreturn, 1) := by decide +kernel
theorem d_Search_foretell_0 : decode b_Search_foretell 0 = .ok (.aload_n 0, 1) := by decide +kernel
theorem d_Search_foretell_1 : decode b_Search_foretell 1 = .ok (.getfield 18, 3) := by decide +kernel
theorem d_Search_foretell_4 : decode b_Search_foretell 4 = .ok (.aload_n 0, 1) := by decide +kernel
theorem d_Search_foretell_5 : decode b_Search_foretell 5 = .ok (.getfield 28, 3) := by decide +kernel
theorem d_Search_foretell_8 : decode b_Search_foretell 8 = .ok (.getfield 64, 3) := by decide +kernel
theorem d_Search_foretell_11 : decode b_Search_foretell 11 = .ok (.lconst 0, 1) := by decide +kernel
theorem d_Search_foretell_12 : decode b_Search_foretell 12 = .ok (.lastore, 1) := by decide +kernel
theorem d_Search_foretell_13 : decode b_Search_foretell 13 = .ok (.aload_n 0, 1) := by decide +kernel
theorem d_Search_foretell_14 : decode b_Search_foretell 14 = .ok (.getfield 28, 3) := by decide +kernel
theorem d_Search_foretell_17 : decode b_Search_foretell 17 = .ok (.getfield 64, 3) := by decide +kernel
theorem d_Search_foretell_20 : decode b_Search_foretell 20 = .ok (.iconst 1, 1) := by decide +kernel
theorem d_Search_foretell_21 : decode b_Search_foretell 21 = .ok (.isub, 1) := by decide +kernel
theorem d_Search_foretell_22 : decode b_Search_foretell 22 = .ok (.istore_n 1, 1) := by decide +kernel
theorem d_Search_foretell_23 : decode b_Search_foretell 23 = .ok (.iload_n 1, 1) := by decide +kernel
theorem d_Search_foretell_24 : decode b_Search_foretell 24 = .ok (.ifCond .lt 32, 3) := by decide +kernel
theorem d_Search_foretell_27 : decode b_Search_foretell 27 = .ok (.aload_n 0, 1) := by decide +kernel
theorem d_Search_foretell_28 : decode b_Search_foretell 28 = .ok (.getfield 18, 3) := by decide +kernel
theorem d_Search_foretell_31 : decode b_Search_foretell 31 = .ok (.iload_n 1, 1) := by decide +kernel
theorem d_Search_foretell_32 : decode b_Search_foretell 32 = .ok (.aload_n 0, 1) := by decide +kernel
theorem d_Search_foretell_33 : decode b_Search_foretell 33 = .ok (.getfield 18, 3) := by decide +kernel
theorem d_Search_foretell_36 : decode b_Search_foretell 36 = .ok (.iload_n 1, 1) := by decide +kernel
theorem d_Search_foretell_37 : decode b_Search_foretell 37 = .ok (.iconst 1, 1) := by decide +kernel
theorem d_Search_foretell_38 : decode b_Search_foretell 38 = .ok (.iadd, 1) := by decide +kernel
theorem d_Search_foretell_39 : decode b_Search_foretell 39 = .ok (.laload, 1) := by decide +kernel
theorem d_Search_foretell_40 : decode b_Search_foretell 40 = .ok (.aload_n 0, 1) := by decide +kernel
theorem d_Search_foretell_41 : decode b_Search_foretell 41 = .ok (.getfield 28, 3) := by decide +kernel
theorem d_Search_foretell_44 : decode b_Search_foretell 44 = .ok (.iload_n 1, 1) := by decide +kernel
theorem d_Search_foretell_45 : decode b_Search_foretell 45 = .ok (.invokevirtual 69, 3) := by decide +kernel
theorem d_Search_foretell_48 : decode b_Search_foretell 48 = .ok (.ladd, 1) := by decide +kernel
theorem d_Search_foretell_49 : decode b_Search_foretell 49 = .ok (.lastore, 1) := by decide +kernel
theorem d_Search_foretell_50 : decode b_Search_foretell 50 = .ok (.iinc 1 (-1), 3) := by decide +kernel
theorem d_Search_foretell_53 : decode b_Search_foretell 53 = .ok (.goto (-30), 3) := by decide +kernel
theorem d_Search_foretell_56 : decode b_Search_foretell 56 = .ok (.return_, 1) := by decide +kernel
theorem d_Search_branch_0 : decode b_Search_branch 0 = .ok (.iload_n 1, 1) := by decide +kernel
theorem d_Search_branch_1 : decode b_Search_branch 1 = .ok (.aload_n 0, 1) := by decide +kernel
theorem d_Search_branch_2 : decode b_Search_branch 2 = .ok (.getfield 28, 3) := by decide +kernel
theorem d_Search_branch_5 : decode b_Search_branch 5 = .ok (.getfield 64, 3) := by decide +kernel
theorem d_Search_branch_8 : decode b_Search_branch 8 = .ok (.if_icmp .lt 8, 3) := by decide +kernel
theorem d_Search_branch_11 : decode b_Search_branch 11 = .ok (.aload_n 0, 1) := by decide +kernel
theorem d_Search_branch_12 : decode b_Search_branch 12 = .ok (.invokevirtual 73, 3) := by decide +kernel
theorem d_Search_branch_15 : decode b_Search_branch 15 = .ok (.return_, 1) := by decide +kernel
theorem d_Search_branch_16 : decode b_Search_branch 16 = .ok (.iconst 0, 1) := by decide +kernel
theorem d_Search_branch_17 : decode b_Search_branch 17 = .ok (.istore 4, 2) := by decide +kernel
theorem d_Search_branch_19 : decode b_Search_branch 19 = .ok (.iload 4, 2) := by decide +kernel
theorem d_Search_branch_21 : decode b_Search_branch 21 = .ok (.aload_n 0, 1) := by decide +kernel
theorem d_Search_branch_22 : decode b_Search_branch 22 = .ok (.getfield 28, 3) := by decide +kernel
theorem d_Search_branch_25 : decode b_Search_branch 25 = .ok (.getfield 76, 3) := by decide +kernel
theorem d_Search_branch_28 : decode b_Search_branch 28 = .ok (.if_icmp .ge 46, 3) := by decide +kernel
theorem d_Search_branch_31 : decode b_Search_branch 31 = .ok (.aload_n 0, 1) := by decide +kernel
theorem d_Search_branch_32 : decode b_Search_branch 32 = .ok (.getfield 47, 3) := by decide +kernel
theorem d_Search_branch_35 : decode b_Search_branch 35 = .ok (.ifCond .ne 39, 3) := by decide +kernel
theorem d_Search_branch_38 : decode b_Search_branch 38 = .ok (.aload_n 0, 1) := by decide +kernel
theorem d_Search_branch_39 : decode b_Search_branch 39 = .ok (.getfield 9, 3) := by decide +kernel
theorem d_Search_branch_42 : decode b_Search_branch 42 = .ok (.iload_n 1, 1) := by decide +kernel
theorem d_Search_branch_43 : decode b_Search_branch 43 = .ok (.iload 4, 2) := by decide +kernel
theorem d_Search_branch_45 : decode b_Search_branch 45 = .ok (.iastore, 1) := by decide +kernel
theorem d_Search_branch_46 : decode b_Search_branch 46 = .ok (.aload_n 0, 1) := by decide +kernel
theorem d_Search_branch_47 : decode b_Search_branch 47 = .ok (.getfield 32, 3) := by decide +kernel
theorem d_Search_branch_50 : decode b_Search_branch 50 = .ok (.aload_n 0, 1) := by decide +kernel
theorem d_Search_branch_51 : decode b_Search_branch 51 = .ok (.getfield 9, 3) := by decide +kernel
theorem d_Search_branch_54 : decode b_Search_branch 54 = .ok (.iload 4, 2) := by decide +kernel
theorem d_Search_branch_56 : decode b_Search_branch 56 = .ok (.invokevirtual 79, 3) := by decide +kernel
theorem d_Search_branch_59 : decode b_Search_branch 59 = .ok (.ifCond .eq 9, 3) := by decide +kernel
theorem d_Search_branch_62 : decode b_Search_branch 62 = .ok (.aload_n 0, 1) := by decide +kernel
theorem d_Search_branch_63 : decode b_Search_branch 63 = .ok (.iload_n 1, 1) := by decide +kernel
theorem d_Search_branch_64 : decode b_Search_branch 64 = .ok (.lload_n 2, 1) := by decide +kernel
theorem d_Search_branch_65 : decode b_Search_branch 65 = .ok (.invokevirtual 85, 3) := by decide +kernel
theorem d_Search_branch_68 : decode b_Search_branch 68 = .ok (.iinc 4 1, 3) := by decide +kernel
theorem d_Search_branch_71 : decode b_Search_branch 71 = .ok (.goto (-52), 3) := by decide +kernel
theorem d_Search_branch_74 : decode b_Search_branch 74 = .ok (.aload_n 0, 1) := by decide +kernel
theorem d_Search_branch_75 : decode b_Search_branch 75 = .ok (.getfield 9, 3) := by decide +kernel
theorem d_Search_branch_78 : decode b_Search_branch 78 = .ok (.iload_n 1, 1) := by decide +kernel
theorem d_Search_branch_79 : decode b_Search_branch 79 = .ok (.iconst (-1), 1) := by decide +kernel
theorem d_Search_branch_80 : decode b_Search_branch 80 = .ok (.iastore, 1) := by decide +kernel
theorem d_Search_branch_81 : decode b_Search_branch 81 = .ok (.aload_n 0, 1) := by decide +kernel
theorem d_Search_branch_82 : decode b_Search_branch 82 = .ok (.getfield 47, 3) := by decide +kernel
theorem d_Search_branch_85 : decode b_Search_branch 85 = .ok (.ifCond .ne 9, 3) := by decide +kernel
theorem d_Search_branch_88 : decode b_Search_branch 88 = .ok (.aload_n 0, 1) := by decide +kernel
theorem d_Search_branch_89 : decode b_Search_branch 89 = .ok (.iload_n 1, 1) := by decide +kernel
theorem d_Search_branch_90 : decode b_Search_branch 90 = .ok (.lload_n 2, 1) := by decide +kernel
theorem d_Search_branch_91 : decode b_Search_branch 91 = .ok (.invokevirtual 85, 3) := by decide +kernel
theorem d_Search_branch_94 : decode b_Search_branch 94 = .ok (.return_, 1) := by decide +kernel
theorem d_Search_makeNode_0 : decode b_Search_makeNode 0 = .ok (.aload_n 0, 1) := by decide +kernel
theorem d_Search_makeNode_1 : decode b_Search_makeNode 1 = .ok (.getfield 44, 3) := by decide +kernel
theorem d_Search_makeNode_4 : decode b_Search_makeNode 4 = .ok (.aload_n 0, 1) := by decide +kernel
theorem d_Search_makeNode_5 : decode b_Search_makeNode 5 = .ok (.getfield 40, 3) := by decide +kernel
theorem d_Search_makeNode_8 : decode b_Search_makeNode 8 = .ok (.if_icmp .lt 9, 3) := by decide +kernel
theorem d_Search_makeNode_11 : decode b_Search_makeNode 11 = .ok (.aload_n 0, 1) := by decide +kernel
theorem d_Search_makeNode_12 : decode b_Search_makeNode 12 = .ok (.iconst 1, 1) := by decide +kernel
theorem d_Search_makeNode_13 : decode b_Search_makeNode 13 = .ok (.putfield 47, 3) := by decide +kernel
theorem d_Search_makeNode_16 : decode b_Search_makeNode 16 = .ok (.return_, 1) := by decide +kernel
theorem d_Search_makeNode_17 : decode b_Search_makeNode 17 = .ok (.aload_n 0, 1) := by decide +kernel
theorem d_Search_makeNode_18 : decode b_Search_makeNode 18 = .ok (.dup, 1) := by decide +kernel
theorem d_Search_makeNode_19 : decode b_Search_makeNode 19 = .ok (.getfield 44, 3) := by decide +kernel
theorem d_Search_makeNode_22 : decode b_Search_makeNode 22 = .ok (.iconst 1, 1) := by decide +kernel
theorem d_Search_makeNode_23 : decode b_Search_makeNode 23 = .ok (.iadd, 1) := by decide +kernel
theorem d_Search_makeNode_24 : decode b_Search_makeNode 24 = .ok (.putfield 44, 3) := by decide +kernel
theorem d_Search_makeNode_27 : decode b_Search_makeNode 27 = .ok (.lload_n 2, 1) := by decide +kernel
theorem d_Search_makeNode_28 : decode b_Search_makeNode 28 = .ok (.aload_n 0, 1) := by decide +kernel
theorem d_Search_makeNode_29 : decode b_Search_makeNode 29 = .ok (.getfield 28, 3) := by decide +kernel
theorem d_Search_makeNode_32 : decode b_Search_makeNode 32 = .ok (.iload_n 1, 1) := by decide +kernel
theorem d_Search_makeNode_33 : decode b_Search_makeNode 33 = .ok (.aload_n 0, 1) := by decide +kernel
theorem d_Search_makeNode_34 : decode b_Search_makeNode 34 = .ok (.getfield 9, 3) := by decide +kernel
theorem d_Search_makeNode_37 : decode b_Search_makeNode 37 = .ok (.iload_n 1, 1) := by decide +kernel
theorem d_Search_makeNode_38 : decode b_Search_makeNode 38 = .ok (.iaload, 1) := by decide +kernel
theorem d_Search_makeNode_39 : decode b_Search_makeNode 39 = .ok (.invokevirtual 88, 3) := by decide +kernel
theorem d_Search_makeNode_42 : decode b_Search_makeNode 42 = .ok (.ladd, 1) := by decide +kernel
theorem d_Search_makeNode_43 : decode b_Search_makeNode 43 = .ok (.lstore 4, 2) := by decide +kernel
theorem d_Search_makeNode_45 : decode b_Search_makeNode 45 = .ok (.lload 4, 2) := by decide +kernel
theorem d_Search_makeNode_47 : decode b_Search_makeNode 47 = .ok (.aload_n 0, 1) := by decide +kernel
theorem d_Search_makeNode_48 : decode b_Search_makeNode 48 = .ok (.getfield 18, 3) := by decide +kernel
theorem d_Search_makeNode_51 : decode b_Search_makeNode 51 = .ok (.iload_n 1, 1) := by decide +kernel
theorem d_Search_makeNode_52 : decode b_Search_makeNode 52 = .ok (.iconst 1, 1) := by decide +kernel
theorem d_Search_makeNode_53 : decode b_Search_makeNode 53 = .ok (.iadd, 1) := by decide +kernel
theorem d_Search_makeNode_54 : decode b_Search_makeNode 54 = .ok (.laload, 1) := by decide +kernel
theorem d_Search_makeNode_55 : decode b_Search_makeNode 55 = .ok (.ladd, 1) := by decide +kernel
theorem d_Search_makeNode_56 : decode b_Search_makeNode 56 = .ok (.aload_n 0, 1) := by decide +kernel
theorem d_Search_makeNode_57 : decode b_Search_makeNode 57 = .ok (.getfield 24, 3) := by decide +kernel
theorem d_Search_makeNode_60 : decode b_Search_makeNode 60 = .ok (.lcmp, 1) := by decide +kernel
theorem d_Search_makeNode_61 : decode b_Search_makeNode 61 = .ok (.ifCond .le 12, 3) := by decide +kernel
theorem d_Search_makeNode_64 : decode b_Search_makeNode 64 = .ok (.aload_n 0, 1) := by decide +kernel
theorem d_Search_makeNode_65 : decode b_Search_makeNode 65 = .ok (.iload_n 1, 1) := by decide +kernel
theorem d_Search_makeNode_66 : decode b_Search_makeNode 66 = .ok (.iconst 1, 1) := by decide +kernel
theorem d_Search_makeNode_67 : decode b_Search_makeNode 67 = .ok (.iadd, 1) := by decide +kernel
theorem d_Search_makeNode_68 : decode b_Search_makeNode 68 = .ok (.lload 4, 2) := by decide +kernel
theorem d_Search_makeNode_70 : decode b_Search_makeNode 70 = .ok (.invokevirtual 60, 3) := by decide +kernel
theorem d_Search_makeNode_73 : decode b_Search_makeNode 73 = .ok (.return_, 1) := by decide +kernel
theorem d_Search_meet_0 : decode b_Search_meet 0 = .ok (.aload_n 0, 1) := by decide +kernel
theorem d_Search_meet_1 : decode b_Search_meet 1 = .ok (.getfield 32, 3) := by decide +kernel
theorem d_Search_meet_4 : decode b_Search_meet 4 = .ok (.aload_n 0, 1) := by decide +kernel
theorem d_Search_meet_5 : decode b_Search_meet 5 = .ok (.getfield 9, 3) := by decide +kernel
theorem d_Search_meet_8 : decode b_Search_meet 8 = .ok (.invokevirtual 92, 3) := by decide +kernel
theorem d_Search_meet_11 : decode b_Search_meet 11 = .ok (.ifCond .ne 4, 3) := by decide +kernel
theorem d_Search_meet_14 : decode b_Search_meet 14 = .ok (.return_, 1) := by decide +kernel
theorem d_Search_meet_15 : decode b_Search_meet 15 = .ok (.aload_n 0, 1) := by decide +kernel
theorem d_Search_meet_16 : decode b_Search_meet 16 = .ok (.getfield 36, 3) := by decide +kernel
theorem d_Search_meet_19 : decode b_Search_meet 19 = .ok (.aload_n 0, 1) := by decide +kernel
theorem d_Search_meet_20 : decode b_Search_meet 20 = .ok (.getfield 9, 3) := by decide +kernel
theorem d_Search_meet_23 : decode b_Search_meet 23 = .ok (.invokevirtual 96, 3) := by decide +kernel
theorem d_Search_meet_26 : decode b_Search_meet 26 = .ok (.lstore_n 1, 1) := by decide +kernel
theorem d_Search_meet_27 : decode b_Search_meet 27 = .ok (.lload_n 1, 1) := by decide +kernel
theorem d_Search_meet_28 : decode b_Search_meet 28 = .ok (.aload_n 0, 1) := by decide +kernel
theorem d_Search_meet_29 : decode b_Search_meet 29 = .ok (.getfield 24, 3) := by decide +kernel
theorem d_Search_meet_32 : decode b_Search_meet 32 = .ok (.lcmp, 1) := by decide +kernel
theorem d_Search_meet_33 : decode b_Search_meet 33 = .ok (.ifCond .le 23, 3) := by decide +kernel
theorem d_Search_meet_36 : decode b_Search_meet 36 = .ok (.aload_n 0, 1) := by decide +kernel
theorem d_Search_meet_37 : decode b_Search_meet 37 = .ok (.lload_n 1, 1) := by decide +kernel
theorem d_Search_meet_38 : decode b_Search_meet 38 = .ok (.putfield 24, 3) := by decide +kernel
theorem d_Search_meet_41 : decode b_Search_meet 41 = .ok (.aload_n 0, 1) := by decide +kernel
theorem d_Search_meet_42 : decode b_Search_meet 42 = .ok (.getfield 9, 3) := by decide +kernel
theorem d_Search_meet_45 : decode b_Search_meet 45 = .ok (.iconst 0, 1) := by decide +kernel
theorem d_Search_meet_46 : decode b_Search_meet 46 = .ok (.aload_n 0, 1) := by decide +kernel
theorem d_Search_meet_47 : decode b_Search_meet 47 = .ok (.getfield 15, 3) := by decide +kernel
theorem d_Search_meet_50 : decode b_Search_meet 50 = .ok (.iconst 0, 1) := by decide +kernel
theorem d_Search_meet_51 : decode b_Search_meet 51 = .ok (.bipush 6, 2) := by decide +kernel
theorem d_Search_meet_53 : decode b_Search_meet 53 = .ok (.invokestatic 102, 3) := by decide +kernel
theorem d_Search_meet_56 : decode b_Search_meet 56 = .ok (.return_, 1) := by decide +kernel
