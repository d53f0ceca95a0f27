theorem dX0_init_0 : decode cX0_init 0 = .ok (.aload_n 0, 1) := by decide +kernel
theorem dX0_init_1 : decode cX0_init 1 = .ok (.invokespecial 3, 3) := by decide +kernel
theorem dX0_init_4 : decode cX0_init 4 = .ok (.aload_n 0, 1) := by decide +kernel
theorem dX0_init_5 : decode cX0_init 5 = .ok (.bipush 6, 2) := by decide +kernel
theorem dX0_init_7 : decode cX0_init 7 = .ok (.newarray .int, 2) := by decide +kernel
theorem dX0_init_9 : decode cX0_init 9 = .ok (.putfield 9, 3) := by decide +kernel
theorem dX0_init_12 : decode cX0_init 12 = .ok (.aload_n 0, 1) := by decide +kernel
theorem dX0_init_13 : decode cX0_init 13 = .ok (.bipush 8, 2) := by decide +kernel
theorem dX0_init_15 : decode cX0_init 15 = .ok (.newarray .int, 2) := by decide +kernel
theorem dX0_init_17 : decode cX0_init 17 = .ok (.putfield 15, 3) := by decide +kernel
theorem dX0_init_20 : decode cX0_init 20 = .ok (.aload_n 0, 1) := by decide +kernel
theorem dX0_init_21 : decode cX0_init 21 = .ok (.bipush 6, 2) := by decide +kernel
theorem dX0_init_23 : decode cX0_init 23 = .ok (.newarray .int, 2) := by decide +kernel
theorem dX0_init_25 : decode cX0_init 25 = .ok (.putfield 18, 3) := by decide +kernel
theorem dX0_init_28 : decode cX0_init 28 = .ok (.aload_n 0, 1) := by decide +kernel
theorem dX0_init_29 : decode cX0_init 29 = .ok (.bipush 6, 2) := by decide +kernel
theorem dX0_init_31 : decode cX0_init 31 = .ok (.newarray .int, 2) := by decide +kernel
theorem dX0_init_33 : decode cX0_init 33 = .ok (.putfield 21, 3) := by decide +kernel
theorem dX0_init_36 : decode cX0_init 36 = .ok (.aload_n 0, 1) := by decide +kernel
theorem dX0_init_37 : decode cX0_init 37 = .ok (.bipush 48, 2) := by decide +kernel
theorem dX0_init_39 : decode cX0_init 39 = .ok (.newarray .int, 2) := by decide +kernel
theorem dX0_init_41 : decode cX0_init 41 = .ok (.putfield 24, 3) := by decide +kernel
theorem dX0_init_44 : decode cX0_init 44 = .ok (.aload_n 0, 1) := by decide +kernel
theorem dX0_init_45 : decode cX0_init 45 = .ok (.iconst 4, 1) := by decide +kernel
theorem dX0_init_46 : decode cX0_init 46 = .ok (.newarray .int, 2) := by decide +kernel
theorem dX0_init_48 : decode cX0_init 48 = .ok (.dup, 1) := by decide +kernel
theorem dX0_init_49 : decode cX0_init 49 = .ok (.iconst 0, 1) := by decide +kernel
theorem dX0_init_50 : decode cX0_init 50 = .ok (.sipush 480, 3) := by decide +kernel
theorem dX0_init_53 : decode cX0_init 53 = .ok (.iastore, 1) := by decide +kernel
theorem dX0_init_54 : decode cX0_init 54 = .ok (.dup, 1) := by decide +kernel
theorem dX0_init_55 : decode cX0_init 55 = .ok (.iconst 1, 1) := by decide +kernel
theorem dX0_init_56 : decode cX0_init 56 = .ok (.bipush 60, 2) := by decide +kernel
theorem dX0_init_58 : decode cX0_init 58 = .ok (.iastore, 1) := by decide +kernel
theorem dX0_init_59 : decode cX0_init 59 = .ok (.dup, 1) := by decide +kernel
theorem dX0_init_60 : decode cX0_init 60 = .ok (.iconst 2, 1) := by decide +kernel
theorem dX0_init_61 : decode cX0_init 61 = .ok (.iconst 2, 1) := by decide +kernel
theorem dX0_init_62 : decode cX0_init 62 = .ok (.iastore, 1) := by decide +kernel
theorem dX0_init_63 : decode cX0_init 63 = .ok (.dup, 1) := by decide +kernel
theorem dX0_init_64 : decode cX0_init 64 = .ok (.iconst 3, 1) := by decide +kernel
theorem dX0_init_65 : decode cX0_init 65 = .ok (.bipush 10, 2) := by decide +kernel
theorem dX0_init_67 : decode cX0_init 67 = .ok (.iastore, 1) := by decide +kernel
theorem dX0_init_68 : decode cX0_init 68 = .ok (.putfield 27, 3) := by decide +kernel
theorem dX0_init_71 : decode cX0_init 71 = .ok (.return_, 1) := by decide +kernel
theorem dX0_copyFrom_0 : decode cX0_copyFrom 0 = .ok (.aload_n 0, 1) := by decide +kernel
theorem dX0_copyFrom_1 : decode cX0_copyFrom 1 = .ok (.aload_n 1, 1) := by decide +kernel
theorem dX0_copyFrom_2 : decode cX0_copyFrom 2 = .ok (.getfield 30, 3) := by decide +kernel
theorem dX0_copyFrom_5 : decode cX0_copyFrom 5 = .ok (.putfield 30, 3) := by decide +kernel
theorem dX0_copyFrom_8 : decode cX0_copyFrom 8 = .ok (.aload_n 0, 1) := by decide +kernel
theorem dX0_copyFrom_9 : decode cX0_copyFrom 9 = .ok (.aload_n 1, 1) := by decide +kernel
theorem dX0_copyFrom_10 : decode cX0_copyFrom 10 = .ok (.getfield 34, 3) := by decide +kernel
theorem dX0_copyFrom_13 : decode cX0_copyFrom 13 = .ok (.putfield 34, 3) := by decide +kernel
theorem dX0_copyFrom_16 : decode cX0_copyFrom 16 = .ok (.aload_n 0, 1) := by decide +kernel
theorem dX0_copyFrom_17 : decode cX0_copyFrom 17 = .ok (.aload_n 1, 1) := by decide +kernel
theorem dX0_copyFrom_18 : decode cX0_copyFrom 18 = .ok (.getfield 37, 3) := by decide +kernel
theorem dX0_copyFrom_21 : decode cX0_copyFrom 21 = .ok (.putfield 37, 3) := by decide +kernel
theorem dX0_copyFrom_24 : decode cX0_copyFrom 24 = .ok (.aload_n 1, 1) := by decide +kernel
theorem dX0_copyFrom_25 : decode cX0_copyFrom 25 = .ok (.getfield 9, 3) := by decide +kernel
theorem dX0_copyFrom_28 : decode cX0_copyFrom 28 = .ok (.aload_n 0, 1) := by decide +kernel
theorem dX0_copyFrom_29 : decode cX0_copyFrom 29 = .ok (.getfield 9, 3) := by decide +kernel
theorem dX0_copyFrom_32 : decode cX0_copyFrom 32 = .ok (.invokestatic 40, 3) := by decide +kernel
theorem dX0_copyFrom_35 : decode cX0_copyFrom 35 = .ok (.aload_n 1, 1) := by decide +kernel
theorem dX0_copyFrom_36 : decode cX0_copyFrom 36 = .ok (.getfield 15, 3) := by decide +kernel
theorem dX0_copyFrom_39 : decode cX0_copyFrom 39 = .ok (.aload_n 0, 1) := by decide +kernel
theorem dX0_copyFrom_40 : decode cX0_copyFrom 40 = .ok (.getfield 15, 3) := by decide +kernel
theorem dX0_copyFrom_43 : decode cX0_copyFrom 43 = .ok (.invokestatic 40, 3) := by decide +kernel
theorem dX0_copyFrom_46 : decode cX0_copyFrom 46 = .ok (.aload_n 1, 1) := by decide +kernel
theorem dX0_copyFrom_47 : decode cX0_copyFrom 47 = .ok (.getfield 18, 3) := by decide +kernel
theorem dX0_copyFrom_50 : decode cX0_copyFrom 50 = .ok (.aload_n 0, 1) := by decide +kernel
theorem dX0_copyFrom_51 : decode cX0_copyFrom 51 = .ok (.getfield 18, 3) := by decide +kernel
theorem dX0_copyFrom_54 : decode cX0_copyFrom 54 = .ok (.invokestatic 40, 3) := by decide +kernel
theorem dX0_copyFrom_57 : decode cX0_copyFrom 57 = .ok (.aload_n 1, 1) := by decide +kernel
theorem dX0_copyFrom_58 : decode cX0_copyFrom 58 = .ok (.getfield 21, 3) := by decide +kernel
theorem dX0_copyFrom_61 : decode cX0_copyFrom 61 = .ok (.aload_n 0, 1) := by decide +kernel
theorem dX0_copyFrom_62 : decode cX0_copyFrom 62 = .ok (.getfield 21, 3) := by decide +kernel
theorem dX0_copyFrom_65 : decode cX0_copyFrom 65 = .ok (.invokestatic 40, 3) := by decide +kernel
theorem dX0_copyFrom_68 : decode cX0_copyFrom 68 = .ok (.aload_n 1, 1) := by decide +kernel
theorem dX0_copyFrom_69 : decode cX0_copyFrom 69 = .ok (.getfield 24, 3) := by decide +kernel
theorem dX0_copyFrom_72 : decode cX0_copyFrom 72 = .ok (.aload_n 0, 1) := by decide +kernel
theorem dX0_copyFrom_73 : decode cX0_copyFrom 73 = .ok (.getfield 24, 3) := by decide +kernel
theorem dX0_copyFrom_76 : decode cX0_copyFrom 76 = .ok (.invokestatic 40, 3) := by decide +kernel
theorem dX0_copyFrom_79 : decode cX0_copyFrom 79 = .ok (.aload_n 1, 1) := by decide +kernel
theorem dX0_copyFrom_80 : decode cX0_copyFrom 80 = .ok (.getfield 27, 3) := by decide +kernel
theorem dX0_copyFrom_83 : decode cX0_copyFrom 83 = .ok (.aload_n 0, 1) := by decide +kernel
theorem dX0_copyFrom_84 : decode cX0_copyFrom 84 = .ok (.getfield 27, 3) := by decide +kernel
theorem dX0_copyFrom_87 : decode cX0_copyFrom 87 = .ok (.invokestatic 40, 3) := by decide +kernel
theorem dX0_copyFrom_90 : decode cX0_copyFrom 90 = .ok (.return_, 1) := by decide +kernel
theorem dX0_isColour_0 : decode cX0_isColour 0 = .ok (.iload_n 1, 1) := by decide +kernel
theorem dX0_isColour_1 : decode cX0_isColour 1 = .ok (.iconst 0, 1) := by decide +kernel
theorem dX0_isColour_2 : decode cX0_isColour 2 = .ok (.aload_n 0, 1) := by decide +kernel
theorem dX0_isColour_3 : decode cX0_isColour 3 = .ok (.getfield 30, 3) := by decide +kernel
theorem dX0_isColour_6 : decode cX0_isColour 6 = .ok (.iconst 1, 1) := by decide +kernel
theorem dX0_isColour_7 : decode cX0_isColour 7 = .ok (.isub, 1) := by decide +kernel
theorem dX0_isColour_8 : decode cX0_isColour 8 = .ok (.invokestatic 44, 3) := by decide +kernel
theorem dX0_isColour_11 : decode cX0_isColour 11 = .ok (.ireturn, 1) := by decide +kernel
theorem dX0_isPart_0 : decode cX0_isPart 0 = .ok (.iload_n 1, 1) := by decide +kernel
theorem dX0_isPart_1 : decode cX0_isPart 1 = .ok (.iconst 0, 1) := by decide +kernel
theorem dX0_isPart_2 : decode cX0_isPart 2 = .ok (.aload_n 0, 1) := by decide +kernel
theorem dX0_isPart_3 : decode cX0_isPart 3 = .ok (.getfield 34, 3) := by decide +kernel
theorem dX0_isPart_6 : decode cX0_isPart 6 = .ok (.iconst 1, 1) := by decide +kernel
theorem dX0_isPart_7 : decode cX0_isPart 7 = .ok (.isub, 1) := by decide +kernel
theorem dX0_isPart_8 : decode cX0_isPart 8 = .ok (.invokestatic 44, 3) := by decide +kernel
theorem dX0_isPart_11 : decode cX0_isPart 11 = .ok (.ireturn, 1) := by decide +kernel
theorem dX0_isFamily_0 : decode cX0_isFamily 0 = .ok (.iload_n 1, 1) := by decide +kernel
theorem dX0_isFamily_1 : decode cX0_isFamily 1 = .ok (.iconst 0, 1) := by decide +kernel
theorem dX0_isFamily_2 : decode cX0_isFamily 2 = .ok (.aload_n 0, 1) := by decide +kernel
theorem dX0_isFamily_3 : decode cX0_isFamily 3 = .ok (.getfield 37, 3) := by decide +kernel
theorem dX0_isFamily_6 : decode cX0_isFamily 6 = .ok (.iconst 1, 1) := by decide +kernel
theorem dX0_isFamily_7 : decode cX0_isFamily 7 = .ok (.isub, 1) := by decide +kernel
theorem dX0_isFamily_8 : decode cX0_isFamily 8 = .ok (.invokestatic 44, 3) := by decide +kernel
theorem dX0_isFamily_11 : decode cX0_isFamily 11 = .ok (.ireturn, 1) := by decide +kernel
theorem dX0_addColour_0 : decode cX0_addColour 0 = .ok (.iload_n 1, 1) := by decide +kernel
theorem dX0_addColour_1 : decode cX0_addColour 1 = .ok (.iconst 0, 1) := by decide +kernel
theorem dX0_addColour_2 : decode cX0_addColour 2 = .ok (.bipush 9, 2) := by decide +kernel
theorem dX0_addColour_4 : decode cX0_addColour 4 = .ok (.invokestatic 44, 3) := by decide +kernel
theorem dX0_addColour_7 : decode cX0_addColour 7 = .ok (.ifCond .ne 10, 3) := by decide +kernel
theorem dX0_addColour_10 : decode cX0_addColour 10 = .ok (.aload_n 2, 1) := by decide +kernel
theorem dX0_addColour_11 : decode cX0_addColour 11 = .ok (.iconst 2, 1) := by decide +kernel
theorem dX0_addColour_12 : decode cX0_addColour 12 = .ok (.iconst 0, 1) := by decide +kernel
theorem dX0_addColour_13 : decode cX0_addColour 13 = .ok (.invokevirtual 48, 3) := by decide +kernel
theorem dX0_addColour_16 : decode cX0_addColour 16 = .ok (.ireturn, 1) := by decide +kernel
theorem dX0_addColour_17 : decode cX0_addColour 17 = .ok (.aload_n 0, 1) := by decide +kernel
theorem dX0_addColour_18 : decode cX0_addColour 18 = .ok (.getfield 30, 3) := by decide +kernel
theorem dX0_addColour_21 : decode cX0_addColour 21 = .ok (.bipush 6, 2) := by decide +kernel
theorem dX0_addColour_23 : decode cX0_addColour 23 = .ok (.if_icmp .lt 10, 3) := by decide +kernel
theorem dX0_addColour_26 : decode cX0_addColour 26 = .ok (.aload_n 2, 1) := by decide +kernel
theorem dX0_addColour_27 : decode cX0_addColour 27 = .ok (.iconst 3, 1) := by decide +kernel
theorem dX0_addColour_28 : decode cX0_addColour 28 = .ok (.iconst 0, 1) := by decide +kernel
theorem dX0_addColour_29 : decode cX0_addColour 29 = .ok (.invokevirtual 48, 3) := by decide +kernel
theorem dX0_addColour_32 : decode cX0_addColour 32 = .ok (.ireturn, 1) := by decide +kernel
theorem dX0_addColour_33 : decode cX0_addColour 33 = .ok (.aload_n 0, 1) := by decide +kernel
theorem dX0_addColour_34 : decode cX0_addColour 34 = .ok (.getfield 9, 3) := by decide +kernel
theorem dX0_addColour_37 : decode cX0_addColour 37 = .ok (.aload_n 0, 1) := by decide +kernel
theorem dX0_addColour_38 : decode cX0_addColour 38 = .ok (.getfield 30, 3) := by decide +kernel
theorem dX0_addColour_41 : decode cX0_addColour 41 = .ok (.iload_n 1, 1) := by decide +kernel
theorem dX0_addColour_42 : decode cX0_addColour 42 = .ok (.iastore, 1) := by decide +kernel
theorem dX0_addColour_43 : decode cX0_addColour 43 = .ok (.aload_n 0, 1) := by decide +kernel
theorem dX0_addColour_44 : decode cX0_addColour 44 = .ok (.dup, 1) := by decide +kernel
theorem dX0_addColour_45 : decode cX0_addColour 45 = .ok (.getfield 30, 3) := by decide +kernel
theorem dX0_addColour_48 : decode cX0_addColour 48 = .ok (.iconst 1, 1) := by decide +kernel
theorem dX0_addColour_49 : decode cX0_addColour 49 = .ok (.iadd, 1) := by decide +kernel
theorem dX0_addColour_50 : decode cX0_addColour 50 = .ok (.putfield 30, 3) := by decide +kernel
theorem dX0_addColour_53 : decode cX0_addColour 53 = .ok (.aload_n 0, 1) := by decide +kernel
theorem dX0_addColour_54 : decode cX0_addColour 54 = .ok (.getfield 30, 3) := by decide +kernel
theorem dX0_addColour_57 : decode cX0_addColour 57 = .ok (.iconst 1, 1) := by decide +kernel
theorem dX0_addColour_58 : decode cX0_addColour 58 = .ok (.isub, 1) := by decide +kernel
theorem dX0_addColour_59 : decode cX0_addColour 59 = .ok (.ireturn, 1) := by decide +kernel
theorem dX0_addPart_0 : decode cX0_addPart 0 = .ok (.iload_n 1, 1) := by decide +kernel
theorem dX0_addPart_1 : decode cX0_addPart 1 = .ok (.iconst 1, 1) := by decide +kernel
theorem dX0_addPart_2 : decode cX0_addPart 2 = .ok (.bipush 50, 2) := by decide +kernel
theorem dX0_addPart_4 : decode cX0_addPart 4 = .ok (.invokestatic 44, 3) := by decide +kernel
theorem dX0_addPart_7 : decode cX0_addPart 7 = .ok (.ifCond .ne 10, 3) := by decide +kernel
theorem dX0_addPart_10 : decode cX0_addPart 10 = .ok (.aload_n 2, 1) := by decide +kernel
theorem dX0_addPart_11 : decode cX0_addPart 11 = .ok (.iconst 2, 1) := by decide +kernel
theorem dX0_addPart_12 : decode cX0_addPart 12 = .ok (.iconst 0, 1) := by decide +kernel
theorem dX0_addPart_13 : decode cX0_addPart 13 = .ok (.invokevirtual 48, 3) := by decide +kernel
theorem dX0_addPart_16 : decode cX0_addPart 16 = .ok (.ireturn, 1) := by decide +kernel
theorem dX0_addPart_17 : decode cX0_addPart 17 = .ok (.aload_n 0, 1) := by decide +kernel
theorem dX0_addPart_18 : decode cX0_addPart 18 = .ok (.getfield 34, 3) := by decide +kernel
theorem dX0_addPart_21 : decode cX0_addPart 21 = .ok (.bipush 8, 2) := by decide +kernel
theorem dX0_addPart_23 : decode cX0_addPart 23 = .ok (.if_icmp .lt 10, 3) := by decide +kernel
theorem dX0_addPart_26 : decode cX0_addPart 26 = .ok (.aload_n 2, 1) := by decide +kernel
theorem dX0_addPart_27 : decode cX0_addPart 27 = .ok (.iconst 3, 1) := by decide +kernel
theorem dX0_addPart_28 : decode cX0_addPart 28 = .ok (.iconst 0, 1) := by decide +kernel
theorem dX0_addPart_29 : decode cX0_addPart 29 = .ok (.invokevirtual 48, 3) := by decide +kernel
theorem dX0_addPart_32 : decode cX0_addPart 32 = .ok (.ireturn, 1) := by decide +kernel
theorem dX0_addPart_33 : decode cX0_addPart 33 = .ok (.aload_n 0, 1) := by decide +kernel
theorem dX0_addPart_34 : decode cX0_addPart 34 = .ok (.getfield 15, 3) := by decide +kernel
theorem dX0_addPart_37 : decode cX0_addPart 37 = .ok (.aload_n 0, 1) := by decide +kernel
theorem dX0_addPart_38 : decode cX0_addPart 38 = .ok (.getfield 34, 3) := by decide +kernel
theorem dX0_addPart_41 : decode cX0_addPart 41 = .ok (.iload_n 1, 1) := by decide +kernel
theorem dX0_addPart_42 : decode cX0_addPart 42 = .ok (.iastore, 1) := by decide +kernel
theorem dX0_addPart_43 : decode cX0_addPart 43 = .ok (.aload_n 0, 1) := by decide +kernel
theorem dX0_addPart_44 : decode cX0_addPart 44 = .ok (.dup, 1) := by decide +kernel
theorem dX0_addPart_45 : decode cX0_addPart 45 = .ok (.getfield 34, 3) := by decide +kernel
theorem dX0_addPart_48 : decode cX0_addPart 48 = .ok (.iconst 1, 1) := by decide +kernel
theorem dX0_addPart_49 : decode cX0_addPart 49 = .ok (.iadd, 1) := by decide +kernel
theorem dX0_addPart_50 : decode cX0_addPart 50 = .ok (.putfield 34, 3) := by decide +kernel
theorem dX0_addPart_53 : decode cX0_addPart 53 = .ok (.aload_n 0, 1) := by decide +kernel
theorem dX0_addPart_54 : decode cX0_addPart 54 = .ok (.getfield 34, 3) := by decide +kernel
theorem dX0_addPart_57 : decode cX0_addPart 57 = .ok (.iconst 1, 1) := by decide +kernel
theorem dX0_addPart_58 : decode cX0_addPart 58 = .ok (.isub, 1) := by decide +kernel
theorem dX0_addPart_59 : decode cX0_addPart 59 = .ok (.ireturn, 1) := by decide +kernel
theorem dX0_addFamily_0 : decode cX0_addFamily 0 = .ok (.aload_n 1, 1) := by decide +kernel
theorem dX0_addFamily_1 : decode cX0_addFamily 1 = .ok (.invokevirtual 54, 3) := by decide +kernel
theorem dX0_addFamily_4 : decode cX0_addFamily 4 = .ok (.ifCond .eq 10, 3) := by decide +kernel
theorem dX0_addFamily_7 : decode cX0_addFamily 7 = .ok (.aload_n 2, 1) := by decide +kernel
theorem dX0_addFamily_8 : decode cX0_addFamily 8 = .ok (.iconst 2, 1) := by decide +kernel
theorem dX0_addFamily_9 : decode cX0_addFamily 9 = .ok (.iconst 0, 1) := by decide +kernel
theorem dX0_addFamily_10 : decode cX0_addFamily 10 = .ok (.invokevirtual 48, 3) := by decide +kernel
theorem dX0_addFamily_13 : decode cX0_addFamily 13 = .ok (.ireturn, 1) := by decide +kernel
theorem dX0_addFamily_14 : decode cX0_addFamily 14 = .ok (.aload_n 0, 1) := by decide +kernel
theorem dX0_addFamily_15 : decode cX0_addFamily 15 = .ok (.aload_n 1, 1) := by decide +kernel
theorem dX0_addFamily_16 : decode cX0_addFamily 16 = .ok (.invokevirtual 60, 3) := by decide +kernel
theorem dX0_addFamily_19 : decode cX0_addFamily 19 = .ok (.invokevirtual 64, 3) := by decide +kernel
theorem dX0_addFamily_22 : decode cX0_addFamily 22 = .ok (.ifCond .ne 10, 3) := by decide +kernel
theorem dX0_addFamily_25 : decode cX0_addFamily 25 = .ok (.aload_n 2, 1) := by decide +kernel
theorem dX0_addFamily_26 : decode cX0_addFamily 26 = .ok (.iconst 1, 1) := by decide +kernel
theorem dX0_addFamily_27 : decode cX0_addFamily 27 = .ok (.iconst 0, 1) := by decide +kernel
theorem dX0_addFamily_28 : decode cX0_addFamily 28 = .ok (.invokevirtual 48, 3) := by decide +kernel
theorem dX0_addFamily_31 : decode cX0_addFamily 31 = .ok (.ireturn, 1) := by decide +kernel
theorem dX0_addFamily_32 : decode cX0_addFamily 32 = .ok (.aload_n 1, 1) := by decide +kernel
theorem dX0_addFamily_33 : decode cX0_addFamily 33 = .ok (.invokevirtual 68, 3) := by decide +kernel
theorem dX0_addFamily_36 : decode cX0_addFamily 36 = .ok (.istore_n 3, 1) := by decide +kernel
theorem dX0_addFamily_37 : decode cX0_addFamily 37 = .ok (.iload_n 3, 1) := by decide +kernel
theorem dX0_addFamily_38 : decode cX0_addFamily 38 = .ok (.iconst (-1), 1) := by decide +kernel
theorem dX0_addFamily_39 : decode cX0_addFamily 39 = .ok (.if_icmp .eq 11, 3) := by decide +kernel
theorem dX0_addFamily_42 : decode cX0_addFamily 42 = .ok (.aload_n 2, 1) := by decide +kernel
theorem dX0_addFamily_43 : decode cX0_addFamily 43 = .ok (.bipush 14, 2) := by decide +kernel
theorem dX0_addFamily_45 : decode cX0_addFamily 45 = .ok (.iload_n 3, 1) := by decide +kernel
theorem dX0_addFamily_46 : decode cX0_addFamily 46 = .ok (.invokevirtual 48, 3) := by decide +kernel
theorem dX0_addFamily_49 : decode cX0_addFamily 49 = .ok (.ireturn, 1) := by decide +kernel
theorem dX0_addFamily_50 : decode cX0_addFamily 50 = .ok (.aload_n 0, 1) := by decide +kernel
theorem dX0_addFamily_51 : decode cX0_addFamily 51 = .ok (.getfield 37, 3) := by decide +kernel
theorem dX0_addFamily_54 : decode cX0_addFamily 54 = .ok (.bipush 6, 2) := by decide +kernel
theorem dX0_addFamily_56 : decode cX0_addFamily 56 = .ok (.if_icmp .lt 10, 3) := by decide +kernel
theorem dX0_addFamily_59 : decode cX0_addFamily 59 = .ok (.aload_n 2, 1) := by decide +kernel
theorem dX0_addFamily_60 : decode cX0_addFamily 60 = .ok (.iconst 3, 1) := by decide +kernel
theorem dX0_addFamily_61 : decode cX0_addFamily 61 = .ok (.iconst 0, 1) := by decide +kernel
theorem dX0_addFamily_62 : decode cX0_addFamily 62 = .ok (.invokevirtual 48, 3) := by decide +kernel
theorem dX0_addFamily_65 : decode cX0_addFamily 65 = .ok (.ireturn, 1) := by decide +kernel
theorem dX0_addFamily_66 : decode cX0_addFamily 66 = .ok (.aload_n 0, 1) := by decide +kernel
theorem dX0_addFamily_67 : decode cX0_addFamily 67 = .ok (.getfield 18, 3) := by decide +kernel
theorem dX0_addFamily_70 : decode cX0_addFamily 70 = .ok (.aload_n 0, 1) := by decide +kernel
theorem dX0_addFamily_71 : decode cX0_addFamily 71 = .ok (.getfield 37, 3) := by decide +kernel
theorem dX0_addFamily_74 : decode cX0_addFamily 74 = .ok (.aload_n 1, 1) := by decide +kernel
theorem dX0_addFamily_75 : decode cX0_addFamily 75 = .ok (.getfield 71, 3) := by decide +kernel
theorem dX0_addFamily_78 : decode cX0_addFamily 78 = .ok (.iastore, 1) := by decide +kernel
theorem dX0_addFamily_79 : decode cX0_addFamily 79 = .ok (.aload_n 0, 1) := by decide +kernel
theorem dX0_addFamily_80 : decode cX0_addFamily 80 = .ok (.getfield 21, 3) := by decide +kernel
theorem dX0_addFamily_83 : decode cX0_addFamily 83 = .ok (.aload_n 0, 1) := by decide +kernel
theorem dX0_addFamily_84 : decode cX0_addFamily 84 = .ok (.getfield 37, 3) := by decide +kernel
theorem dX0_addFamily_87 : decode cX0_addFamily 87 = .ok (.aload_n 1, 1) := by decide +kernel
theorem dX0_addFamily_88 : decode cX0_addFamily 88 = .ok (.getfield 74, 3) := by decide +kernel
theorem dX0_addFamily_91 : decode cX0_addFamily 91 = .ok (.iastore, 1) := by decide +kernel
theorem dX0_addFamily_92 : decode cX0_addFamily 92 = .ok (.iconst 0, 1) := by decide +kernel
theorem dX0_addFamily_93 : decode cX0_addFamily 93 = .ok (.istore 4, 2) := by decide +kernel
theorem dX0_addFamily_95 : decode cX0_addFamily 95 = .ok (.iload 4, 2) := by decide +kernel
theorem dX0_addFamily_97 : decode cX0_addFamily 97 = .ok (.bipush 8, 2) := by decide +kernel
theorem dX0_addFamily_99 : decode cX0_addFamily 99 = .ok (.if_icmp .ge 30, 3) := by decide +kernel
theorem dX0_addFamily_102 : decode cX0_addFamily 102 = .ok (.aload_n 0, 1) := by decide +kernel
theorem dX0_addFamily_103 : decode cX0_addFamily 103 = .ok (.getfield 24, 3) := by decide +kernel
theorem dX0_addFamily_106 : decode cX0_addFamily 106 = .ok (.aload_n 0, 1) := by decide +kernel
theorem dX0_addFamily_107 : decode cX0_addFamily 107 = .ok (.getfield 37, 3) := by decide +kernel
theorem dX0_addFamily_110 : decode cX0_addFamily 110 = .ok (.bipush 8, 2) := by decide +kernel
theorem dX0_addFamily_112 : decode cX0_addFamily 112 = .ok (.imul, 1) := by decide +kernel
theorem dX0_addFamily_113 : decode cX0_addFamily 113 = .ok (.iload 4, 2) := by decide +kernel
theorem dX0_addFamily_115 : decode cX0_addFamily 115 = .ok (.iadd, 1) := by decide +kernel
theorem dX0_addFamily_116 : decode cX0_addFamily 116 = .ok (.aload_n 1, 1) := by decide +kernel
theorem dX0_addFamily_117 : decode cX0_addFamily 117 = .ok (.iload 4, 2) := by decide +kernel
theorem dX0_addFamily_119 : decode cX0_addFamily 119 = .ok (.invokevirtual 77, 3) := by decide +kernel
theorem dX0_addFamily_122 : decode cX0_addFamily 122 = .ok (.iastore, 1) := by decide +kernel
theorem dX0_addFamily_123 : decode cX0_addFamily 123 = .ok (.iinc 4 1, 3) := by decide +kernel
theorem dX0_addFamily_126 : decode cX0_addFamily 126 = .ok (.goto (-31), 3) := by decide +kernel
theorem dX0_addFamily_129 : decode cX0_addFamily 129 = .ok (.aload_n 0, 1) := by decide +kernel
theorem dX0_addFamily_130 : decode cX0_addFamily 130 = .ok (.dup, 1) := by decide +kernel
theorem dX0_addFamily_131 : decode cX0_addFamily 131 = .ok (.getfield 37, 3) := by decide +kernel
theorem dX0_addFamily_134 : decode cX0_addFamily 134 = .ok (.iconst 1, 1) := by decide +kernel
theorem dX0_addFamily_135 : decode cX0_addFamily 135 = .ok (.iadd, 1) := by decide +kernel
theorem dX0_addFamily_136 : decode cX0_addFamily 136 = .ok (.putfield 37, 3) := by decide +kernel
theorem dX0_addFamily_139 : decode cX0_addFamily 139 = .ok (.aload_n 0, 1) := by decide +kernel
theorem dX0_addFamily_140 : decode cX0_addFamily 140 = .ok (.getfield 37, 3) := by decide +kernel
theorem dX0_addFamily_143 : decode cX0_addFamily 143 = .ok (.iconst 1, 1) := by decide +kernel
theorem dX0_addFamily_144 : decode cX0_addFamily 144 = .ok (.isub, 1) := by decide +kernel
theorem dX0_addFamily_145 : decode cX0_addFamily 145 = .ok (.ireturn, 1) := by decide +kernel
theorem dX0_changeSetting_0 : decode cX0_changeSetting 0 = .ok (.iload_n 1, 1) := by decide +kernel
theorem dX0_changeSetting_1 : decode cX0_changeSetting 1 = .ok (.iconst 0, 1) := by decide +kernel
theorem dX0_changeSetting_2 : decode cX0_changeSetting 2 = .ok (.iconst 3, 1) := by decide +kernel
theorem dX0_changeSetting_3 : decode cX0_changeSetting 3 = .ok (.invokestatic 44, 3) := by decide +kernel
theorem dX0_changeSetting_6 : decode cX0_changeSetting 6 = .ok (.ifCond .eq 20, 3) := by decide +kernel
theorem dX0_changeSetting_9 : decode cX0_changeSetting 9 = .ok (.iload_n 2, 1) := by decide +kernel
theorem dX0_changeSetting_10 : decode cX0_changeSetting 10 = .ok (.getstatic 81, 3) := by decide +kernel
theorem dX0_changeSetting_13 : decode cX0_changeSetting 13 = .ok (.iload_n 1, 1) := by decide +kernel
theorem dX0_changeSetting_14 : decode cX0_changeSetting 14 = .ok (.iaload, 1) := by decide +kernel
theorem dX0_changeSetting_15 : decode cX0_changeSetting 15 = .ok (.getstatic 84, 3) := by decide +kernel
theorem dX0_changeSetting_18 : decode cX0_changeSetting 18 = .ok (.iload_n 1, 1) := by decide +kernel
theorem dX0_changeSetting_19 : decode cX0_changeSetting 19 = .ok (.iaload, 1) := by decide +kernel
theorem dX0_changeSetting_20 : decode cX0_changeSetting 20 = .ok (.invokestatic 44, 3) := by decide +kernel
theorem dX0_changeSetting_23 : decode cX0_changeSetting 23 = .ok (.ifCond .ne 10, 3) := by decide +kernel
theorem dX0_changeSetting_26 : decode cX0_changeSetting 26 = .ok (.aload_n 3, 1) := by decide +kernel
theorem dX0_changeSetting_27 : decode cX0_changeSetting 27 = .ok (.iconst 2, 1) := by decide +kernel
theorem dX0_changeSetting_28 : decode cX0_changeSetting 28 = .ok (.iconst 0, 1) := by decide +kernel
theorem dX0_changeSetting_29 : decode cX0_changeSetting 29 = .ok (.invokevirtual 48, 3) := by decide +kernel
theorem dX0_changeSetting_32 : decode cX0_changeSetting 32 = .ok (.ireturn, 1) := by decide +kernel
theorem dX0_changeSetting_33 : decode cX0_changeSetting 33 = .ok (.aload_n 0, 1) := by decide +kernel
theorem dX0_changeSetting_34 : decode cX0_changeSetting 34 = .ok (.getfield 27, 3) := by decide +kernel
theorem dX0_changeSetting_37 : decode cX0_changeSetting 37 = .ok (.iload_n 1, 1) := by decide +kernel
theorem dX0_changeSetting_38 : decode cX0_changeSetting 38 = .ok (.iaload, 1) := by decide +kernel
theorem dX0_changeSetting_39 : decode cX0_changeSetting 39 = .ok (.istore 4, 2) := by decide +kernel
theorem dX0_changeSetting_41 : decode cX0_changeSetting 41 = .ok (.aload_n 0, 1) := by decide +kernel
theorem dX0_changeSetting_42 : decode cX0_changeSetting 42 = .ok (.getfield 27, 3) := by decide +kernel
theorem dX0_changeSetting_45 : decode cX0_changeSetting 45 = .ok (.iload_n 1, 1) := by decide +kernel
theorem dX0_changeSetting_46 : decode cX0_changeSetting 46 = .ok (.iload_n 2, 1) := by decide +kernel
theorem dX0_changeSetting_47 : decode cX0_changeSetting 47 = .ok (.iastore, 1) := by decide +kernel
theorem dX0_changeSetting_48 : decode cX0_changeSetting 48 = .ok (.iload 4, 2) := by decide +kernel
theorem dX0_changeSetting_50 : decode cX0_changeSetting 50 = .ok (.ireturn, 1) := by decide +kernel
theorem dX0_purgeShots_0 : decode cX0_purgeShots 0 = .ok (.aload_n 0, 1) := by decide +kernel
theorem dX0_purgeShots_1 : decode cX0_purgeShots 1 = .ok (.iload_n 1, 1) := by decide +kernel
theorem dX0_purgeShots_2 : decode cX0_purgeShots 2 = .ok (.invokevirtual 87, 3) := by decide +kernel
theorem dX0_purgeShots_5 : decode cX0_purgeShots 5 = .ok (.ifCond .eq 16, 3) := by decide +kernel
theorem dX0_purgeShots_8 : decode cX0_purgeShots 8 = .ok (.aload_n 0, 1) := by decide +kernel
theorem dX0_purgeShots_9 : decode cX0_purgeShots 9 = .ok (.iload_n 2, 1) := by decide +kernel
theorem dX0_purgeShots_10 : decode cX0_purgeShots 10 = .ok (.invokevirtual 87, 3) := by decide +kernel
theorem dX0_purgeShots_13 : decode cX0_purgeShots 13 = .ok (.ifCond .eq 8, 3) := by decide +kernel
theorem dX0_purgeShots_16 : decode cX0_purgeShots 16 = .ok (.iload_n 1, 1) := by decide +kernel
theorem dX0_purgeShots_17 : decode cX0_purgeShots 17 = .ok (.iload_n 2, 1) := by decide +kernel
theorem dX0_purgeShots_18 : decode cX0_purgeShots 18 = .ok (.if_icmp .ne 5, 3) := by decide +kernel
theorem dX0_purgeShots_21 : decode cX0_purgeShots 21 = .ok (.iconst 0, 1) := by decide +kernel
theorem dX0_purgeShots_22 : decode cX0_purgeShots 22 = .ok (.ireturn, 1) := by decide +kernel
theorem dX0_purgeShots_23 : decode cX0_purgeShots 23 = .ok (.iconst 1, 1) := by decide +kernel
theorem dX0_purgeShots_24 : decode cX0_purgeShots 24 = .ok (.iconst 0, 1) := by decide +kernel
theorem dX0_purgeShots_25 : decode cX0_purgeShots 25 = .ok (.aload_n 0, 1) := by decide +kernel
theorem dX0_purgeShots_26 : decode cX0_purgeShots 26 = .ok (.getfield 9, 3) := by decide +kernel
theorem dX0_purgeShots_29 : decode cX0_purgeShots 29 = .ok (.iload_n 1, 1) := by decide +kernel
theorem dX0_purgeShots_30 : decode cX0_purgeShots 30 = .ok (.iaload, 1) := by decide +kernel
theorem dX0_purgeShots_31 : decode cX0_purgeShots 31 = .ok (.aload_n 0, 1) := by decide +kernel
theorem dX0_purgeShots_32 : decode cX0_purgeShots 32 = .ok (.getfield 9, 3) := by decide +kernel
theorem dX0_purgeShots_35 : decode cX0_purgeShots 35 = .ok (.iload_n 2, 1) := by decide +kernel
theorem dX0_purgeShots_36 : decode cX0_purgeShots 36 = .ok (.iaload, 1) := by decide +kernel
theorem dX0_purgeShots_37 : decode cX0_purgeShots 37 = .ok (.isub, 1) := by decide +kernel
theorem dX0_purgeShots_38 : decode cX0_purgeShots 38 = .ok (.invokestatic 90, 3) := by decide +kernel
theorem dX0_purgeShots_41 : decode cX0_purgeShots 41 = .ok (.aload_n 0, 1) := by decide +kernel
theorem dX0_purgeShots_42 : decode cX0_purgeShots 42 = .ok (.getfield 27, 3) := by decide +kernel
theorem dX0_purgeShots_45 : decode cX0_purgeShots 45 = .ok (.iconst 2, 1) := by decide +kernel
theorem dX0_purgeShots_46 : decode cX0_purgeShots 46 = .ok (.iaload, 1) := by decide +kernel
theorem dX0_purgeShots_47 : decode cX0_purgeShots 47 = .ok (.imul, 1) := by decide +kernel
theorem dX0_purgeShots_48 : decode cX0_purgeShots 48 = .ok (.iadd, 1) := by decide +kernel
theorem dX0_purgeShots_49 : decode cX0_purgeShots 49 = .ok (.ireturn, 1) := by decide +kernel
theorem dX0_piecesOf_0 : decode cX0_piecesOf 0 = .ok (.aload_n 0, 1) := by decide +kernel
theorem dX0_piecesOf_1 : decode cX0_piecesOf 1 = .ok (.iload_n 1, 1) := by decide +kernel
theorem dX0_piecesOf_2 : decode cX0_piecesOf 2 = .ok (.invokevirtual 95, 3) := by decide +kernel
theorem dX0_piecesOf_5 : decode cX0_piecesOf 5 = .ok (.ifCond .eq 11, 3) := by decide +kernel
theorem dX0_piecesOf_8 : decode cX0_piecesOf 8 = .ok (.aload_n 0, 1) := by decide +kernel
theorem dX0_piecesOf_9 : decode cX0_piecesOf 9 = .ok (.iload_n 2, 1) := by decide +kernel
theorem dX0_piecesOf_10 : decode cX0_piecesOf 10 = .ok (.invokevirtual 64, 3) := by decide +kernel
theorem dX0_piecesOf_13 : decode cX0_piecesOf 13 = .ok (.ifCond .ne 5, 3) := by decide +kernel
theorem dX0_piecesOf_16 : decode cX0_piecesOf 16 = .ok (.iconst 0, 1) := by decide +kernel
theorem dX0_piecesOf_17 : decode cX0_piecesOf 17 = .ok (.ireturn, 1) := by decide +kernel
theorem dX0_piecesOf_18 : decode cX0_piecesOf 18 = .ok (.aload_n 0, 1) := by decide +kernel
theorem dX0_piecesOf_19 : decode cX0_piecesOf 19 = .ok (.getfield 24, 3) := by decide +kernel
theorem dX0_piecesOf_22 : decode cX0_piecesOf 22 = .ok (.iload_n 1, 1) := by decide +kernel
theorem dX0_piecesOf_23 : decode cX0_piecesOf 23 = .ok (.bipush 8, 2) := by decide +kernel
theorem dX0_piecesOf_25 : decode cX0_piecesOf 25 = .ok (.imul, 1) := by decide +kernel
theorem dX0_piecesOf_26 : decode cX0_piecesOf 26 = .ok (.iload_n 2, 1) := by decide +kernel
theorem dX0_piecesOf_27 : decode cX0_piecesOf 27 = .ok (.iadd, 1) := by decide +kernel
theorem dX0_piecesOf_28 : decode cX0_piecesOf 28 = .ok (.iaload, 1) := by decide +kernel
theorem dX0_piecesOf_29 : decode cX0_piecesOf 29 = .ok (.ireturn, 1) := by decide +kernel
theorem dX0_partsOf_0 : decode cX0_partsOf 0 = .ok (.iconst 0, 1) := by decide +kernel
theorem dX0_partsOf_1 : decode cX0_partsOf 1 = .ok (.istore_n 2, 1) := by decide +kernel
theorem dX0_partsOf_2 : decode cX0_partsOf 2 = .ok (.iconst 0, 1) := by decide +kernel
theorem dX0_partsOf_3 : decode cX0_partsOf 3 = .ok (.istore_n 3, 1) := by decide +kernel
theorem dX0_partsOf_4 : decode cX0_partsOf 4 = .ok (.iload_n 3, 1) := by decide +kernel
theorem dX0_partsOf_5 : decode cX0_partsOf 5 = .ok (.aload_n 0, 1) := by decide +kernel
theorem dX0_partsOf_6 : decode cX0_partsOf 6 = .ok (.getfield 34, 3) := by decide +kernel
theorem dX0_partsOf_9 : decode cX0_partsOf 9 = .ok (.if_icmp .ge 26, 3) := by decide +kernel
theorem dX0_partsOf_12 : decode cX0_partsOf 12 = .ok (.iload_n 2, 1) := by decide +kernel
theorem dX0_partsOf_13 : decode cX0_partsOf 13 = .ok (.aload_n 0, 1) := by decide +kernel
theorem dX0_partsOf_14 : decode cX0_partsOf 14 = .ok (.iload_n 1, 1) := by decide +kernel
theorem dX0_partsOf_15 : decode cX0_partsOf 15 = .ok (.iload_n 3, 1) := by decide +kernel
theorem dX0_partsOf_16 : decode cX0_partsOf 16 = .ok (.invokevirtual 98, 3) := by decide +kernel
theorem dX0_partsOf_19 : decode cX0_partsOf 19 = .ok (.ifCond .le 7, 3) := by decide +kernel
theorem dX0_partsOf_22 : decode cX0_partsOf 22 = .ok (.iconst 1, 1) := by decide +kernel
theorem dX0_partsOf_23 : decode cX0_partsOf 23 = .ok (.goto 4, 3) := by decide +kernel
theorem dX0_partsOf_26 : decode cX0_partsOf 26 = .ok (.iconst 0, 1) := by decide +kernel
theorem dX0_partsOf_27 : decode cX0_partsOf 27 = .ok (.iadd, 1) := by decide +kernel
theorem dX0_partsOf_28 : decode cX0_partsOf 28 = .ok (.istore_n 2, 1) := by decide +kernel
theorem dX0_partsOf_29 : decode cX0_partsOf 29 = .ok (.iinc 3 1, 3) := by decide +kernel
theorem dX0_partsOf_32 : decode cX0_partsOf 32 = .ok (.goto (-28), 3) := by decide +kernel
theorem dX0_partsOf_35 : decode cX0_partsOf 35 = .ok (.iload_n 2, 1) := by decide +kernel
theorem dX0_partsOf_36 : decode cX0_partsOf 36 = .ok (.ireturn, 1) := by decide +kernel
theorem dX0_allPiecesOf_0 : decode cX0_allPiecesOf 0 = .ok (.iconst 0, 1) := by decide +kernel
theorem dX0_allPiecesOf_1 : decode cX0_allPiecesOf 1 = .ok (.istore_n 2, 1) := by decide +kernel
theorem dX0_allPiecesOf_2 : decode cX0_allPiecesOf 2 = .ok (.iconst 0, 1) := by decide +kernel
theorem dX0_allPiecesOf_3 : decode cX0_allPiecesOf 3 = .ok (.istore_n 3, 1) := by decide +kernel
theorem dX0_allPiecesOf_4 : decode cX0_allPiecesOf 4 = .ok (.iload_n 3, 1) := by decide +kernel
theorem dX0_allPiecesOf_5 : decode cX0_allPiecesOf 5 = .ok (.aload_n 0, 1) := by decide +kernel
theorem dX0_allPiecesOf_6 : decode cX0_allPiecesOf 6 = .ok (.getfield 34, 3) := by decide +kernel
theorem dX0_allPiecesOf_9 : decode cX0_allPiecesOf 9 = .ok (.if_icmp .ge 18, 3) := by decide +kernel
theorem dX0_allPiecesOf_12 : decode cX0_allPiecesOf 12 = .ok (.iload_n 2, 1) := by decide +kernel
theorem dX0_allPiecesOf_13 : decode cX0_allPiecesOf 13 = .ok (.aload_n 0, 1) := by decide +kernel
theorem dX0_allPiecesOf_14 : decode cX0_allPiecesOf 14 = .ok (.iload_n 1, 1) := by decide +kernel
theorem dX0_allPiecesOf_15 : decode cX0_allPiecesOf 15 = .ok (.iload_n 3, 1) := by decide +kernel
theorem dX0_allPiecesOf_16 : decode cX0_allPiecesOf 16 = .ok (.invokevirtual 98, 3) := by decide +kernel
theorem dX0_allPiecesOf_19 : decode cX0_allPiecesOf 19 = .ok (.iadd, 1) := by decide +kernel
theorem dX0_allPiecesOf_20 : decode cX0_allPiecesOf 20 = .ok (.istore_n 2, 1) := by decide +kernel
theorem dX0_allPiecesOf_21 : decode cX0_allPiecesOf 21 = .ok (.iinc 3 1, 3) := by decide +kernel
theorem dX0_allPiecesOf_24 : decode cX0_allPiecesOf 24 = .ok (.goto (-20), 3) := by decide +kernel
theorem dX0_allPiecesOf_27 : decode cX0_allPiecesOf 27 = .ok (.iload_n 2, 1) := by decide +kernel
theorem dX0_allPiecesOf_28 : decode cX0_allPiecesOf 28 = .ok (.ireturn, 1) := by decide +kernel
theorem dX0_familiesWith_0 : decode cX0_familiesWith 0 = .ok (.iconst 0, 1) := by decide +kernel
theorem dX0_familiesWith_1 : decode cX0_familiesWith 1 = .ok (.istore_n 2, 1) := by decide +kernel
theorem dX0_familiesWith_2 : decode cX0_familiesWith 2 = .ok (.iconst 0, 1) := by decide +kernel
theorem dX0_familiesWith_3 : decode cX0_familiesWith 3 = .ok (.istore_n 3, 1) := by decide +kernel
theorem dX0_familiesWith_4 : decode cX0_familiesWith 4 = .ok (.iload_n 3, 1) := by decide +kernel
theorem dX0_familiesWith_5 : decode cX0_familiesWith 5 = .ok (.aload_n 0, 1) := by decide +kernel
theorem dX0_familiesWith_6 : decode cX0_familiesWith 6 = .ok (.getfield 37, 3) := by decide +kernel
theorem dX0_familiesWith_9 : decode cX0_familiesWith 9 = .ok (.if_icmp .ge 28, 3) := by decide +kernel
theorem dX0_familiesWith_12 : decode cX0_familiesWith 12 = .ok (.iload_n 2, 1) := by decide +kernel
theorem dX0_familiesWith_13 : decode cX0_familiesWith 13 = .ok (.aload_n 0, 1) := by decide +kernel
theorem dX0_familiesWith_14 : decode cX0_familiesWith 14 = .ok (.iload_n 3, 1) := by decide +kernel
theorem dX0_familiesWith_15 : decode cX0_familiesWith 15 = .ok (.iload_n 1, 1) := by decide +kernel
theorem dX0_familiesWith_16 : decode cX0_familiesWith 16 = .ok (.invokevirtual 98, 3) := by decide +kernel
theorem dX0_familiesWith_19 : decode cX0_familiesWith 19 = .ok (.ifCond .le 9, 3) := by decide +kernel
theorem dX0_familiesWith_22 : decode cX0_familiesWith 22 = .ok (.iconst 1, 1) := by decide +kernel
theorem dX0_familiesWith_23 : decode cX0_familiesWith 23 = .ok (.iload_n 3, 1) := by decide +kernel
theorem dX0_familiesWith_24 : decode cX0_familiesWith 24 = .ok (.ishl, 1) := by decide +kernel
theorem dX0_familiesWith_25 : decode cX0_familiesWith 25 = .ok (.goto 4, 3) := by decide +kernel
theorem dX0_familiesWith_28 : decode cX0_familiesWith 28 = .ok (.iconst 0, 1) := by decide +kernel
theorem dX0_familiesWith_29 : decode cX0_familiesWith 29 = .ok (.ior, 1) := by decide +kernel
theorem dX0_familiesWith_30 : decode cX0_familiesWith 30 = .ok (.istore_n 2, 1) := by decide +kernel
theorem dX0_familiesWith_31 : decode cX0_familiesWith 31 = .ok (.iinc 3 1, 3) := by decide +kernel
theorem dX0_familiesWith_34 : decode cX0_familiesWith 34 = .ok (.goto (-30), 3) := by decide +kernel
theorem dX0_familiesWith_37 : decode cX0_familiesWith 37 = .ok (.iload_n 2, 1) := by decide +kernel
theorem dX0_familiesWith_38 : decode cX0_familiesWith 38 = .ok (.ireturn, 1) := by decide +kernel
theorem dX1_init_0 : decode cX1_init 0 = .ok (.aload_n 0, 1) := by decide +kernel
theorem dX1_init_1 : decode cX1_init 1 = .ok (.invokespecial 3, 3) := by decide +kernel
theorem dX1_init_4 : decode cX1_init 4 = .ok (.aload_n 0, 1) := by decide +kernel
theorem dX1_init_5 : decode cX1_init 5 = .ok (.bipush 42, 2) := by decide +kernel
theorem dX1_init_7 : decode cX1_init 7 = .ok (.newarray .int, 2) := by decide +kernel
theorem dX1_init_9 : decode cX1_init 9 = .ok (.putfield 11, 3) := by decide +kernel
theorem dX1_init_12 : decode cX1_init 12 = .ok (.aload_n 0, 1) := by decide +kernel
theorem dX1_init_13 : decode cX1_init 13 = .ok (.sipush 448, 3) := by decide +kernel
theorem dX1_init_16 : decode cX1_init 16 = .ok (.newarray .int, 2) := by decide +kernel
theorem dX1_init_18 : decode cX1_init 18 = .ok (.putfield 15, 3) := by decide +kernel
theorem dX1_init_21 : decode cX1_init 21 = .ok (.return_, 1) := by decide +kernel
theorem dX1_leastSum_0 : decode cX1_leastSum 0 = .ok (.aload_n 0, 1) := by decide +kernel
theorem dX1_leastSum_1 : decode cX1_leastSum 1 = .ok (.aload_n 1, 1) := by decide +kernel
theorem dX1_leastSum_2 : decode cX1_leastSum 2 = .ok (.getfield 18, 3) := by decide +kernel
theorem dX1_leastSum_5 : decode cX1_leastSum 5 = .ok (.iload_n 2, 1) := by decide +kernel
theorem dX1_leastSum_6 : decode cX1_leastSum 6 = .ok (.invokevirtual 24, 3) := by decide +kernel
theorem dX1_leastSum_9 : decode cX1_leastSum 9 = .ok (.aload_n 0, 1) := by decide +kernel
theorem dX1_leastSum_10 : decode cX1_leastSum 10 = .ok (.getfield 15, 3) := by decide +kernel
theorem dX1_leastSum_13 : decode cX1_leastSum 13 = .ok (.iload_n 2, 1) := by decide +kernel
theorem dX1_leastSum_14 : decode cX1_leastSum 14 = .ok (.bipush 7, 2) := by decide +kernel
theorem dX1_leastSum_16 : decode cX1_leastSum 16 = .ok (.imul, 1) := by decide +kernel
theorem dX1_leastSum_17 : decode cX1_leastSum 17 = .ok (.aload_n 1, 1) := by decide +kernel
theorem dX1_leastSum_18 : decode cX1_leastSum 18 = .ok (.getfield 28, 3) := by decide +kernel
theorem dX1_leastSum_21 : decode cX1_leastSum 21 = .ok (.iadd, 1) := by decide +kernel
theorem dX1_leastSum_22 : decode cX1_leastSum 22 = .ok (.iconst 1, 1) := by decide +kernel
theorem dX1_leastSum_23 : decode cX1_leastSum 23 = .ok (.iadd, 1) := by decide +kernel
theorem dX1_leastSum_24 : decode cX1_leastSum 24 = .ok (.iaload, 1) := by decide +kernel
theorem dX1_leastSum_25 : decode cX1_leastSum 25 = .ok (.ireturn, 1) := by decide +kernel
theorem dX1_colourAt_0 : decode cX1_colourAt 0 = .ok (.aload_n 0, 1) := by decide +kernel
theorem dX1_colourAt_1 : decode cX1_colourAt 1 = .ok (.aload_n 1, 1) := by decide +kernel
theorem dX1_colourAt_2 : decode cX1_colourAt 2 = .ok (.getfield 18, 3) := by decide +kernel
theorem dX1_colourAt_5 : decode cX1_colourAt 5 = .ok (.iload_n 2, 1) := by decide +kernel
theorem dX1_colourAt_6 : decode cX1_colourAt 6 = .ok (.invokevirtual 24, 3) := by decide +kernel
theorem dX1_colourAt_9 : decode cX1_colourAt 9 = .ok (.iload_n 2, 1) := by decide +kernel
theorem dX1_colourAt_10 : decode cX1_colourAt 10 = .ok (.istore 4, 2) := by decide +kernel
theorem dX1_colourAt_12 : decode cX1_colourAt 12 = .ok (.aload_n 1, 1) := by decide +kernel
theorem dX1_colourAt_13 : decode cX1_colourAt 13 = .ok (.getfield 28, 3) := by decide +kernel
theorem dX1_colourAt_16 : decode cX1_colourAt 16 = .ok (.iconst 1, 1) := by decide +kernel
theorem dX1_colourAt_17 : decode cX1_colourAt 17 = .ok (.iadd, 1) := by decide +kernel
theorem dX1_colourAt_18 : decode cX1_colourAt 18 = .ok (.istore 5, 2) := by decide +kernel
theorem dX1_colourAt_20 : decode cX1_colourAt 20 = .ok (.iconst (-1), 1) := by decide +kernel
theorem dX1_colourAt_21 : decode cX1_colourAt 21 = .ok (.istore 6, 2) := by decide +kernel
theorem dX1_colourAt_23 : decode cX1_colourAt 23 = .ok (.iconst 0, 1) := by decide +kernel
theorem dX1_colourAt_24 : decode cX1_colourAt 24 = .ok (.istore 7, 2) := by decide +kernel
theorem dX1_colourAt_26 : decode cX1_colourAt 26 = .ok (.iload 7, 2) := by decide +kernel
theorem dX1_colourAt_28 : decode cX1_colourAt 28 = .ok (.iload_n 3, 1) := by decide +kernel
theorem dX1_colourAt_29 : decode cX1_colourAt 29 = .ok (.if_icmp .gt 41, 3) := by decide +kernel
theorem dX1_colourAt_32 : decode cX1_colourAt 32 = .ok (.iload 4, 2) := by decide +kernel
theorem dX1_colourAt_34 : decode cX1_colourAt 34 = .ok (.ifCond .eq 36, 3) := by decide +kernel
theorem dX1_colourAt_37 : decode cX1_colourAt 37 = .ok (.aload_n 0, 1) := by decide +kernel
theorem dX1_colourAt_38 : decode cX1_colourAt 38 = .ok (.iload 5, 2) := by decide +kernel
theorem dX1_colourAt_40 : decode cX1_colourAt 40 = .ok (.iload 4, 2) := by decide +kernel
theorem dX1_colourAt_42 : decode cX1_colourAt 42 = .ok (.invokevirtual 40, 3) := by decide +kernel
theorem dX1_colourAt_45 : decode cX1_colourAt 45 = .ok (.istore 6, 2) := by decide +kernel
theorem dX1_colourAt_47 : decode cX1_colourAt 47 = .ok (.iload 4, 2) := by decide +kernel
theorem dX1_colourAt_49 : decode cX1_colourAt 49 = .ok (.iconst 1, 1) := by decide +kernel
theorem dX1_colourAt_50 : decode cX1_colourAt 50 = .ok (.iload 6, 2) := by decide +kernel
theorem dX1_colourAt_52 : decode cX1_colourAt 52 = .ok (.ishl, 1) := by decide +kernel
theorem dX1_colourAt_53 : decode cX1_colourAt 53 = .ok (.iconst (-1), 1) := by decide +kernel
theorem dX1_colourAt_54 : decode cX1_colourAt 54 = .ok (.ixor, 1) := by decide +kernel
theorem dX1_colourAt_55 : decode cX1_colourAt 55 = .ok (.iand, 1) := by decide +kernel
theorem dX1_colourAt_56 : decode cX1_colourAt 56 = .ok (.istore 4, 2) := by decide +kernel
theorem dX1_colourAt_58 : decode cX1_colourAt 58 = .ok (.iload 6, 2) := by decide +kernel
theorem dX1_colourAt_60 : decode cX1_colourAt 60 = .ok (.iconst 1, 1) := by decide +kernel
theorem dX1_colourAt_61 : decode cX1_colourAt 61 = .ok (.iadd, 1) := by decide +kernel
theorem dX1_colourAt_62 : decode cX1_colourAt 62 = .ok (.istore 5, 2) := by decide +kernel
theorem dX1_colourAt_64 : decode cX1_colourAt 64 = .ok (.iinc 7 1, 3) := by decide +kernel
theorem dX1_colourAt_67 : decode cX1_colourAt 67 = .ok (.goto (-41), 3) := by decide +kernel
theorem dX1_colourAt_70 : decode cX1_colourAt 70 = .ok (.iload 6, 2) := by decide +kernel
theorem dX1_colourAt_72 : decode cX1_colourAt 72 = .ok (.ireturn, 1) := by decide +kernel
theorem dX1_lowestBest_0 : decode cX1_lowestBest 0 = .ok (.iconst 0, 1) := by decide +kernel
theorem dX1_lowestBest_1 : decode cX1_lowestBest 1 = .ok (.istore_n 3, 1) := by decide +kernel
theorem dX1_lowestBest_2 : decode cX1_lowestBest 2 = .ok (.ldc 44, 2) := by decide +kernel
theorem dX1_lowestBest_4 : decode cX1_lowestBest 4 = .ok (.istore 4, 2) := by decide +kernel
theorem dX1_lowestBest_6 : decode cX1_lowestBest 6 = .ok (.iconst 0, 1) := by decide +kernel
theorem dX1_lowestBest_7 : decode cX1_lowestBest 7 = .ok (.istore 5, 2) := by decide +kernel
theorem dX1_lowestBest_9 : decode cX1_lowestBest 9 = .ok (.iload 5, 2) := by decide +kernel
theorem dX1_lowestBest_11 : decode cX1_lowestBest 11 = .ok (.bipush 6, 2) := by decide +kernel
theorem dX1_lowestBest_13 : decode cX1_lowestBest 13 = .ok (.if_icmp .ge 45, 3) := by decide +kernel
theorem dX1_lowestBest_16 : decode cX1_lowestBest 16 = .ok (.iload_n 2, 1) := by decide +kernel
theorem dX1_lowestBest_17 : decode cX1_lowestBest 17 = .ok (.iload 5, 2) := by decide +kernel
theorem dX1_lowestBest_19 : decode cX1_lowestBest 19 = .ok (.ishr, 1) := by decide +kernel
theorem dX1_lowestBest_20 : decode cX1_lowestBest 20 = .ok (.iconst 1, 1) := by decide +kernel
theorem dX1_lowestBest_21 : decode cX1_lowestBest 21 = .ok (.iand, 1) := by decide +kernel
theorem dX1_lowestBest_22 : decode cX1_lowestBest 22 = .ok (.iconst 1, 1) := by decide +kernel
theorem dX1_lowestBest_23 : decode cX1_lowestBest 23 = .ok (.if_icmp .ne 29, 3) := by decide +kernel
theorem dX1_lowestBest_26 : decode cX1_lowestBest 26 = .ok (.aload_n 0, 1) := by decide +kernel
theorem dX1_lowestBest_27 : decode cX1_lowestBest 27 = .ok (.iload_n 1, 1) := by decide +kernel
theorem dX1_lowestBest_28 : decode cX1_lowestBest 28 = .ok (.iload 5, 2) := by decide +kernel
theorem dX1_lowestBest_30 : decode cX1_lowestBest 30 = .ok (.iload_n 2, 1) := by decide +kernel
theorem dX1_lowestBest_31 : decode cX1_lowestBest 31 = .ok (.invokevirtual 45, 3) := by decide +kernel
theorem dX1_lowestBest_34 : decode cX1_lowestBest 34 = .ok (.iload 4, 2) := by decide +kernel
theorem dX1_lowestBest_36 : decode cX1_lowestBest 36 = .ok (.if_icmp .ge 16, 3) := by decide +kernel
theorem dX1_lowestBest_39 : decode cX1_lowestBest 39 = .ok (.aload_n 0, 1) := by decide +kernel
theorem dX1_lowestBest_40 : decode cX1_lowestBest 40 = .ok (.iload_n 1, 1) := by decide +kernel
theorem dX1_lowestBest_41 : decode cX1_lowestBest 41 = .ok (.iload 5, 2) := by decide +kernel
theorem dX1_lowestBest_43 : decode cX1_lowestBest 43 = .ok (.iload_n 2, 1) := by decide +kernel
theorem dX1_lowestBest_44 : decode cX1_lowestBest 44 = .ok (.invokevirtual 45, 3) := by decide +kernel
theorem dX1_lowestBest_47 : decode cX1_lowestBest 47 = .ok (.istore 4, 2) := by decide +kernel
theorem dX1_lowestBest_49 : decode cX1_lowestBest 49 = .ok (.iload 5, 2) := by decide +kernel
theorem dX1_lowestBest_51 : decode cX1_lowestBest 51 = .ok (.istore_n 3, 1) := by decide +kernel
theorem dX1_lowestBest_52 : decode cX1_lowestBest 52 = .ok (.iinc 5 1, 3) := by decide +kernel
theorem dX1_lowestBest_55 : decode cX1_lowestBest 55 = .ok (.goto (-46), 3) := by decide +kernel
theorem dX1_lowestBest_58 : decode cX1_lowestBest 58 = .ok (.iload_n 3, 1) := by decide +kernel
theorem dX1_lowestBest_59 : decode cX1_lowestBest 59 = .ok (.ireturn, 1) := by decide +kernel
theorem dX1_sumThrough_0 : decode cX1_sumThrough 0 = .ok (.aload_n 0, 1) := by decide +kernel
theorem dX1_sumThrough_1 : decode cX1_sumThrough 1 = .ok (.getfield 11, 3) := by decide +kernel
theorem dX1_sumThrough_4 : decode cX1_sumThrough 4 = .ok (.iload_n 1, 1) := by decide +kernel
theorem dX1_sumThrough_5 : decode cX1_sumThrough 5 = .ok (.bipush 6, 2) := by decide +kernel
theorem dX1_sumThrough_7 : decode cX1_sumThrough 7 = .ok (.imul, 1) := by decide +kernel
theorem dX1_sumThrough_8 : decode cX1_sumThrough 8 = .ok (.iload_n 2, 1) := by decide +kernel
theorem dX1_sumThrough_9 : decode cX1_sumThrough 9 = .ok (.iadd, 1) := by decide +kernel
theorem dX1_sumThrough_10 : decode cX1_sumThrough 10 = .ok (.iaload, 1) := by decide +kernel
theorem dX1_sumThrough_11 : decode cX1_sumThrough 11 = .ok (.aload_n 0, 1) := by decide +kernel
theorem dX1_sumThrough_12 : decode cX1_sumThrough 12 = .ok (.getfield 15, 3) := by decide +kernel
theorem dX1_sumThrough_15 : decode cX1_sumThrough 15 = .ok (.iload_n 3, 1) := by decide +kernel
theorem dX1_sumThrough_16 : decode cX1_sumThrough 16 = .ok (.iconst 1, 1) := by decide +kernel
theorem dX1_sumThrough_17 : decode cX1_sumThrough 17 = .ok (.iload_n 2, 1) := by decide +kernel
theorem dX1_sumThrough_18 : decode cX1_sumThrough 18 = .ok (.ishl, 1) := by decide +kernel
theorem dX1_sumThrough_19 : decode cX1_sumThrough 19 = .ok (.iconst (-1), 1) := by decide +kernel
theorem dX1_sumThrough_20 : decode cX1_sumThrough 20 = .ok (.ixor, 1) := by decide +kernel
theorem dX1_sumThrough_21 : decode cX1_sumThrough 21 = .ok (.iand, 1) := by decide +kernel
theorem dX1_sumThrough_22 : decode cX1_sumThrough 22 = .ok (.bipush 7, 2) := by decide +kernel
theorem dX1_sumThrough_24 : decode cX1_sumThrough 24 = .ok (.imul, 1) := by decide +kernel
theorem dX1_sumThrough_25 : decode cX1_sumThrough 25 = .ok (.iload_n 2, 1) := by decide +kernel
theorem dX1_sumThrough_26 : decode cX1_sumThrough 26 = .ok (.iadd, 1) := by decide +kernel
theorem dX1_sumThrough_27 : decode cX1_sumThrough 27 = .ok (.iconst 1, 1) := by decide +kernel
theorem dX1_sumThrough_28 : decode cX1_sumThrough 28 = .ok (.iadd, 1) := by decide +kernel
theorem dX1_sumThrough_29 : decode cX1_sumThrough 29 = .ok (.iaload, 1) := by decide +kernel
theorem dX1_sumThrough_30 : decode cX1_sumThrough 30 = .ok (.iadd, 1) := by decide +kernel
theorem dX1_sumThrough_31 : decode cX1_sumThrough 31 = .ok (.ireturn, 1) := by decide +kernel
theorem dX1_fillPurges_0 : decode cX1_fillPurges 0 = .ok (.iconst 0, 1) := by decide +kernel
theorem dX1_fillPurges_1 : decode cX1_fillPurges 1 = .ok (.istore_n 2, 1) := by decide +kernel
theorem dX1_fillPurges_2 : decode cX1_fillPurges 2 = .ok (.iload_n 2, 1) := by decide +kernel
theorem dX1_fillPurges_3 : decode cX1_fillPurges 3 = .ok (.bipush 7, 2) := by decide +kernel
theorem dX1_fillPurges_5 : decode cX1_fillPurges 5 = .ok (.if_icmp .ge 42, 3) := by decide +kernel
theorem dX1_fillPurges_8 : decode cX1_fillPurges 8 = .ok (.iconst 0, 1) := by decide +kernel
theorem dX1_fillPurges_9 : decode cX1_fillPurges 9 = .ok (.istore_n 3, 1) := by decide +kernel
theorem dX1_fillPurges_10 : decode cX1_fillPurges 10 = .ok (.iload_n 3, 1) := by decide +kernel
theorem dX1_fillPurges_11 : decode cX1_fillPurges 11 = .ok (.bipush 6, 2) := by decide +kernel
theorem dX1_fillPurges_13 : decode cX1_fillPurges 13 = .ok (.if_icmp .ge 28, 3) := by decide +kernel
theorem dX1_fillPurges_16 : decode cX1_fillPurges 16 = .ok (.aload_n 0, 1) := by decide +kernel
theorem dX1_fillPurges_17 : decode cX1_fillPurges 17 = .ok (.getfield 11, 3) := by decide +kernel
theorem dX1_fillPurges_20 : decode cX1_fillPurges 20 = .ok (.iload_n 2, 1) := by decide +kernel
theorem dX1_fillPurges_21 : decode cX1_fillPurges 21 = .ok (.bipush 6, 2) := by decide +kernel
theorem dX1_fillPurges_23 : decode cX1_fillPurges 23 = .ok (.imul, 1) := by decide +kernel
theorem dX1_fillPurges_24 : decode cX1_fillPurges 24 = .ok (.iload_n 3, 1) := by decide +kernel
theorem dX1_fillPurges_25 : decode cX1_fillPurges 25 = .ok (.iadd, 1) := by decide +kernel
theorem dX1_fillPurges_26 : decode cX1_fillPurges 26 = .ok (.aload_n 1, 1) := by decide +kernel
theorem dX1_fillPurges_27 : decode cX1_fillPurges 27 = .ok (.iload_n 2, 1) := by decide +kernel
theorem dX1_fillPurges_28 : decode cX1_fillPurges 28 = .ok (.iconst 1, 1) := by decide +kernel
theorem dX1_fillPurges_29 : decode cX1_fillPurges 29 = .ok (.isub, 1) := by decide +kernel
theorem dX1_fillPurges_30 : decode cX1_fillPurges 30 = .ok (.iload_n 3, 1) := by decide +kernel
theorem dX1_fillPurges_31 : decode cX1_fillPurges 31 = .ok (.invokevirtual 49, 3) := by decide +kernel
theorem dX1_fillPurges_34 : decode cX1_fillPurges 34 = .ok (.iastore, 1) := by decide +kernel
theorem dX1_fillPurges_35 : decode cX1_fillPurges 35 = .ok (.iinc 3 1, 3) := by decide +kernel
theorem dX1_fillPurges_38 : decode cX1_fillPurges 38 = .ok (.goto (-28), 3) := by decide +kernel
theorem dX1_fillPurges_41 : decode cX1_fillPurges 41 = .ok (.iinc 2 1, 3) := by decide +kernel
theorem dX1_fillPurges_44 : decode cX1_fillPurges 44 = .ok (.goto (-42), 3) := by decide +kernel
theorem dX1_fillPurges_47 : decode cX1_fillPurges 47 = .ok (.return_, 1) := by decide +kernel
theorem dX1_fillSums_0 : decode cX1_fillSums 0 = .ok (.aload_n 0, 1) := by decide +kernel
theorem dX1_fillSums_1 : decode cX1_fillSums 1 = .ok (.aload_n 1, 1) := by decide +kernel
theorem dX1_fillSums_2 : decode cX1_fillSums 2 = .ok (.invokevirtual 32, 3) := by decide +kernel
theorem dX1_fillSums_5 : decode cX1_fillSums 5 = .ok (.iconst 0, 1) := by decide +kernel
theorem dX1_fillSums_6 : decode cX1_fillSums 6 = .ok (.istore_n 3, 1) := by decide +kernel
theorem dX1_fillSums_7 : decode cX1_fillSums 7 = .ok (.iload_n 3, 1) := by decide +kernel
theorem dX1_fillSums_8 : decode cX1_fillSums 8 = .ok (.iload_n 2, 1) := by decide +kernel
theorem dX1_fillSums_9 : decode cX1_fillSums 9 = .ok (.if_icmp .gt 73, 3) := by decide +kernel
theorem dX1_fillSums_12 : decode cX1_fillSums 12 = .ok (.iload_n 3, 1) := by decide +kernel
theorem dX1_fillSums_13 : decode cX1_fillSums 13 = .ok (.bipush 64, 2) := by decide +kernel
theorem dX1_fillSums_15 : decode cX1_fillSums 15 = .ok (.if_icmp .ge 67, 3) := by decide +kernel
theorem dX1_fillSums_18 : decode cX1_fillSums 18 = .ok (.iconst 0, 1) := by decide +kernel
theorem dX1_fillSums_19 : decode cX1_fillSums 19 = .ok (.istore 4, 2) := by decide +kernel
theorem dX1_fillSums_21 : decode cX1_fillSums 21 = .ok (.iload 4, 2) := by decide +kernel
theorem dX1_fillSums_23 : decode cX1_fillSums 23 = .ok (.bipush 7, 2) := by decide +kernel
theorem dX1_fillSums_25 : decode cX1_fillSums 25 = .ok (.if_icmp .ge 51, 3) := by decide +kernel
theorem dX1_fillSums_28 : decode cX1_fillSums 28 = .ok (.iload_n 3, 1) := by decide +kernel
theorem dX1_fillSums_29 : decode cX1_fillSums 29 = .ok (.iload_n 2, 1) := by decide +kernel
theorem dX1_fillSums_30 : decode cX1_fillSums 30 = .ok (.iconst (-1), 1) := by decide +kernel
theorem dX1_fillSums_31 : decode cX1_fillSums 31 = .ok (.ixor, 1) := by decide +kernel
theorem dX1_fillSums_32 : decode cX1_fillSums 32 = .ok (.iand, 1) := by decide +kernel
theorem dX1_fillSums_33 : decode cX1_fillSums 33 = .ok (.ifCond .ne 43, 3) := by decide +kernel
theorem dX1_fillSums_36 : decode cX1_fillSums 36 = .ok (.aload_n 0, 1) := by decide +kernel
theorem dX1_fillSums_37 : decode cX1_fillSums 37 = .ok (.getfield 15, 3) := by decide +kernel
theorem dX1_fillSums_40 : decode cX1_fillSums 40 = .ok (.iload_n 3, 1) := by decide +kernel
theorem dX1_fillSums_41 : decode cX1_fillSums 41 = .ok (.bipush 7, 2) := by decide +kernel
theorem dX1_fillSums_43 : decode cX1_fillSums 43 = .ok (.imul, 1) := by decide +kernel
theorem dX1_fillSums_44 : decode cX1_fillSums 44 = .ok (.iload 4, 2) := by decide +kernel
theorem dX1_fillSums_46 : decode cX1_fillSums 46 = .ok (.iadd, 1) := by decide +kernel
theorem dX1_fillSums_47 : decode cX1_fillSums 47 = .ok (.iload_n 3, 1) := by decide +kernel
theorem dX1_fillSums_48 : decode cX1_fillSums 48 = .ok (.ifCond .ne 7, 3) := by decide +kernel
theorem dX1_fillSums_51 : decode cX1_fillSums 51 = .ok (.iconst 0, 1) := by decide +kernel
theorem dX1_fillSums_52 : decode cX1_fillSums 52 = .ok (.goto 17, 3) := by decide +kernel
theorem dX1_fillSums_55 : decode cX1_fillSums 55 = .ok (.aload_n 0, 1) := by decide +kernel
theorem dX1_fillSums_56 : decode cX1_fillSums 56 = .ok (.iload 4, 2) := by decide +kernel
theorem dX1_fillSums_58 : decode cX1_fillSums 58 = .ok (.aload_n 0, 1) := by decide +kernel
theorem dX1_fillSums_59 : decode cX1_fillSums 59 = .ok (.iload 4, 2) := by decide +kernel
theorem dX1_fillSums_61 : decode cX1_fillSums 61 = .ok (.iload_n 3, 1) := by decide +kernel
theorem dX1_fillSums_62 : decode cX1_fillSums 62 = .ok (.invokevirtual 40, 3) := by decide +kernel
theorem dX1_fillSums_65 : decode cX1_fillSums 65 = .ok (.iload_n 3, 1) := by decide +kernel
theorem dX1_fillSums_66 : decode cX1_fillSums 66 = .ok (.invokevirtual 45, 3) := by decide +kernel
theorem dX1_fillSums_69 : decode cX1_fillSums 69 = .ok (.iastore, 1) := by decide +kernel
theorem dX1_fillSums_70 : decode cX1_fillSums 70 = .ok (.iinc 4 1, 3) := by decide +kernel
theorem dX1_fillSums_73 : decode cX1_fillSums 73 = .ok (.goto (-52), 3) := by decide +kernel
theorem dX1_fillSums_76 : decode cX1_fillSums 76 = .ok (.iinc 3 1, 3) := by decide +kernel
theorem dX1_fillSums_79 : decode cX1_fillSums 79 = .ok (.goto (-72), 3) := by decide +kernel
theorem dX1_fillSums_82 : decode cX1_fillSums 82 = .ok (.return_, 1) := by decide +kernel
theorem dX2_init_0 : decode cX2_init 0 = .ok (.aload_n 0, 1) := by decide +kernel
theorem dX2_init_1 : decode cX2_init 1 = .ok (.invokespecial 3, 3) := by decide +kernel
theorem dX2_init_4 : decode cX2_init 4 = .ok (.aload_n 0, 1) := by decide +kernel
theorem dX2_init_5 : decode cX2_init 5 = .ok (.iconst 3, 1) := by decide +kernel
theorem dX2_init_6 : decode cX2_init 6 = .ok (.newarray .int, 2) := by decide +kernel
theorem dX2_init_8 : decode cX2_init 8 = .ok (.dup, 1) := by decide +kernel
theorem dX2_init_9 : decode cX2_init 9 = .ok (.iconst 0, 1) := by decide +kernel
theorem dX2_init_10 : decode cX2_init 10 = .ok (.iconst (-1), 1) := by decide +kernel
theorem dX2_init_11 : decode cX2_init 11 = .ok (.iastore, 1) := by decide +kernel
theorem dX2_init_12 : decode cX2_init 12 = .ok (.dup, 1) := by decide +kernel
theorem dX2_init_13 : decode cX2_init 13 = .ok (.iconst 1, 1) := by decide +kernel
theorem dX2_init_14 : decode cX2_init 14 = .ok (.iconst (-1), 1) := by decide +kernel
theorem dX2_init_15 : decode cX2_init 15 = .ok (.iastore, 1) := by decide +kernel
theorem dX2_init_16 : decode cX2_init 16 = .ok (.dup, 1) := by decide +kernel
theorem dX2_init_17 : decode cX2_init 17 = .ok (.iconst 2, 1) := by decide +kernel
theorem dX2_init_18 : decode cX2_init 18 = .ok (.iconst (-1), 1) := by decide +kernel
theorem dX2_init_19 : decode cX2_init 19 = .ok (.iastore, 1) := by decide +kernel
theorem dX2_init_20 : decode cX2_init 20 = .ok (.putfield 9, 3) := by decide +kernel
theorem dX2_init_23 : decode cX2_init 23 = .ok (.aload_n 0, 1) := by decide +kernel
theorem dX2_init_24 : decode cX2_init 24 = .ok (.iconst 3, 1) := by decide +kernel
theorem dX2_init_25 : decode cX2_init 25 = .ok (.newarray .int, 2) := by decide +kernel
theorem dX2_init_27 : decode cX2_init 27 = .ok (.putfield 15, 3) := by decide +kernel
theorem dX2_init_30 : decode cX2_init 30 = .ok (.aload_n 0, 1) := by decide +kernel
theorem dX2_init_31 : decode cX2_init 31 = .ok (.iconst 3, 1) := by decide +kernel
theorem dX2_init_32 : decode cX2_init 32 = .ok (.newarray .int, 2) := by decide +kernel
theorem dX2_init_34 : decode cX2_init 34 = .ok (.putfield 18, 3) := by decide +kernel
theorem dX2_init_37 : decode cX2_init 37 = .ok (.return_, 1) := by decide +kernel
theorem dX2_copyFrom_0 : decode cX2_copyFrom 0 = .ok (.aload_n 1, 1) := by decide +kernel
theorem dX2_copyFrom_1 : decode cX2_copyFrom 1 = .ok (.getfield 9, 3) := by decide +kernel
theorem dX2_copyFrom_4 : decode cX2_copyFrom 4 = .ok (.aload_n 0, 1) := by decide +kernel
theorem dX2_copyFrom_5 : decode cX2_copyFrom 5 = .ok (.getfield 9, 3) := by decide +kernel
theorem dX2_copyFrom_8 : decode cX2_copyFrom 8 = .ok (.invokestatic 21, 3) := by decide +kernel
theorem dX2_copyFrom_11 : decode cX2_copyFrom 11 = .ok (.aload_n 1, 1) := by decide +kernel
theorem dX2_copyFrom_12 : decode cX2_copyFrom 12 = .ok (.getfield 15, 3) := by decide +kernel
theorem dX2_copyFrom_15 : decode cX2_copyFrom 15 = .ok (.aload_n 0, 1) := by decide +kernel
theorem dX2_copyFrom_16 : decode cX2_copyFrom 16 = .ok (.getfield 15, 3) := by decide +kernel
theorem dX2_copyFrom_19 : decode cX2_copyFrom 19 = .ok (.invokestatic 21, 3) := by decide +kernel
theorem dX2_copyFrom_22 : decode cX2_copyFrom 22 = .ok (.aload_n 1, 1) := by decide +kernel
theorem dX2_copyFrom_23 : decode cX2_copyFrom 23 = .ok (.getfield 18, 3) := by decide +kernel
theorem dX2_copyFrom_26 : decode cX2_copyFrom 26 = .ok (.aload_n 0, 1) := by decide +kernel
theorem dX2_copyFrom_27 : decode cX2_copyFrom 27 = .ok (.getfield 18, 3) := by decide +kernel
theorem dX2_copyFrom_30 : decode cX2_copyFrom 30 = .ok (.invokestatic 21, 3) := by decide +kernel
theorem dX2_copyFrom_33 : decode cX2_copyFrom 33 = .ok (.return_, 1) := by decide +kernel
theorem dX2_fill_0 : decode cX2_fill 0 = .ok (.iload_n 3, 1) := by decide +kernel
theorem dX2_fill_1 : decode cX2_fill 1 = .ok (.iconst 1, 1) := by decide +kernel
theorem dX2_fill_2 : decode cX2_fill 2 = .ok (.ldc 25, 2) := by decide +kernel
theorem dX2_fill_4 : decode cX2_fill 4 = .ok (.invokestatic 26, 3) := by decide +kernel
theorem dX2_fill_7 : decode cX2_fill 7 = .ok (.ifCond .ne 11, 3) := by decide +kernel
theorem dX2_fill_10 : decode cX2_fill 10 = .ok (.aload 4, 2) := by decide +kernel
theorem dX2_fill_12 : decode cX2_fill 12 = .ok (.iconst 2, 1) := by decide +kernel
theorem dX2_fill_13 : decode cX2_fill 13 = .ok (.iconst 0, 1) := by decide +kernel
theorem dX2_fill_14 : decode cX2_fill 14 = .ok (.invokevirtual 30, 3) := by decide +kernel
theorem dX2_fill_17 : decode cX2_fill 17 = .ok (.ireturn, 1) := by decide +kernel
theorem dX2_fill_18 : decode cX2_fill 18 = .ok (.aload_n 0, 1) := by decide +kernel
theorem dX2_fill_19 : decode cX2_fill 19 = .ok (.getfield 9, 3) := by decide +kernel
theorem dX2_fill_22 : decode cX2_fill 22 = .ok (.iload_n 1, 1) := by decide +kernel
theorem dX2_fill_23 : decode cX2_fill 23 = .ok (.iaload, 1) := by decide +kernel
theorem dX2_fill_24 : decode cX2_fill 24 = .ok (.iconst (-1), 1) := by decide +kernel
theorem dX2_fill_25 : decode cX2_fill 25 = .ok (.if_icmp .eq 27, 3) := by decide +kernel
theorem dX2_fill_28 : decode cX2_fill 28 = .ok (.aload_n 0, 1) := by decide +kernel
theorem dX2_fill_29 : decode cX2_fill 29 = .ok (.getfield 9, 3) := by decide +kernel
theorem dX2_fill_32 : decode cX2_fill 32 = .ok (.iload_n 1, 1) := by decide +kernel
theorem dX2_fill_33 : decode cX2_fill 33 = .ok (.iaload, 1) := by decide +kernel
theorem dX2_fill_34 : decode cX2_fill 34 = .ok (.iload_n 2, 1) := by decide +kernel
theorem dX2_fill_35 : decode cX2_fill 35 = .ok (.if_icmp .eq 17, 3) := by decide +kernel
theorem dX2_fill_38 : decode cX2_fill 38 = .ok (.aload 4, 2) := by decide +kernel
theorem dX2_fill_40 : decode cX2_fill 40 = .ok (.bipush 6, 2) := by decide +kernel
theorem dX2_fill_42 : decode cX2_fill 42 = .ok (.aload_n 0, 1) := by decide +kernel
theorem dX2_fill_43 : decode cX2_fill 43 = .ok (.getfield 9, 3) := by decide +kernel
theorem dX2_fill_46 : decode cX2_fill 46 = .ok (.iload_n 1, 1) := by decide +kernel
theorem dX2_fill_47 : decode cX2_fill 47 = .ok (.iaload, 1) := by decide +kernel
theorem dX2_fill_48 : decode cX2_fill 48 = .ok (.invokevirtual 30, 3) := by decide +kernel
theorem dX2_fill_51 : decode cX2_fill 51 = .ok (.ireturn, 1) := by decide +kernel
theorem dX2_fill_52 : decode cX2_fill 52 = .ok (.aload_n 0, 1) := by decide +kernel
theorem dX2_fill_53 : decode cX2_fill 53 = .ok (.getfield 15, 3) := by decide +kernel
theorem dX2_fill_56 : decode cX2_fill 56 = .ok (.iload_n 1, 1) := by decide +kernel
theorem dX2_fill_57 : decode cX2_fill 57 = .ok (.iaload, 1) := by decide +kernel
theorem dX2_fill_58 : decode cX2_fill 58 = .ok (.iload_n 3, 1) := by decide +kernel
theorem dX2_fill_59 : decode cX2_fill 59 = .ok (.iadd, 1) := by decide +kernel
theorem dX2_fill_60 : decode cX2_fill 60 = .ok (.ldc 25, 2) := by decide +kernel
theorem dX2_fill_62 : decode cX2_fill 62 = .ok (.if_icmp .le 12, 3) := by decide +kernel
theorem dX2_fill_65 : decode cX2_fill 65 = .ok (.aload 4, 2) := by decide +kernel
theorem dX2_fill_67 : decode cX2_fill 67 = .ok (.bipush 7, 2) := by decide +kernel
theorem dX2_fill_69 : decode cX2_fill 69 = .ok (.iconst 0, 1) := by decide +kernel
theorem dX2_fill_70 : decode cX2_fill 70 = .ok (.invokevirtual 30, 3) := by decide +kernel
theorem dX2_fill_73 : decode cX2_fill 73 = .ok (.ireturn, 1) := by decide +kernel
theorem dX2_fill_74 : decode cX2_fill 74 = .ok (.aload_n 0, 1) := by decide +kernel
theorem dX2_fill_75 : decode cX2_fill 75 = .ok (.getfield 9, 3) := by decide +kernel
theorem dX2_fill_78 : decode cX2_fill 78 = .ok (.iload_n 1, 1) := by decide +kernel
theorem dX2_fill_79 : decode cX2_fill 79 = .ok (.iload_n 2, 1) := by decide +kernel
theorem dX2_fill_80 : decode cX2_fill 80 = .ok (.iastore, 1) := by decide +kernel
theorem dX2_fill_81 : decode cX2_fill 81 = .ok (.aload_n 0, 1) := by decide +kernel
theorem dX2_fill_82 : decode cX2_fill 82 = .ok (.getfield 15, 3) := by decide +kernel
theorem dX2_fill_85 : decode cX2_fill 85 = .ok (.iload_n 1, 1) := by decide +kernel
theorem dX2_fill_86 : decode cX2_fill 86 = .ok (.dup2, 1) := by decide +kernel
theorem dX2_fill_87 : decode cX2_fill 87 = .ok (.iaload, 1) := by decide +kernel
theorem dX2_fill_88 : decode cX2_fill 88 = .ok (.iload_n 3, 1) := by decide +kernel
theorem dX2_fill_89 : decode cX2_fill 89 = .ok (.iadd, 1) := by decide +kernel
theorem dX2_fill_90 : decode cX2_fill 90 = .ok (.iastore, 1) := by decide +kernel
theorem dX2_fill_91 : decode cX2_fill 91 = .ok (.aload_n 0, 1) := by decide +kernel
theorem dX2_fill_92 : decode cX2_fill 92 = .ok (.getfield 18, 3) := by decide +kernel
theorem dX2_fill_95 : decode cX2_fill 95 = .ok (.iload_n 1, 1) := by decide +kernel
theorem dX2_fill_96 : decode cX2_fill 96 = .ok (.iconst 0, 1) := by decide +kernel
theorem dX2_fill_97 : decode cX2_fill 97 = .ok (.iastore, 1) := by decide +kernel
theorem dX2_fill_98 : decode cX2_fill 98 = .ok (.aload_n 0, 1) := by decide +kernel
theorem dX2_fill_99 : decode cX2_fill 99 = .ok (.getfield 15, 3) := by decide +kernel
theorem dX2_fill_102 : decode cX2_fill 102 = .ok (.iload_n 1, 1) := by decide +kernel
theorem dX2_fill_103 : decode cX2_fill 103 = .ok (.iaload, 1) := by decide +kernel
theorem dX2_fill_104 : decode cX2_fill 104 = .ok (.ireturn, 1) := by decide +kernel
theorem dX2_takeAll_0 : decode cX2_takeAll 0 = .ok (.iload_n 1, 1) := by decide +kernel
theorem dX2_takeAll_1 : decode cX2_takeAll 1 = .ok (.iconst 0, 1) := by decide +kernel
theorem dX2_takeAll_2 : decode cX2_takeAll 2 = .ok (.iconst 2, 1) := by decide +kernel
theorem dX2_takeAll_3 : decode cX2_takeAll 3 = .ok (.invokestatic 26, 3) := by decide +kernel
theorem dX2_takeAll_6 : decode cX2_takeAll 6 = .ok (.ifCond .ne 10, 3) := by decide +kernel
theorem dX2_takeAll_9 : decode cX2_takeAll 9 = .ok (.aload_n 2, 1) := by decide +kernel
theorem dX2_takeAll_10 : decode cX2_takeAll 10 = .ok (.iconst 1, 1) := by decide +kernel
theorem dX2_takeAll_11 : decode cX2_takeAll 11 = .ok (.iconst 0, 1) := by decide +kernel
theorem dX2_takeAll_12 : decode cX2_takeAll 12 = .ok (.invokevirtual 30, 3) := by decide +kernel
theorem dX2_takeAll_15 : decode cX2_takeAll 15 = .ok (.ireturn, 1) := by decide +kernel
theorem dX2_takeAll_16 : decode cX2_takeAll 16 = .ok (.aload_n 0, 1) := by decide +kernel
theorem dX2_takeAll_17 : decode cX2_takeAll 17 = .ok (.getfield 9, 3) := by decide +kernel
theorem dX2_takeAll_20 : decode cX2_takeAll 20 = .ok (.iload_n 1, 1) := by decide +kernel
theorem dX2_takeAll_21 : decode cX2_takeAll 21 = .ok (.iaload, 1) := by decide +kernel
theorem dX2_takeAll_22 : decode cX2_takeAll 22 = .ok (.iconst (-1), 1) := by decide +kernel
theorem dX2_takeAll_23 : decode cX2_takeAll 23 = .ok (.if_icmp .ne 11, 3) := by decide +kernel
theorem dX2_takeAll_26 : decode cX2_takeAll 26 = .ok (.aload_n 2, 1) := by decide +kernel
theorem dX2_takeAll_27 : decode cX2_takeAll 27 = .ok (.bipush 8, 2) := by decide +kernel
theorem dX2_takeAll_29 : decode cX2_takeAll 29 = .ok (.iconst 0, 1) := by decide +kernel
theorem dX2_takeAll_30 : decode cX2_takeAll 30 = .ok (.invokevirtual 30, 3) := by decide +kernel
theorem dX2_takeAll_33 : decode cX2_takeAll 33 = .ok (.ireturn, 1) := by decide +kernel
theorem dX2_takeAll_34 : decode cX2_takeAll 34 = .ok (.aload_n 0, 1) := by decide +kernel
theorem dX2_takeAll_35 : decode cX2_takeAll 35 = .ok (.getfield 15, 3) := by decide +kernel
theorem dX2_takeAll_38 : decode cX2_takeAll 38 = .ok (.iload_n 1, 1) := by decide +kernel
theorem dX2_takeAll_39 : decode cX2_takeAll 39 = .ok (.iaload, 1) := by decide +kernel
theorem dX2_takeAll_40 : decode cX2_takeAll 40 = .ok (.istore_n 3, 1) := by decide +kernel
theorem dX2_takeAll_41 : decode cX2_takeAll 41 = .ok (.aload_n 0, 1) := by decide +kernel
theorem dX2_takeAll_42 : decode cX2_takeAll 42 = .ok (.iload_n 1, 1) := by decide +kernel
theorem dX2_takeAll_43 : decode cX2_takeAll 43 = .ok (.iload_n 3, 1) := by decide +kernel
theorem dX2_takeAll_44 : decode cX2_takeAll 44 = .ok (.invokevirtual 36, 3) := by decide +kernel
theorem dX2_takeAll_47 : decode cX2_takeAll 47 = .ok (.iload_n 3, 1) := by decide +kernel
theorem dX2_takeAll_48 : decode cX2_takeAll 48 = .ok (.ireturn, 1) := by decide +kernel
theorem dX2_take_0 : decode cX2_take 0 = .ok (.aload_n 0, 1) := by decide +kernel
theorem dX2_take_1 : decode cX2_take 1 = .ok (.getfield 15, 3) := by decide +kernel
theorem dX2_take_4 : decode cX2_take 4 = .ok (.iload_n 1, 1) := by decide +kernel
theorem dX2_take_5 : decode cX2_take 5 = .ok (.dup2, 1) := by decide +kernel
theorem dX2_take_6 : decode cX2_take 6 = .ok (.iaload, 1) := by decide +kernel
theorem dX2_take_7 : decode cX2_take 7 = .ok (.iload_n 2, 1) := by decide +kernel
theorem dX2_take_8 : decode cX2_take 8 = .ok (.isub, 1) := by decide +kernel
theorem dX2_take_9 : decode cX2_take 9 = .ok (.iastore, 1) := by decide +kernel
theorem dX2_take_10 : decode cX2_take 10 = .ok (.aload_n 0, 1) := by decide +kernel
theorem dX2_take_11 : decode cX2_take 11 = .ok (.getfield 15, 3) := by decide +kernel
theorem dX2_take_14 : decode cX2_take 14 = .ok (.iload_n 1, 1) := by decide +kernel
theorem dX2_take_15 : decode cX2_take 15 = .ok (.iaload, 1) := by decide +kernel
theorem dX2_take_16 : decode cX2_take 16 = .ok (.ifCond .ne 17, 3) := by decide +kernel
theorem dX2_take_19 : decode cX2_take 19 = .ok (.aload_n 0, 1) := by decide +kernel
theorem dX2_take_20 : decode cX2_take 20 = .ok (.getfield 9, 3) := by decide +kernel
theorem dX2_take_23 : decode cX2_take 23 = .ok (.iload_n 1, 1) := by decide +kernel
theorem dX2_take_24 : decode cX2_take 24 = .ok (.iconst (-1), 1) := by decide +kernel
theorem dX2_take_25 : decode cX2_take 25 = .ok (.iastore, 1) := by decide +kernel
theorem dX2_take_26 : decode cX2_take 26 = .ok (.aload_n 0, 1) := by decide +kernel
theorem dX2_take_27 : decode cX2_take 27 = .ok (.getfield 18, 3) := by decide +kernel
theorem dX2_take_30 : decode cX2_take 30 = .ok (.iload_n 1, 1) := by decide +kernel
theorem dX2_take_31 : decode cX2_take 31 = .ok (.iconst 0, 1) := by decide +kernel
theorem dX2_take_32 : decode cX2_take 32 = .ok (.iastore, 1) := by decide +kernel
theorem dX2_take_33 : decode cX2_take 33 = .ok (.return_, 1) := by decide +kernel
theorem dX2_dry_0 : decode cX2_dry 0 = .ok (.iconst 0, 1) := by decide +kernel
theorem dX2_dry_1 : decode cX2_dry 1 = .ok (.istore_n 2, 1) := by decide +kernel
theorem dX2_dry_2 : decode cX2_dry 2 = .ok (.iload_n 2, 1) := by decide +kernel
theorem dX2_dry_3 : decode cX2_dry 3 = .ok (.iconst 3, 1) := by decide +kernel
theorem dX2_dry_4 : decode cX2_dry 4 = .ok (.if_icmp .ge 33, 3) := by decide +kernel
theorem dX2_dry_7 : decode cX2_dry 7 = .ok (.aload_n 0, 1) := by decide +kernel
theorem dX2_dry_8 : decode cX2_dry 8 = .ok (.getfield 18, 3) := by decide +kernel
theorem dX2_dry_11 : decode cX2_dry 11 = .ok (.iload_n 2, 1) := by decide +kernel
theorem dX2_dry_12 : decode cX2_dry 12 = .ok (.dup2, 1) := by decide +kernel
theorem dX2_dry_13 : decode cX2_dry 13 = .ok (.iaload, 1) := by decide +kernel
theorem dX2_dry_14 : decode cX2_dry 14 = .ok (.aload_n 0, 1) := by decide +kernel
theorem dX2_dry_15 : decode cX2_dry 15 = .ok (.getfield 9, 3) := by decide +kernel
theorem dX2_dry_18 : decode cX2_dry 18 = .ok (.iload_n 2, 1) := by decide +kernel
theorem dX2_dry_19 : decode cX2_dry 19 = .ok (.iaload, 1) := by decide +kernel
theorem dX2_dry_20 : decode cX2_dry 20 = .ok (.iconst (-1), 1) := by decide +kernel
theorem dX2_dry_21 : decode cX2_dry 21 = .ok (.if_icmp .ne 7, 3) := by decide +kernel
theorem dX2_dry_24 : decode cX2_dry 24 = .ok (.iconst 0, 1) := by decide +kernel
theorem dX2_dry_25 : decode cX2_dry 25 = .ok (.goto 4, 3) := by decide +kernel
theorem dX2_dry_28 : decode cX2_dry 28 = .ok (.iload_n 1, 1) := by decide +kernel
theorem dX2_dry_29 : decode cX2_dry 29 = .ok (.iadd, 1) := by decide +kernel
theorem dX2_dry_30 : decode cX2_dry 30 = .ok (.iastore, 1) := by decide +kernel
theorem dX2_dry_31 : decode cX2_dry 31 = .ok (.iinc 2 1, 3) := by decide +kernel
theorem dX2_dry_34 : decode cX2_dry 34 = .ok (.goto (-32), 3) := by decide +kernel
theorem dX2_dry_37 : decode cX2_dry 37 = .ok (.return_, 1) := by decide +kernel
theorem dX2_lackingMinutes_0 : decode cX2_lackingMinutes 0 = .ok (.aload_n 0, 1) := by decide +kernel
theorem dX2_lackingMinutes_1 : decode cX2_lackingMinutes 1 = .ok (.getfield 9, 3) := by decide +kernel
theorem dX2_lackingMinutes_4 : decode cX2_lackingMinutes 4 = .ok (.iload_n 1, 1) := by decide +kernel
theorem dX2_lackingMinutes_5 : decode cX2_lackingMinutes 5 = .ok (.iaload, 1) := by decide +kernel
theorem dX2_lackingMinutes_6 : decode cX2_lackingMinutes 6 = .ok (.iconst (-1), 1) := by decide +kernel
theorem dX2_lackingMinutes_7 : decode cX2_lackingMinutes 7 = .ok (.if_icmp .ne 7, 3) := by decide +kernel
theorem dX2_lackingMinutes_10 : decode cX2_lackingMinutes 10 = .ok (.iconst 0, 1) := by decide +kernel
theorem dX2_lackingMinutes_11 : decode cX2_lackingMinutes 11 = .ok (.goto 15, 3) := by decide +kernel
theorem dX2_lackingMinutes_14 : decode cX2_lackingMinutes 14 = .ok (.iconst 0, 1) := by decide +kernel
theorem dX2_lackingMinutes_15 : decode cX2_lackingMinutes 15 = .ok (.iload_n 2, 1) := by decide +kernel
theorem dX2_lackingMinutes_16 : decode cX2_lackingMinutes 16 = .ok (.aload_n 0, 1) := by decide +kernel
theorem dX2_lackingMinutes_17 : decode cX2_lackingMinutes 17 = .ok (.getfield 18, 3) := by decide +kernel
theorem dX2_lackingMinutes_20 : decode cX2_lackingMinutes 20 = .ok (.iload_n 1, 1) := by decide +kernel
theorem dX2_lackingMinutes_21 : decode cX2_lackingMinutes 21 = .ok (.iaload, 1) := by decide +kernel
theorem dX2_lackingMinutes_22 : decode cX2_lackingMinutes 22 = .ok (.isub, 1) := by decide +kernel
theorem dX2_lackingMinutes_23 : decode cX2_lackingMinutes 23 = .ok (.invokestatic 40, 3) := by decide +kernel
theorem dX2_lackingMinutes_26 : decode cX2_lackingMinutes 26 = .ok (.ireturn, 1) := by decide +kernel
theorem dX2_lowestWith_0 : decode cX2_lowestWith 0 = .ok (.iconst 0, 1) := by decide +kernel
theorem dX2_lowestWith_1 : decode cX2_lowestWith 1 = .ok (.istore_n 2, 1) := by decide +kernel
theorem dX2_lowestWith_2 : decode cX2_lowestWith 2 = .ok (.iload_n 2, 1) := by decide +kernel
theorem dX2_lowestWith_3 : decode cX2_lowestWith 3 = .ok (.iconst 3, 1) := by decide +kernel
theorem dX2_lowestWith_4 : decode cX2_lowestWith 4 = .ok (.if_icmp .ge 21, 3) := by decide +kernel
theorem dX2_lowestWith_7 : decode cX2_lowestWith 7 = .ok (.aload_n 0, 1) := by decide +kernel
theorem dX2_lowestWith_8 : decode cX2_lowestWith 8 = .ok (.getfield 9, 3) := by decide +kernel
theorem dX2_lowestWith_11 : decode cX2_lowestWith 11 = .ok (.iload_n 2, 1) := by decide +kernel
theorem dX2_lowestWith_12 : decode cX2_lowestWith 12 = .ok (.iaload, 1) := by decide +kernel
theorem dX2_lowestWith_13 : decode cX2_lowestWith 13 = .ok (.iload_n 1, 1) := by decide +kernel
theorem dX2_lowestWith_14 : decode cX2_lowestWith 14 = .ok (.if_icmp .ne 5, 3) := by decide +kernel
theorem dX2_lowestWith_17 : decode cX2_lowestWith 17 = .ok (.iload_n 2, 1) := by decide +kernel
theorem dX2_lowestWith_18 : decode cX2_lowestWith 18 = .ok (.ireturn, 1) := by decide +kernel
theorem dX2_lowestWith_19 : decode cX2_lowestWith 19 = .ok (.iinc 2 1, 3) := by decide +kernel
theorem dX2_lowestWith_22 : decode cX2_lowestWith 22 = .ok (.goto (-20), 3) := by decide +kernel
theorem dX2_lowestWith_25 : decode cX2_lowestWith 25 = .ok (.iconst (-1), 1) := by decide +kernel
theorem dX2_lowestWith_26 : decode cX2_lowestWith 26 = .ok (.ireturn, 1) := by decide +kernel
theorem dX2_lowestUsable_0 : decode cX2_lowestUsable 0 = .ok (.iconst 0, 1) := by decide +kernel
theorem dX2_lowestUsable_1 : decode cX2_lowestUsable 1 = .ok (.istore 4, 2) := by decide +kernel
theorem dX2_lowestUsable_3 : decode cX2_lowestUsable 3 = .ok (.iload 4, 2) := by decide +kernel
theorem dX2_lowestUsable_5 : decode cX2_lowestUsable 5 = .ok (.iconst 3, 1) := by decide +kernel
theorem dX2_lowestUsable_6 : decode cX2_lowestUsable 6 = .ok (.if_icmp .ge 45, 3) := by decide +kernel
theorem dX2_lowestUsable_9 : decode cX2_lowestUsable 9 = .ok (.aload_n 0, 1) := by decide +kernel
theorem dX2_lowestUsable_10 : decode cX2_lowestUsable 10 = .ok (.getfield 9, 3) := by decide +kernel
theorem dX2_lowestUsable_13 : decode cX2_lowestUsable 13 = .ok (.iload 4, 2) := by decide +kernel
theorem dX2_lowestUsable_15 : decode cX2_lowestUsable 15 = .ok (.iaload, 1) := by decide +kernel
theorem dX2_lowestUsable_16 : decode cX2_lowestUsable 16 = .ok (.iload_n 1, 1) := by decide +kernel
theorem dX2_lowestUsable_17 : decode cX2_lowestUsable 17 = .ok (.if_icmp .ne 28, 3) := by decide +kernel
theorem dX2_lowestUsable_20 : decode cX2_lowestUsable 20 = .ok (.aload_n 0, 1) := by decide +kernel
theorem dX2_lowestUsable_21 : decode cX2_lowestUsable 21 = .ok (.getfield 18, 3) := by decide +kernel
theorem dX2_lowestUsable_24 : decode cX2_lowestUsable 24 = .ok (.iload 4, 2) := by decide +kernel
theorem dX2_lowestUsable_26 : decode cX2_lowestUsable 26 = .ok (.iaload, 1) := by decide +kernel
theorem dX2_lowestUsable_27 : decode cX2_lowestUsable 27 = .ok (.iload_n 3, 1) := by decide +kernel
theorem dX2_lowestUsable_28 : decode cX2_lowestUsable 28 = .ok (.if_icmp .lt 17, 3) := by decide +kernel
theorem dX2_lowestUsable_31 : decode cX2_lowestUsable 31 = .ok (.aload_n 0, 1) := by decide +kernel
theorem dX2_lowestUsable_32 : decode cX2_lowestUsable 32 = .ok (.getfield 15, 3) := by decide +kernel
theorem dX2_lowestUsable_35 : decode cX2_lowestUsable 35 = .ok (.iload 4, 2) := by decide +kernel
theorem dX2_lowestUsable_37 : decode cX2_lowestUsable 37 = .ok (.iaload, 1) := by decide +kernel
theorem dX2_lowestUsable_38 : decode cX2_lowestUsable 38 = .ok (.iload_n 2, 1) := by decide +kernel
theorem dX2_lowestUsable_39 : decode cX2_lowestUsable 39 = .ok (.if_icmp .lt 6, 3) := by decide +kernel
theorem dX2_lowestUsable_42 : decode cX2_lowestUsable 42 = .ok (.iload 4, 2) := by decide +kernel
theorem dX2_lowestUsable_44 : decode cX2_lowestUsable 44 = .ok (.ireturn, 1) := by decide +kernel
theorem dX2_lowestUsable_45 : decode cX2_lowestUsable 45 = .ok (.iinc 4 1, 3) := by decide +kernel
theorem dX2_lowestUsable_48 : decode cX2_lowestUsable 48 = .ok (.goto (-45), 3) := by decide +kernel
theorem dX2_lowestUsable_51 : decode cX2_lowestUsable 51 = .ok (.iconst (-1), 1) := by decide +kernel
theorem dX2_lowestUsable_52 : decode cX2_lowestUsable 52 = .ok (.ireturn, 1) := by decide +kernel
theorem dX2_allGrams_0 : decode cX2_allGrams 0 = .ok (.iconst 0, 1) := by decide +kernel
theorem dX2_allGrams_1 : decode cX2_allGrams 1 = .ok (.istore_n 1, 1) := by decide +kernel
theorem dX2_allGrams_2 : decode cX2_allGrams 2 = .ok (.iconst 0, 1) := by decide +kernel
theorem dX2_allGrams_3 : decode cX2_allGrams 3 = .ok (.istore_n 2, 1) := by decide +kernel
theorem dX2_allGrams_4 : decode cX2_allGrams 4 = .ok (.iload_n 2, 1) := by decide +kernel
theorem dX2_allGrams_5 : decode cX2_allGrams 5 = .ok (.iconst 3, 1) := by decide +kernel
theorem dX2_allGrams_6 : decode cX2_allGrams 6 = .ok (.if_icmp .ge 18, 3) := by decide +kernel
theorem dX2_allGrams_9 : decode cX2_allGrams 9 = .ok (.iload_n 1, 1) := by decide +kernel
theorem dX2_allGrams_10 : decode cX2_allGrams 10 = .ok (.aload_n 0, 1) := by decide +kernel
theorem dX2_allGrams_11 : decode cX2_allGrams 11 = .ok (.getfield 15, 3) := by decide +kernel
theorem dX2_allGrams_14 : decode cX2_allGrams 14 = .ok (.iload_n 2, 1) := by decide +kernel
theorem dX2_allGrams_15 : decode cX2_allGrams 15 = .ok (.iaload, 1) := by decide +kernel
theorem dX2_allGrams_16 : decode cX2_allGrams 16 = .ok (.iadd, 1) := by decide +kernel
theorem dX2_allGrams_17 : decode cX2_allGrams 17 = .ok (.istore_n 1, 1) := by decide +kernel
theorem dX2_allGrams_18 : decode cX2_allGrams 18 = .ok (.iinc 2 1, 3) := by decide +kernel
theorem dX2_allGrams_21 : decode cX2_allGrams 21 = .ok (.goto (-17), 3) := by decide +kernel
theorem dX2_allGrams_24 : decode cX2_allGrams 24 = .ok (.iload_n 1, 1) := by decide +kernel
theorem dX2_allGrams_25 : decode cX2_allGrams 25 = .ok (.ireturn, 1) := by decide +kernel
theorem dX3_init_0 : decode cX3_init 0 = .ok (.aload_n 0, 1) := by decide +kernel
theorem dX3_init_1 : decode cX3_init 1 = .ok (.invokespecial 3, 3) := by decide +kernel
theorem dX3_init_4 : decode cX3_init 4 = .ok (.aload_n 0, 1) := by decide +kernel
theorem dX3_init_5 : decode cX3_init 5 = .ok (.iconst 3, 1) := by decide +kernel
theorem dX3_init_6 : decode cX3_init 6 = .ok (.newarray .int, 2) := by decide +kernel
theorem dX3_init_8 : decode cX3_init 8 = .ok (.putfield 9, 3) := by decide +kernel
theorem dX3_init_11 : decode cX3_init 11 = .ok (.aload_n 0, 1) := by decide +kernel
theorem dX3_init_12 : decode cX3_init 12 = .ok (.iconst 3, 1) := by decide +kernel
theorem dX3_init_13 : decode cX3_init 13 = .ok (.newarray .int, 2) := by decide +kernel
theorem dX3_init_15 : decode cX3_init 15 = .ok (.putfield 15, 3) := by decide +kernel
theorem dX3_init_18 : decode cX3_init 18 = .ok (.return_, 1) := by decide +kernel
theorem dX3_isReadFrom_0 : decode cX3_isReadFrom 0 = .ok (.aload_n 1, 1) := by decide +kernel
theorem dX3_isReadFrom_1 : decode cX3_isReadFrom 1 = .ok (.invokevirtual 18, 3) := by decide +kernel
theorem dX3_isReadFrom_4 : decode cX3_isReadFrom 4 = .ok (.aload_n 1, 1) := by decide +kernel
theorem dX3_isReadFrom_5 : decode cX3_isReadFrom 5 = .ok (.aload_n 0, 1) := by decide +kernel
theorem dX3_isReadFrom_6 : decode cX3_isReadFrom 6 = .ok (.aload_n 1, 1) := by decide +kernel
theorem dX3_isReadFrom_7 : decode cX3_isReadFrom 7 = .ok (.invokevirtual 23, 3) := by decide +kernel
theorem dX3_isReadFrom_10 : decode cX3_isReadFrom 10 = .ok (.ifCond .eq 23, 3) := by decide +kernel
theorem dX3_isReadFrom_13 : decode cX3_isReadFrom 13 = .ok (.aload_n 0, 1) := by decide +kernel
theorem dX3_isReadFrom_14 : decode cX3_isReadFrom 14 = .ok (.aload_n 1, 1) := by decide +kernel
theorem dX3_isReadFrom_15 : decode cX3_isReadFrom 15 = .ok (.invokevirtual 27, 3) := by decide +kernel
theorem dX3_isReadFrom_18 : decode cX3_isReadFrom 18 = .ok (.ifCond .eq 15, 3) := by decide +kernel
theorem dX3_isReadFrom_21 : decode cX3_isReadFrom 21 = .ok (.aload_n 0, 1) := by decide +kernel
theorem dX3_isReadFrom_22 : decode cX3_isReadFrom 22 = .ok (.aload_n 1, 1) := by decide +kernel
theorem dX3_isReadFrom_23 : decode cX3_isReadFrom 23 = .ok (.invokevirtual 30, 3) := by decide +kernel
theorem dX3_isReadFrom_26 : decode cX3_isReadFrom 26 = .ok (.ifCond .eq 7, 3) := by decide +kernel
theorem dX3_isReadFrom_29 : decode cX3_isReadFrom 29 = .ok (.iconst 1, 1) := by decide +kernel
theorem dX3_isReadFrom_30 : decode cX3_isReadFrom 30 = .ok (.goto 4, 3) := by decide +kernel
theorem dX3_isReadFrom_33 : decode cX3_isReadFrom 33 = .ok (.iconst 0, 1) := by decide +kernel
theorem dX3_isReadFrom_34 : decode cX3_isReadFrom 34 = .ok (.invokevirtual 33, 3) := by decide +kernel
theorem dX3_isReadFrom_37 : decode cX3_isReadFrom 37 = .ok (.ireturn, 1) := by decide +kernel
theorem dX3_isHeadRead_0 : decode cX3_isHeadRead 0 = .ok (.aload_n 0, 1) := by decide +kernel
theorem dX3_isHeadRead_1 : decode cX3_isHeadRead 1 = .ok (.iconst 0, 1) := by decide +kernel
theorem dX3_isHeadRead_2 : decode cX3_isHeadRead 2 = .ok (.putfield 37, 3) := by decide +kernel
theorem dX3_isHeadRead_5 : decode cX3_isHeadRead 5 = .ok (.aload_n 0, 1) := by decide +kernel
theorem dX3_isHeadRead_6 : decode cX3_isHeadRead 6 = .ok (.aload_n 1, 1) := by decide +kernel
theorem dX3_isHeadRead_7 : decode cX3_isHeadRead 7 = .ok (.iconst 2, 1) := by decide +kernel
theorem dX3_isHeadRead_8 : decode cX3_isHeadRead 8 = .ok (.invokevirtual 41, 3) := by decide +kernel
theorem dX3_isHeadRead_11 : decode cX3_isHeadRead 11 = .ok (.putfield 45, 3) := by decide +kernel
theorem dX3_isHeadRead_14 : decode cX3_isHeadRead 14 = .ok (.aload_n 0, 1) := by decide +kernel
theorem dX3_isHeadRead_15 : decode cX3_isHeadRead 15 = .ok (.getfield 45, 3) := by decide +kernel
theorem dX3_isHeadRead_18 : decode cX3_isHeadRead 18 = .ok (.iconst (-1), 1) := by decide +kernel
theorem dX3_isHeadRead_19 : decode cX3_isHeadRead 19 = .ok (.if_icmp .eq 12, 3) := by decide +kernel
theorem dX3_isHeadRead_22 : decode cX3_isHeadRead 22 = .ok (.aload_n 1, 1) := by decide +kernel
theorem dX3_isHeadRead_23 : decode cX3_isHeadRead 23 = .ok (.bipush 32, 2) := by decide +kernel
theorem dX3_isHeadRead_25 : decode cX3_isHeadRead 25 = .ok (.invokevirtual 48, 3) := by decide +kernel
theorem dX3_isHeadRead_28 : decode cX3_isHeadRead 28 = .ok (.ifCond .ne 5, 3) := by decide +kernel
theorem dX3_isHeadRead_31 : decode cX3_isHeadRead 31 = .ok (.iconst 0, 1) := by decide +kernel
theorem dX3_isHeadRead_32 : decode cX3_isHeadRead 32 = .ok (.ireturn, 1) := by decide +kernel
theorem dX3_isHeadRead_33 : decode cX3_isHeadRead 33 = .ok (.aload_n 0, 1) := by decide +kernel
theorem dX3_isHeadRead_34 : decode cX3_isHeadRead 34 = .ok (.aload_n 1, 1) := by decide +kernel
theorem dX3_isHeadRead_35 : decode cX3_isHeadRead 35 = .ok (.iconst 3, 1) := by decide +kernel
theorem dX3_isHeadRead_36 : decode cX3_isHeadRead 36 = .ok (.invokevirtual 41, 3) := by decide +kernel
theorem dX3_isHeadRead_39 : decode cX3_isHeadRead 39 = .ok (.putfield 52, 3) := by decide +kernel
theorem dX3_isHeadRead_42 : decode cX3_isHeadRead 42 = .ok (.aload_n 0, 1) := by decide +kernel
theorem dX3_isHeadRead_43 : decode cX3_isHeadRead 43 = .ok (.getfield 52, 3) := by decide +kernel
theorem dX3_isHeadRead_46 : decode cX3_isHeadRead 46 = .ok (.iconst (-1), 1) := by decide +kernel
theorem dX3_isHeadRead_47 : decode cX3_isHeadRead 47 = .ok (.if_icmp .eq 7, 3) := by decide +kernel
theorem dX3_isHeadRead_50 : decode cX3_isHeadRead 50 = .ok (.iconst 1, 1) := by decide +kernel
theorem dX3_isHeadRead_51 : decode cX3_isHeadRead 51 = .ok (.goto 4, 3) := by decide +kernel
theorem dX3_isHeadRead_54 : decode cX3_isHeadRead 54 = .ok (.iconst 0, 1) := by decide +kernel
theorem dX3_isHeadRead_55 : decode cX3_isHeadRead 55 = .ok (.ireturn, 1) := by decide +kernel
theorem dX3_isPartRead_0 : decode cX3_isPartRead 0 = .ok (.aload_n 0, 1) := by decide +kernel
theorem dX3_isPartRead_1 : decode cX3_isPartRead 1 = .ok (.getfield 37, 3) := by decide +kernel
theorem dX3_isPartRead_4 : decode cX3_isPartRead 4 = .ok (.iconst 3, 1) := by decide +kernel
theorem dX3_isPartRead_5 : decode cX3_isPartRead 5 = .ok (.if_icmp .ge 12, 3) := by decide +kernel
theorem dX3_isPartRead_8 : decode cX3_isPartRead 8 = .ok (.aload_n 1, 1) := by decide +kernel
theorem dX3_isPartRead_9 : decode cX3_isPartRead 9 = .ok (.bipush 32, 2) := by decide +kernel
theorem dX3_isPartRead_11 : decode cX3_isPartRead 11 = .ok (.invokevirtual 48, 3) := by decide +kernel
theorem dX3_isPartRead_14 : decode cX3_isPartRead 14 = .ok (.ifCond .ne 5, 3) := by decide +kernel
theorem dX3_isPartRead_17 : decode cX3_isPartRead 17 = .ok (.iconst 0, 1) := by decide +kernel
theorem dX3_isPartRead_18 : decode cX3_isPartRead 18 = .ok (.ireturn, 1) := by decide +kernel
theorem dX3_isPartRead_19 : decode cX3_isPartRead 19 = .ok (.aload_n 0, 1) := by decide +kernel
theorem dX3_isPartRead_20 : decode cX3_isPartRead 20 = .ok (.getfield 9, 3) := by decide +kernel
theorem dX3_isPartRead_23 : decode cX3_isPartRead 23 = .ok (.aload_n 0, 1) := by decide +kernel
theorem dX3_isPartRead_24 : decode cX3_isPartRead 24 = .ok (.getfield 37, 3) := by decide +kernel
theorem dX3_isPartRead_27 : decode cX3_isPartRead 27 = .ok (.aload_n 1, 1) := by decide +kernel
theorem dX3_isPartRead_28 : decode cX3_isPartRead 28 = .ok (.iconst 1, 1) := by decide +kernel
theorem dX3_isPartRead_29 : decode cX3_isPartRead 29 = .ok (.invokevirtual 41, 3) := by decide +kernel
theorem dX3_isPartRead_32 : decode cX3_isPartRead 32 = .ok (.iastore, 1) := by decide +kernel
theorem dX3_isPartRead_33 : decode cX3_isPartRead 33 = .ok (.aload_n 0, 1) := by decide +kernel
theorem dX3_isPartRead_34 : decode cX3_isPartRead 34 = .ok (.getfield 9, 3) := by decide +kernel
theorem dX3_isPartRead_37 : decode cX3_isPartRead 37 = .ok (.aload_n 0, 1) := by decide +kernel
theorem dX3_isPartRead_38 : decode cX3_isPartRead 38 = .ok (.getfield 37, 3) := by decide +kernel
theorem dX3_isPartRead_41 : decode cX3_isPartRead 41 = .ok (.iaload, 1) := by decide +kernel
theorem dX3_isPartRead_42 : decode cX3_isPartRead 42 = .ok (.iconst (-1), 1) := by decide +kernel
theorem dX3_isPartRead_43 : decode cX3_isPartRead 43 = .ok (.if_icmp .eq 12, 3) := by decide +kernel
theorem dX3_isPartRead_46 : decode cX3_isPartRead 46 = .ok (.aload_n 1, 1) := by decide +kernel
theorem dX3_isPartRead_47 : decode cX3_isPartRead 47 = .ok (.bipush 120, 2) := by decide +kernel
theorem dX3_isPartRead_49 : decode cX3_isPartRead 49 = .ok (.invokevirtual 48, 3) := by decide +kernel
theorem dX3_isPartRead_52 : decode cX3_isPartRead 52 = .ok (.ifCond .ne 5, 3) := by decide +kernel
theorem dX3_isPartRead_55 : decode cX3_isPartRead 55 = .ok (.iconst 0, 1) := by decide +kernel
theorem dX3_isPartRead_56 : decode cX3_isPartRead 56 = .ok (.ireturn, 1) := by decide +kernel
theorem dX3_isPartRead_57 : decode cX3_isPartRead 57 = .ok (.aload_n 0, 1) := by decide +kernel
theorem dX3_isPartRead_58 : decode cX3_isPartRead 58 = .ok (.getfield 15, 3) := by decide +kernel
theorem dX3_isPartRead_61 : decode cX3_isPartRead 61 = .ok (.aload_n 0, 1) := by decide +kernel
theorem dX3_isPartRead_62 : decode cX3_isPartRead 62 = .ok (.getfield 37, 3) := by decide +kernel
theorem dX3_isPartRead_65 : decode cX3_isPartRead 65 = .ok (.aload_n 1, 1) := by decide +kernel
theorem dX3_isPartRead_66 : decode cX3_isPartRead 66 = .ok (.iconst 1, 1) := by decide +kernel
theorem dX3_isPartRead_67 : decode cX3_isPartRead 67 = .ok (.invokevirtual 41, 3) := by decide +kernel
theorem dX3_isPartRead_70 : decode cX3_isPartRead 70 = .ok (.iastore, 1) := by decide +kernel
theorem dX3_isPartRead_71 : decode cX3_isPartRead 71 = .ok (.aload_n 0, 1) := by decide +kernel
theorem dX3_isPartRead_72 : decode cX3_isPartRead 72 = .ok (.dup, 1) := by decide +kernel
theorem dX3_isPartRead_73 : decode cX3_isPartRead 73 = .ok (.getfield 37, 3) := by decide +kernel
theorem dX3_isPartRead_76 : decode cX3_isPartRead 76 = .ok (.iconst 1, 1) := by decide +kernel
theorem dX3_isPartRead_77 : decode cX3_isPartRead 77 = .ok (.iadd, 1) := by decide +kernel
theorem dX3_isPartRead_78 : decode cX3_isPartRead 78 = .ok (.putfield 37, 3) := by decide +kernel
theorem dX3_isPartRead_81 : decode cX3_isPartRead 81 = .ok (.aload_n 0, 1) := by decide +kernel
theorem dX3_isPartRead_82 : decode cX3_isPartRead 82 = .ok (.getfield 15, 3) := by decide +kernel
theorem dX3_isPartRead_85 : decode cX3_isPartRead 85 = .ok (.aload_n 0, 1) := by decide +kernel
theorem dX3_isPartRead_86 : decode cX3_isPartRead 86 = .ok (.getfield 37, 3) := by decide +kernel
theorem dX3_isPartRead_89 : decode cX3_isPartRead 89 = .ok (.iconst 1, 1) := by decide +kernel
theorem dX3_isPartRead_90 : decode cX3_isPartRead 90 = .ok (.isub, 1) := by decide +kernel
theorem dX3_isPartRead_91 : decode cX3_isPartRead 91 = .ok (.iaload, 1) := by decide +kernel
theorem dX3_isPartRead_92 : decode cX3_isPartRead 92 = .ok (.iconst (-1), 1) := by decide +kernel
theorem dX3_isPartRead_93 : decode cX3_isPartRead 93 = .ok (.if_icmp .eq 7, 3) := by decide +kernel
theorem dX3_isPartRead_96 : decode cX3_isPartRead 96 = .ok (.iconst 1, 1) := by decide +kernel
theorem dX3_isPartRead_97 : decode cX3_isPartRead 97 = .ok (.goto 4, 3) := by decide +kernel
theorem dX3_isPartRead_100 : decode cX3_isPartRead 100 = .ok (.iconst 0, 1) := by decide +kernel
theorem dX3_isPartRead_101 : decode cX3_isPartRead 101 = .ok (.ireturn, 1) := by decide +kernel
theorem dX3_isTailRead_0 : decode cX3_isTailRead 0 = .ok (.iconst 1, 1) := by decide +kernel
theorem dX3_isTailRead_1 : decode cX3_isTailRead 1 = .ok (.istore_n 2, 1) := by decide +kernel
theorem dX3_isTailRead_2 : decode cX3_isTailRead 2 = .ok (.iload_n 2, 1) := by decide +kernel
theorem dX3_isTailRead_3 : decode cX3_isTailRead 3 = .ok (.iconst 3, 1) := by decide +kernel
theorem dX3_isTailRead_4 : decode cX3_isTailRead 4 = .ok (.if_icmp .ge 26, 3) := by decide +kernel
theorem dX3_isTailRead_7 : decode cX3_isTailRead 7 = .ok (.aload_n 1, 1) := by decide +kernel
theorem dX3_isTailRead_8 : decode cX3_isTailRead 8 = .ok (.invokevirtual 55, 3) := by decide +kernel
theorem dX3_isTailRead_11 : decode cX3_isTailRead 11 = .ok (.ifCond .ne 19, 3) := by decide +kernel
theorem dX3_isTailRead_14 : decode cX3_isTailRead 14 = .ok (.aload_n 0, 1) := by decide +kernel
theorem dX3_isTailRead_15 : decode cX3_isTailRead 15 = .ok (.aload_n 1, 1) := by decide +kernel
theorem dX3_isTailRead_16 : decode cX3_isTailRead 16 = .ok (.invokevirtual 27, 3) := by decide +kernel
theorem dX3_isTailRead_19 : decode cX3_isTailRead 19 = .ok (.ifCond .ne 5, 3) := by decide +kernel
theorem dX3_isTailRead_22 : decode cX3_isTailRead 22 = .ok (.iconst 0, 1) := by decide +kernel
theorem dX3_isTailRead_23 : decode cX3_isTailRead 23 = .ok (.ireturn, 1) := by decide +kernel
theorem dX3_isTailRead_24 : decode cX3_isTailRead 24 = .ok (.iinc 2 1, 3) := by decide +kernel
theorem dX3_isTailRead_27 : decode cX3_isTailRead 27 = .ok (.goto (-25), 3) := by decide +kernel
theorem dX3_isTailRead_30 : decode cX3_isTailRead 30 = .ok (.aload_n 1, 1) := by decide +kernel
theorem dX3_isTailRead_31 : decode cX3_isTailRead 31 = .ok (.invokevirtual 55, 3) := by decide +kernel
theorem dX3_isTailRead_34 : decode cX3_isTailRead 34 = .ok (.ireturn, 1) := by decide +kernel
theorem dX3_hasZero_0 : decode cX3_hasZero 0 = .ok (.iconst 0, 1) := by decide +kernel
theorem dX3_hasZero_1 : decode cX3_hasZero 1 = .ok (.istore_n 1, 1) := by decide +kernel
theorem dX3_hasZero_2 : decode cX3_hasZero 2 = .ok (.iload_n 1, 1) := by decide +kernel
theorem dX3_hasZero_3 : decode cX3_hasZero 3 = .ok (.aload_n 0, 1) := by decide +kernel
theorem dX3_hasZero_4 : decode cX3_hasZero 4 = .ok (.getfield 37, 3) := by decide +kernel
theorem dX3_hasZero_7 : decode cX3_hasZero 7 = .ok (.if_icmp .ge 20, 3) := by decide +kernel
theorem dX3_hasZero_10 : decode cX3_hasZero 10 = .ok (.aload_n 0, 1) := by decide +kernel
theorem dX3_hasZero_11 : decode cX3_hasZero 11 = .ok (.getfield 15, 3) := by decide +kernel
theorem dX3_hasZero_14 : decode cX3_hasZero 14 = .ok (.iload_n 1, 1) := by decide +kernel
theorem dX3_hasZero_15 : decode cX3_hasZero 15 = .ok (.iaload, 1) := by decide +kernel
theorem dX3_hasZero_16 : decode cX3_hasZero 16 = .ok (.ifCond .ne 5, 3) := by decide +kernel
theorem dX3_hasZero_19 : decode cX3_hasZero 19 = .ok (.iconst 1, 1) := by decide +kernel
theorem dX3_hasZero_20 : decode cX3_hasZero 20 = .ok (.ireturn, 1) := by decide +kernel
theorem dX3_hasZero_21 : decode cX3_hasZero 21 = .ok (.iinc 1 1, 3) := by decide +kernel
theorem dX3_hasZero_24 : decode cX3_hasZero 24 = .ok (.goto (-22), 3) := by decide +kernel
theorem dX3_hasZero_27 : decode cX3_hasZero 27 = .ok (.aload_n 0, 1) := by decide +kernel
theorem dX3_hasZero_28 : decode cX3_hasZero 28 = .ok (.getfield 45, 3) := by decide +kernel
theorem dX3_hasZero_31 : decode cX3_hasZero 31 = .ok (.ifCond .eq 10, 3) := by decide +kernel
theorem dX3_hasZero_34 : decode cX3_hasZero 34 = .ok (.aload_n 0, 1) := by decide +kernel
theorem dX3_hasZero_35 : decode cX3_hasZero 35 = .ok (.getfield 52, 3) := by decide +kernel
theorem dX3_hasZero_38 : decode cX3_hasZero 38 = .ok (.ifCond .ne 7, 3) := by decide +kernel
theorem dX3_hasZero_41 : decode cX3_hasZero 41 = .ok (.iconst 1, 1) := by decide +kernel
theorem dX3_hasZero_42 : decode cX3_hasZero 42 = .ok (.goto 4, 3) := by decide +kernel
theorem dX3_hasZero_45 : decode cX3_hasZero 45 = .ok (.iconst 0, 1) := by decide +kernel
theorem dX3_hasZero_46 : decode cX3_hasZero 46 = .ok (.ireturn, 1) := by decide +kernel
theorem dX3_highestPart_0 : decode cX3_highestPart 0 = .ok (.iconst 0, 1) := by decide +kernel
theorem dX3_highestPart_1 : decode cX3_highestPart 1 = .ok (.istore_n 1, 1) := by decide +kernel
theorem dX3_highestPart_2 : decode cX3_highestPart 2 = .ok (.iconst 0, 1) := by decide +kernel
theorem dX3_highestPart_3 : decode cX3_highestPart 3 = .ok (.istore_n 2, 1) := by decide +kernel
theorem dX3_highestPart_4 : decode cX3_highestPart 4 = .ok (.iload_n 2, 1) := by decide +kernel
theorem dX3_highestPart_5 : decode cX3_highestPart 5 = .ok (.aload_n 0, 1) := by decide +kernel
theorem dX3_highestPart_6 : decode cX3_highestPart 6 = .ok (.getfield 37, 3) := by decide +kernel
theorem dX3_highestPart_9 : decode cX3_highestPart 9 = .ok (.if_icmp .ge 20, 3) := by decide +kernel
theorem dX3_highestPart_12 : decode cX3_highestPart 12 = .ok (.iload_n 1, 1) := by decide +kernel
theorem dX3_highestPart_13 : decode cX3_highestPart 13 = .ok (.aload_n 0, 1) := by decide +kernel
theorem dX3_highestPart_14 : decode cX3_highestPart 14 = .ok (.getfield 9, 3) := by decide +kernel
theorem dX3_highestPart_17 : decode cX3_highestPart 17 = .ok (.iload_n 2, 1) := by decide +kernel
theorem dX3_highestPart_18 : decode cX3_highestPart 18 = .ok (.iaload, 1) := by decide +kernel
theorem dX3_highestPart_19 : decode cX3_highestPart 19 = .ok (.invokestatic 59, 3) := by decide +kernel
theorem dX3_highestPart_22 : decode cX3_highestPart 22 = .ok (.istore_n 1, 1) := by decide +kernel
theorem dX3_highestPart_23 : decode cX3_highestPart 23 = .ok (.iinc 2 1, 3) := by decide +kernel
theorem dX3_highestPart_26 : decode cX3_highestPart 26 = .ok (.goto (-22), 3) := by decide +kernel
theorem dX3_highestPart_29 : decode cX3_highestPart 29 = .ok (.iload_n 1, 1) := by decide +kernel
theorem dX3_highestPart_30 : decode cX3_highestPart 30 = .ok (.ireturn, 1) := by decide +kernel
theorem dX3_partTwice_0 : decode cX3_partTwice 0 = .ok (.iconst 0, 1) := by decide +kernel
theorem dX3_partTwice_1 : decode cX3_partTwice 1 = .ok (.istore_n 1, 1) := by decide +kernel
theorem dX3_partTwice_2 : decode cX3_partTwice 2 = .ok (.iload_n 1, 1) := by decide +kernel
theorem dX3_partTwice_3 : decode cX3_partTwice 3 = .ok (.aload_n 0, 1) := by decide +kernel
theorem dX3_partTwice_4 : decode cX3_partTwice 4 = .ok (.getfield 37, 3) := by decide +kernel
theorem dX3_partTwice_7 : decode cX3_partTwice 7 = .ok (.if_icmp .ge 44, 3) := by decide +kernel
theorem dX3_partTwice_10 : decode cX3_partTwice 10 = .ok (.iconst 0, 1) := by decide +kernel
theorem dX3_partTwice_11 : decode cX3_partTwice 11 = .ok (.istore_n 2, 1) := by decide +kernel
theorem dX3_partTwice_12 : decode cX3_partTwice 12 = .ok (.iload_n 2, 1) := by decide +kernel
theorem dX3_partTwice_13 : decode cX3_partTwice 13 = .ok (.iload_n 1, 1) := by decide +kernel
theorem dX3_partTwice_14 : decode cX3_partTwice 14 = .ok (.if_icmp .ge 31, 3) := by decide +kernel
theorem dX3_partTwice_17 : decode cX3_partTwice 17 = .ok (.aload_n 0, 1) := by decide +kernel
theorem dX3_partTwice_18 : decode cX3_partTwice 18 = .ok (.getfield 9, 3) := by decide +kernel
theorem dX3_partTwice_21 : decode cX3_partTwice 21 = .ok (.iload_n 2, 1) := by decide +kernel
theorem dX3_partTwice_22 : decode cX3_partTwice 22 = .ok (.iaload, 1) := by decide +kernel
theorem dX3_partTwice_23 : decode cX3_partTwice 23 = .ok (.aload_n 0, 1) := by decide +kernel
theorem dX3_partTwice_24 : decode cX3_partTwice 24 = .ok (.getfield 9, 3) := by decide +kernel
theorem dX3_partTwice_27 : decode cX3_partTwice 27 = .ok (.iload_n 1, 1) := by decide +kernel
theorem dX3_partTwice_28 : decode cX3_partTwice 28 = .ok (.iaload, 1) := by decide +kernel
theorem dX3_partTwice_29 : decode cX3_partTwice 29 = .ok (.if_icmp .ne 10, 3) := by decide +kernel
theorem dX3_partTwice_32 : decode cX3_partTwice 32 = .ok (.aload_n 0, 1) := by decide +kernel
theorem dX3_partTwice_33 : decode cX3_partTwice 33 = .ok (.getfield 9, 3) := by decide +kernel
theorem dX3_partTwice_36 : decode cX3_partTwice 36 = .ok (.iload_n 1, 1) := by decide +kernel
theorem dX3_partTwice_37 : decode cX3_partTwice 37 = .ok (.iaload, 1) := by decide +kernel
theorem dX3_partTwice_38 : decode cX3_partTwice 38 = .ok (.ireturn, 1) := by decide +kernel
theorem dX3_partTwice_39 : decode cX3_partTwice 39 = .ok (.iinc 2 1, 3) := by decide +kernel
theorem dX3_partTwice_42 : decode cX3_partTwice 42 = .ok (.goto (-30), 3) := by decide +kernel
theorem dX3_partTwice_45 : decode cX3_partTwice 45 = .ok (.iinc 1 1, 3) := by decide +kernel
theorem dX3_partTwice_48 : decode cX3_partTwice 48 = .ok (.goto (-46), 3) := by decide +kernel
theorem dX3_partTwice_51 : decode cX3_partTwice 51 = .ok (.iconst (-1), 1) := by decide +kernel
theorem dX3_partTwice_52 : decode cX3_partTwice 52 = .ok (.ireturn, 1) := by decide +kernel
theorem dX3_piecesFor_0 : decode cX3_piecesFor 0 = .ok (.iconst 0, 1) := by decide +kernel
theorem dX3_piecesFor_1 : decode cX3_piecesFor 1 = .ok (.istore_n 2, 1) := by decide +kernel
theorem dX3_piecesFor_2 : decode cX3_piecesFor 2 = .ok (.iload_n 2, 1) := by decide +kernel
theorem dX3_piecesFor_3 : decode cX3_piecesFor 3 = .ok (.aload_n 0, 1) := by decide +kernel
theorem dX3_piecesFor_4 : decode cX3_piecesFor 4 = .ok (.getfield 37, 3) := by decide +kernel
theorem dX3_piecesFor_7 : decode cX3_piecesFor 7 = .ok (.if_icmp .ge 26, 3) := by decide +kernel
theorem dX3_piecesFor_10 : decode cX3_piecesFor 10 = .ok (.aload_n 0, 1) := by decide +kernel
theorem dX3_piecesFor_11 : decode cX3_piecesFor 11 = .ok (.getfield 9, 3) := by decide +kernel
theorem dX3_piecesFor_14 : decode cX3_piecesFor 14 = .ok (.iload_n 2, 1) := by decide +kernel
theorem dX3_piecesFor_15 : decode cX3_piecesFor 15 = .ok (.iaload, 1) := by decide +kernel
theorem dX3_piecesFor_16 : decode cX3_piecesFor 16 = .ok (.iload_n 1, 1) := by decide +kernel
theorem dX3_piecesFor_17 : decode cX3_piecesFor 17 = .ok (.if_icmp .ne 10, 3) := by decide +kernel
theorem dX3_piecesFor_20 : decode cX3_piecesFor 20 = .ok (.aload_n 0, 1) := by decide +kernel
theorem dX3_piecesFor_21 : decode cX3_piecesFor 21 = .ok (.getfield 15, 3) := by decide +kernel
theorem dX3_piecesFor_24 : decode cX3_piecesFor 24 = .ok (.iload_n 2, 1) := by decide +kernel
theorem dX3_piecesFor_25 : decode cX3_piecesFor 25 = .ok (.iaload, 1) := by decide +kernel
theorem dX3_piecesFor_26 : decode cX3_piecesFor 26 = .ok (.ireturn, 1) := by decide +kernel
theorem dX3_piecesFor_27 : decode cX3_piecesFor 27 = .ok (.iinc 2 1, 3) := by decide +kernel
theorem dX3_piecesFor_30 : decode cX3_piecesFor 30 = .ok (.goto (-28), 3) := by decide +kernel
theorem dX3_piecesFor_33 : decode cX3_piecesFor 33 = .ok (.iconst 0, 1) := by decide +kernel
theorem dX3_piecesFor_34 : decode cX3_piecesFor 34 = .ok (.ireturn, 1) := by decide +kernel
theorem dX4_init_0 : decode cX4_init 0 = .ok (.aload_n 0, 1) := by decide +kernel
theorem dX4_init_1 : decode cX4_init 1 = .ok (.invokespecial 3, 3) := by decide +kernel
theorem dX4_init_4 : decode cX4_init 4 = .ok (.aload_n 0, 1) := by decide +kernel
theorem dX4_init_5 : decode cX4_init 5 = .ok (.new 9, 3) := by decide +kernel
theorem dX4_init_8 : decode cX4_init 8 = .ok (.dup, 1) := by decide +kernel
theorem dX4_init_9 : decode cX4_init 9 = .ok (.invokespecial 11, 3) := by decide +kernel
theorem dX4_init_12 : decode cX4_init 12 = .ok (.putfield 12, 3) := by decide +kernel
theorem dX4_init_15 : decode cX4_init 15 = .ok (.aload_n 0, 1) := by decide +kernel
theorem dX4_init_16 : decode cX4_init 16 = .ok (.new 18, 3) := by decide +kernel
theorem dX4_init_19 : decode cX4_init 19 = .ok (.dup, 1) := by decide +kernel
theorem dX4_init_20 : decode cX4_init 20 = .ok (.invokespecial 20, 3) := by decide +kernel
theorem dX4_init_23 : decode cX4_init 23 = .ok (.putfield 21, 3) := by decide +kernel
theorem dX4_init_26 : decode cX4_init 26 = .ok (.aload_n 0, 1) := by decide +kernel
theorem dX4_init_27 : decode cX4_init 27 = .ok (.new 25, 3) := by decide +kernel
theorem dX4_init_30 : decode cX4_init 30 = .ok (.dup, 1) := by decide +kernel
theorem dX4_init_31 : decode cX4_init 31 = .ok (.invokespecial 27, 3) := by decide +kernel
theorem dX4_init_34 : decode cX4_init 34 = .ok (.putfield 28, 3) := by decide +kernel
theorem dX4_init_37 : decode cX4_init 37 = .ok (.aload_n 0, 1) := by decide +kernel
theorem dX4_init_38 : decode cX4_init 38 = .ok (.new 32, 3) := by decide +kernel
theorem dX4_init_41 : decode cX4_init 41 = .ok (.dup, 1) := by decide +kernel
theorem dX4_init_42 : decode cX4_init 42 = .ok (.invokespecial 34, 3) := by decide +kernel
theorem dX4_init_45 : decode cX4_init 45 = .ok (.putfield 35, 3) := by decide +kernel
theorem dX4_init_48 : decode cX4_init 48 = .ok (.aload_n 0, 1) := by decide +kernel
theorem dX4_init_49 : decode cX4_init 49 = .ok (.iconst (-1), 1) := by decide +kernel
theorem dX4_init_50 : decode cX4_init 50 = .ok (.putfield 39, 3) := by decide +kernel
theorem dX4_init_53 : decode cX4_init 53 = .ok (.aload_n 0, 1) := by decide +kernel
theorem dX4_init_54 : decode cX4_init 54 = .ok (.iconst (-1), 1) := by decide +kernel
theorem dX4_init_55 : decode cX4_init 55 = .ok (.putfield 43, 3) := by decide +kernel
theorem dX4_init_58 : decode cX4_init 58 = .ok (.return_, 1) := by decide +kernel
theorem dX4_copyFrom_0 : decode cX4_copyFrom 0 = .ok (.aload_n 0, 1) := by decide +kernel
theorem dX4_copyFrom_1 : decode cX4_copyFrom 1 = .ok (.getfield 12, 3) := by decide +kernel
theorem dX4_copyFrom_4 : decode cX4_copyFrom 4 = .ok (.aload_n 1, 1) := by decide +kernel
theorem dX4_copyFrom_5 : decode cX4_copyFrom 5 = .ok (.getfield 12, 3) := by decide +kernel
theorem dX4_copyFrom_8 : decode cX4_copyFrom 8 = .ok (.invokevirtual 46, 3) := by decide +kernel
theorem dX4_copyFrom_11 : decode cX4_copyFrom 11 = .ok (.aload_n 0, 1) := by decide +kernel
theorem dX4_copyFrom_12 : decode cX4_copyFrom 12 = .ok (.getfield 21, 3) := by decide +kernel
theorem dX4_copyFrom_15 : decode cX4_copyFrom 15 = .ok (.aload_n 1, 1) := by decide +kernel
theorem dX4_copyFrom_16 : decode cX4_copyFrom 16 = .ok (.getfield 21, 3) := by decide +kernel
theorem dX4_copyFrom_19 : decode cX4_copyFrom 19 = .ok (.invokevirtual 50, 3) := by decide +kernel
theorem dX4_copyFrom_22 : decode cX4_copyFrom 22 = .ok (.aload_n 0, 1) := by decide +kernel
theorem dX4_copyFrom_23 : decode cX4_copyFrom 23 = .ok (.getfield 28, 3) := by decide +kernel
theorem dX4_copyFrom_26 : decode cX4_copyFrom 26 = .ok (.aload_n 1, 1) := by decide +kernel
theorem dX4_copyFrom_27 : decode cX4_copyFrom 27 = .ok (.getfield 28, 3) := by decide +kernel
theorem dX4_copyFrom_30 : decode cX4_copyFrom 30 = .ok (.invokevirtual 53, 3) := by decide +kernel
theorem dX4_copyFrom_33 : decode cX4_copyFrom 33 = .ok (.aload_n 0, 1) := by decide +kernel
theorem dX4_copyFrom_34 : decode cX4_copyFrom 34 = .ok (.getfield 35, 3) := by decide +kernel
theorem dX4_copyFrom_37 : decode cX4_copyFrom 37 = .ok (.aload_n 1, 1) := by decide +kernel
theorem dX4_copyFrom_38 : decode cX4_copyFrom 38 = .ok (.getfield 35, 3) := by decide +kernel
theorem dX4_copyFrom_41 : decode cX4_copyFrom 41 = .ok (.invokevirtual 56, 3) := by decide +kernel
theorem dX4_copyFrom_44 : decode cX4_copyFrom 44 = .ok (.aload_n 0, 1) := by decide +kernel
theorem dX4_copyFrom_45 : decode cX4_copyFrom 45 = .ok (.aload_n 1, 1) := by decide +kernel
theorem dX4_copyFrom_46 : decode cX4_copyFrom 46 = .ok (.getfield 59, 3) := by decide +kernel
theorem dX4_copyFrom_49 : decode cX4_copyFrom 49 = .ok (.putfield 59, 3) := by decide +kernel
theorem dX4_copyFrom_52 : decode cX4_copyFrom 52 = .ok (.aload_n 0, 1) := by decide +kernel
theorem dX4_copyFrom_53 : decode cX4_copyFrom 53 = .ok (.aload_n 1, 1) := by decide +kernel
theorem dX4_copyFrom_54 : decode cX4_copyFrom 54 = .ok (.getfield 62, 3) := by decide +kernel
theorem dX4_copyFrom_57 : decode cX4_copyFrom 57 = .ok (.putfield 62, 3) := by decide +kernel
theorem dX4_copyFrom_60 : decode cX4_copyFrom 60 = .ok (.aload_n 0, 1) := by decide +kernel
theorem dX4_copyFrom_61 : decode cX4_copyFrom 61 = .ok (.aload_n 1, 1) := by decide +kernel
theorem dX4_copyFrom_62 : decode cX4_copyFrom 62 = .ok (.getfield 65, 3) := by decide +kernel
theorem dX4_copyFrom_65 : decode cX4_copyFrom 65 = .ok (.putfield 65, 3) := by decide +kernel
theorem dX4_copyFrom_68 : decode cX4_copyFrom 68 = .ok (.aload_n 0, 1) := by decide +kernel
theorem dX4_copyFrom_69 : decode cX4_copyFrom 69 = .ok (.aload_n 1, 1) := by decide +kernel
theorem dX4_copyFrom_70 : decode cX4_copyFrom 70 = .ok (.getfield 39, 3) := by decide +kernel
theorem dX4_copyFrom_73 : decode cX4_copyFrom 73 = .ok (.putfield 39, 3) := by decide +kernel
theorem dX4_copyFrom_76 : decode cX4_copyFrom 76 = .ok (.aload_n 0, 1) := by decide +kernel
theorem dX4_copyFrom_77 : decode cX4_copyFrom 77 = .ok (.aload_n 1, 1) := by decide +kernel
theorem dX4_copyFrom_78 : decode cX4_copyFrom 78 = .ok (.getfield 43, 3) := by decide +kernel
theorem dX4_copyFrom_81 : decode cX4_copyFrom 81 = .ok (.putfield 43, 3) := by decide +kernel
theorem dX4_copyFrom_84 : decode cX4_copyFrom 84 = .ok (.aload_n 0, 1) := by decide +kernel
theorem dX4_copyFrom_85 : decode cX4_copyFrom 85 = .ok (.aload_n 1, 1) := by decide +kernel
theorem dX4_copyFrom_86 : decode cX4_copyFrom 86 = .ok (.getfield 68, 3) := by decide +kernel
theorem dX4_copyFrom_89 : decode cX4_copyFrom 89 = .ok (.putfield 68, 3) := by decide +kernel
theorem dX4_copyFrom_92 : decode cX4_copyFrom 92 = .ok (.aload_n 0, 1) := by decide +kernel
theorem dX4_copyFrom_93 : decode cX4_copyFrom 93 = .ok (.aload_n 1, 1) := by decide +kernel
theorem dX4_copyFrom_94 : decode cX4_copyFrom 94 = .ok (.getfield 71, 3) := by decide +kernel
theorem dX4_copyFrom_97 : decode cX4_copyFrom 97 = .ok (.putfield 71, 3) := by decide +kernel
theorem dX4_copyFrom_100 : decode cX4_copyFrom 100 = .ok (.aload_n 0, 1) := by decide +kernel
theorem dX4_copyFrom_101 : decode cX4_copyFrom 101 = .ok (.aload_n 1, 1) := by decide +kernel
theorem dX4_copyFrom_102 : decode cX4_copyFrom 102 = .ok (.getfield 74, 3) := by decide +kernel
theorem dX4_copyFrom_105 : decode cX4_copyFrom 105 = .ok (.putfield 74, 3) := by decide +kernel
theorem dX4_copyFrom_108 : decode cX4_copyFrom 108 = .ok (.return_, 1) := by decide +kernel
theorem dX4_mountFamily_0 : decode cX4_mountFamily 0 = .ok (.aload_n 0, 1) := by decide +kernel
theorem dX4_mountFamily_1 : decode cX4_mountFamily 1 = .ok (.getfield 12, 3) := by decide +kernel
theorem dX4_mountFamily_4 : decode cX4_mountFamily 4 = .ok (.iload_n 1, 1) := by decide +kernel
theorem dX4_mountFamily_5 : decode cX4_mountFamily 5 = .ok (.invokevirtual 77, 3) := by decide +kernel
theorem dX4_mountFamily_8 : decode cX4_mountFamily 8 = .ok (.ifCond .ne 10, 3) := by decide +kernel
theorem dX4_mountFamily_11 : decode cX4_mountFamily 11 = .ok (.aload_n 2, 1) := by decide +kernel
theorem dX4_mountFamily_12 : decode cX4_mountFamily 12 = .ok (.iconst 1, 1) := by decide +kernel
theorem dX4_mountFamily_13 : decode cX4_mountFamily 13 = .ok (.iconst 0, 1) := by decide +kernel
theorem dX4_mountFamily_14 : decode cX4_mountFamily 14 = .ok (.invokevirtual 81, 3) := by decide +kernel
theorem dX4_mountFamily_17 : decode cX4_mountFamily 17 = .ok (.ireturn, 1) := by decide +kernel
theorem dX4_mountFamily_18 : decode cX4_mountFamily 18 = .ok (.aload_n 0, 1) := by decide +kernel
theorem dX4_mountFamily_19 : decode cX4_mountFamily 19 = .ok (.getfield 43, 3) := by decide +kernel
theorem dX4_mountFamily_22 : decode cX4_mountFamily 22 = .ok (.iload_n 1, 1) := by decide +kernel
theorem dX4_mountFamily_23 : decode cX4_mountFamily 23 = .ok (.if_icmp .ne 10, 3) := by decide +kernel
theorem dX4_mountFamily_26 : decode cX4_mountFamily 26 = .ok (.aload_n 2, 1) := by decide +kernel
theorem dX4_mountFamily_27 : decode cX4_mountFamily 27 = .ok (.iconst 4, 1) := by decide +kernel
theorem dX4_mountFamily_28 : decode cX4_mountFamily 28 = .ok (.iconst 0, 1) := by decide +kernel
theorem dX4_mountFamily_29 : decode cX4_mountFamily 29 = .ok (.invokevirtual 81, 3) := by decide +kernel
theorem dX4_mountFamily_32 : decode cX4_mountFamily 32 = .ok (.ireturn, 1) := by decide +kernel
theorem dX4_mountFamily_33 : decode cX4_mountFamily 33 = .ok (.aload_n 0, 1) := by decide +kernel
theorem dX4_mountFamily_34 : decode cX4_mountFamily 34 = .ok (.iload_n 1, 1) := by decide +kernel
theorem dX4_mountFamily_35 : decode cX4_mountFamily 35 = .ok (.putfield 43, 3) := by decide +kernel
theorem dX4_mountFamily_38 : decode cX4_mountFamily 38 = .ok (.aload_n 0, 1) := by decide +kernel
theorem dX4_mountFamily_39 : decode cX4_mountFamily 39 = .ok (.aload_n 0, 1) := by decide +kernel
theorem dX4_mountFamily_40 : decode cX4_mountFamily 40 = .ok (.getfield 12, 3) := by decide +kernel
theorem dX4_mountFamily_43 : decode cX4_mountFamily 43 = .ok (.getfield 87, 3) := by decide +kernel
theorem dX4_mountFamily_46 : decode cX4_mountFamily 46 = .ok (.iconst 3, 1) := by decide +kernel
theorem dX4_mountFamily_47 : decode cX4_mountFamily 47 = .ok (.iaload, 1) := by decide +kernel
theorem dX4_mountFamily_48 : decode cX4_mountFamily 48 = .ok (.invokevirtual 91, 3) := by decide +kernel
theorem dX4_mountFamily_51 : decode cX4_mountFamily 51 = .ok (.ireturn, 1) := by decide +kernel
theorem dX4_loadDryer_0 : decode cX4_loadDryer 0 = .ok (.iload_n 1, 1) := by decide +kernel
theorem dX4_loadDryer_1 : decode cX4_loadDryer 1 = .ok (.iconst 0, 1) := by decide +kernel
theorem dX4_loadDryer_2 : decode cX4_loadDryer 2 = .ok (.iconst 2, 1) := by decide +kernel
theorem dX4_loadDryer_3 : decode cX4_loadDryer 3 = .ok (.invokestatic 95, 3) := by decide +kernel
theorem dX4_loadDryer_6 : decode cX4_loadDryer 6 = .ok (.ifCond .eq 14, 3) := by decide +kernel
theorem dX4_loadDryer_9 : decode cX4_loadDryer 9 = .ok (.aload_n 0, 1) := by decide +kernel
theorem dX4_loadDryer_10 : decode cX4_loadDryer 10 = .ok (.getfield 12, 3) := by decide +kernel
theorem dX4_loadDryer_13 : decode cX4_loadDryer 13 = .ok (.iload_n 2, 1) := by decide +kernel
theorem dX4_loadDryer_14 : decode cX4_loadDryer 14 = .ok (.invokevirtual 99, 3) := by decide +kernel
theorem dX4_loadDryer_17 : decode cX4_loadDryer 17 = .ok (.ifCond .ne 11, 3) := by decide +kernel
theorem dX4_loadDryer_20 : decode cX4_loadDryer 20 = .ok (.aload 4, 2) := by decide +kernel
theorem dX4_loadDryer_22 : decode cX4_loadDryer 22 = .ok (.iconst 1, 1) := by decide +kernel
theorem dX4_loadDryer_23 : decode cX4_loadDryer 23 = .ok (.iconst 0, 1) := by decide +kernel
theorem dX4_loadDryer_24 : decode cX4_loadDryer 24 = .ok (.invokevirtual 81, 3) := by decide +kernel
theorem dX4_loadDryer_27 : decode cX4_loadDryer 27 = .ok (.ireturn, 1) := by decide +kernel
theorem dX4_loadDryer_28 : decode cX4_loadDryer 28 = .ok (.aload_n 0, 1) := by decide +kernel
theorem dX4_loadDryer_29 : decode cX4_loadDryer 29 = .ok (.getfield 21, 3) := by decide +kernel
theorem dX4_loadDryer_32 : decode cX4_loadDryer 32 = .ok (.iload_n 1, 1) := by decide +kernel
theorem dX4_loadDryer_33 : decode cX4_loadDryer 33 = .ok (.iload_n 2, 1) := by decide +kernel
theorem dX4_loadDryer_34 : decode cX4_loadDryer 34 = .ok (.iload_n 3, 1) := by decide +kernel
theorem dX4_loadDryer_35 : decode cX4_loadDryer 35 = .ok (.aload 4, 2) := by decide +kernel
theorem dX4_loadDryer_37 : decode cX4_loadDryer 37 = .ok (.invokevirtual 102, 3) := by decide +kernel
theorem dX4_loadDryer_40 : decode cX4_loadDryer 40 = .ok (.ireturn, 1) := by decide +kernel
theorem dX4_waitMinutes_0 : decode cX4_waitMinutes 0 = .ok (.iload_n 1, 1) := by decide +kernel
theorem dX4_waitMinutes_1 : decode cX4_waitMinutes 1 = .ok (.iconst 1, 1) := by decide +kernel
theorem dX4_waitMinutes_2 : decode cX4_waitMinutes 2 = .ok (.sipush 999, 3) := by decide +kernel
theorem dX4_waitMinutes_5 : decode cX4_waitMinutes 5 = .ok (.invokestatic 95, 3) := by decide +kernel
theorem dX4_waitMinutes_8 : decode cX4_waitMinutes 8 = .ok (.ifCond .ne 10, 3) := by decide +kernel
theorem dX4_waitMinutes_11 : decode cX4_waitMinutes 11 = .ok (.aload_n 2, 1) := by decide +kernel
theorem dX4_waitMinutes_12 : decode cX4_waitMinutes 12 = .ok (.iconst 2, 1) := by decide +kernel
theorem dX4_waitMinutes_13 : decode cX4_waitMinutes 13 = .ok (.iconst 0, 1) := by decide +kernel
theorem dX4_waitMinutes_14 : decode cX4_waitMinutes 14 = .ok (.invokevirtual 81, 3) := by decide +kernel
theorem dX4_waitMinutes_17 : decode cX4_waitMinutes 17 = .ok (.ireturn, 1) := by decide +kernel
theorem dX4_waitMinutes_18 : decode cX4_waitMinutes 18 = .ok (.aload_n 0, 1) := by decide +kernel
theorem dX4_waitMinutes_19 : decode cX4_waitMinutes 19 = .ok (.iload_n 1, 1) := by decide +kernel
theorem dX4_waitMinutes_20 : decode cX4_waitMinutes 20 = .ok (.invokevirtual 91, 3) := by decide +kernel
theorem dX4_waitMinutes_23 : decode cX4_waitMinutes 23 = .ok (.ireturn, 1) := by decide +kernel
theorem dX4_addOrder_0 : decode cX4_addOrder 0 = .ok (.aload_n 0, 1) := by decide +kernel
theorem dX4_addOrder_1 : decode cX4_addOrder 1 = .ok (.getfield 12, 3) := by decide +kernel
theorem dX4_addOrder_4 : decode cX4_addOrder 4 = .ok (.iload_n 1, 1) := by decide +kernel
theorem dX4_addOrder_5 : decode cX4_addOrder 5 = .ok (.invokevirtual 106, 3) := by decide +kernel
theorem dX4_addOrder_8 : decode cX4_addOrder 8 = .ok (.ifCond .eq 14, 3) := by decide +kernel
theorem dX4_addOrder_11 : decode cX4_addOrder 11 = .ok (.aload_n 0, 1) := by decide +kernel
theorem dX4_addOrder_12 : decode cX4_addOrder 12 = .ok (.getfield 12, 3) := by decide +kernel
theorem dX4_addOrder_15 : decode cX4_addOrder 15 = .ok (.iload_n 2, 1) := by decide +kernel
theorem dX4_addOrder_16 : decode cX4_addOrder 16 = .ok (.invokevirtual 99, 3) := by decide +kernel
theorem dX4_addOrder_19 : decode cX4_addOrder 19 = .ok (.ifCond .ne 11, 3) := by decide +kernel
theorem dX4_addOrder_22 : decode cX4_addOrder 22 = .ok (.aload 5, 2) := by decide +kernel
theorem dX4_addOrder_24 : decode cX4_addOrder 24 = .ok (.iconst 1, 1) := by decide +kernel
theorem dX4_addOrder_25 : decode cX4_addOrder 25 = .ok (.iconst 0, 1) := by decide +kernel
theorem dX4_addOrder_26 : decode cX4_addOrder 26 = .ok (.invokevirtual 81, 3) := by decide +kernel
theorem dX4_addOrder_29 : decode cX4_addOrder 29 = .ok (.ireturn, 1) := by decide +kernel
theorem dX4_addOrder_30 : decode cX4_addOrder 30 = .ok (.aload_n 0, 1) := by decide +kernel
theorem dX4_addOrder_31 : decode cX4_addOrder 31 = .ok (.getfield 35, 3) := by decide +kernel
theorem dX4_addOrder_34 : decode cX4_addOrder 34 = .ok (.iload_n 1, 1) := by decide +kernel
theorem dX4_addOrder_35 : decode cX4_addOrder 35 = .ok (.iload_n 2, 1) := by decide +kernel
theorem dX4_addOrder_36 : decode cX4_addOrder 36 = .ok (.iload_n 3, 1) := by decide +kernel
theorem dX4_addOrder_37 : decode cX4_addOrder 37 = .ok (.iload 4, 2) := by decide +kernel
theorem dX4_addOrder_39 : decode cX4_addOrder 39 = .ok (.aload 5, 2) := by decide +kernel
theorem dX4_addOrder_41 : decode cX4_addOrder 41 = .ok (.invokevirtual 109, 3) := by decide +kernel
theorem dX4_addOrder_44 : decode cX4_addOrder 44 = .ok (.ireturn, 1) := by decide +kernel
theorem dX4_runShots_0 : decode cX4_runShots 0 = .ok (.aload_n 0, 1) := by decide +kernel
theorem dX4_runShots_1 : decode cX4_runShots 1 = .ok (.getfield 12, 3) := by decide +kernel
theorem dX4_runShots_4 : decode cX4_runShots 4 = .ok (.iload_n 1, 1) := by decide +kernel
theorem dX4_runShots_5 : decode cX4_runShots 5 = .ok (.invokevirtual 99, 3) := by decide +kernel
theorem dX4_runShots_8 : decode cX4_runShots 8 = .ok (.ifCond .ne 10, 3) := by decide +kernel
theorem dX4_runShots_11 : decode cX4_runShots 11 = .ok (.aload_n 3, 1) := by decide +kernel
theorem dX4_runShots_12 : decode cX4_runShots 12 = .ok (.iconst 1, 1) := by decide +kernel
theorem dX4_runShots_13 : decode cX4_runShots 13 = .ok (.iconst 0, 1) := by decide +kernel
theorem dX4_runShots_14 : decode cX4_runShots 14 = .ok (.invokevirtual 81, 3) := by decide +kernel
theorem dX4_runShots_17 : decode cX4_runShots 17 = .ok (.ireturn, 1) := by decide +kernel
theorem dX4_runShots_18 : decode cX4_runShots 18 = .ok (.iload_n 2, 1) := by decide +kernel
theorem dX4_runShots_19 : decode cX4_runShots 19 = .ok (.iconst 1, 1) := by decide +kernel
theorem dX4_runShots_20 : decode cX4_runShots 20 = .ok (.sipush 200, 3) := by decide +kernel
theorem dX4_runShots_23 : decode cX4_runShots 23 = .ok (.invokestatic 95, 3) := by decide +kernel
theorem dX4_runShots_26 : decode cX4_runShots 26 = .ok (.ifCond .ne 10, 3) := by decide +kernel
theorem dX4_runShots_29 : decode cX4_runShots 29 = .ok (.aload_n 3, 1) := by decide +kernel
theorem dX4_runShots_30 : decode cX4_runShots 30 = .ok (.iconst 2, 1) := by decide +kernel
theorem dX4_runShots_31 : decode cX4_runShots 31 = .ok (.iconst 0, 1) := by decide +kernel
theorem dX4_runShots_32 : decode cX4_runShots 32 = .ok (.invokevirtual 81, 3) := by decide +kernel
theorem dX4_runShots_35 : decode cX4_runShots 35 = .ok (.ireturn, 1) := by decide +kernel
theorem dX4_runShots_36 : decode cX4_runShots 36 = .ok (.aload_n 0, 1) := by decide +kernel
theorem dX4_runShots_37 : decode cX4_runShots 37 = .ok (.getfield 12, 3) := by decide +kernel
theorem dX4_runShots_40 : decode cX4_runShots 40 = .ok (.aload_n 0, 1) := by decide +kernel
theorem dX4_runShots_41 : decode cX4_runShots 41 = .ok (.getfield 43, 3) := by decide +kernel
theorem dX4_runShots_44 : decode cX4_runShots 44 = .ok (.invokevirtual 77, 3) := by decide +kernel
theorem dX4_runShots_47 : decode cX4_runShots 47 = .ok (.ifCond .ne 10, 3) := by decide +kernel
theorem dX4_runShots_50 : decode cX4_runShots 50 = .ok (.aload_n 3, 1) := by decide +kernel
theorem dX4_runShots_51 : decode cX4_runShots 51 = .ok (.iconst 5, 1) := by decide +kernel
theorem dX4_runShots_52 : decode cX4_runShots 52 = .ok (.iconst 0, 1) := by decide +kernel
theorem dX4_runShots_53 : decode cX4_runShots 53 = .ok (.invokevirtual 81, 3) := by decide +kernel
theorem dX4_runShots_56 : decode cX4_runShots 56 = .ok (.ireturn, 1) := by decide +kernel
theorem dX4_runShots_57 : decode cX4_runShots 57 = .ok (.aload_n 0, 1) := by decide +kernel
theorem dX4_runShots_58 : decode cX4_runShots 58 = .ok (.getfield 12, 3) := by decide +kernel
theorem dX4_runShots_61 : decode cX4_runShots 61 = .ok (.aload_n 0, 1) := by decide +kernel
theorem dX4_runShots_62 : decode cX4_runShots 62 = .ok (.getfield 39, 3) := by decide +kernel
theorem dX4_runShots_65 : decode cX4_runShots 65 = .ok (.iload_n 1, 1) := by decide +kernel
theorem dX4_runShots_66 : decode cX4_runShots 66 = .ok (.invokevirtual 113, 3) := by decide +kernel
theorem dX4_runShots_69 : decode cX4_runShots 69 = .ok (.istore 4, 2) := by decide +kernel
theorem dX4_runShots_71 : decode cX4_runShots 71 = .ok (.iload 4, 2) := by decide +kernel
theorem dX4_runShots_73 : decode cX4_runShots 73 = .ok (.iload_n 2, 1) := by decide +kernel
theorem dX4_runShots_74 : decode cX4_runShots 74 = .ok (.iadd, 1) := by decide +kernel
theorem dX4_runShots_75 : decode cX4_runShots 75 = .ok (.aload_n 0, 1) := by decide +kernel
theorem dX4_runShots_76 : decode cX4_runShots 76 = .ok (.getfield 12, 3) := by decide +kernel
theorem dX4_runShots_79 : decode cX4_runShots 79 = .ok (.getfield 116, 3) := by decide +kernel
theorem dX4_runShots_82 : decode cX4_runShots 82 = .ok (.aload_n 0, 1) := by decide +kernel
theorem dX4_runShots_83 : decode cX4_runShots 83 = .ok (.getfield 43, 3) := by decide +kernel
theorem dX4_runShots_86 : decode cX4_runShots 86 = .ok (.iaload, 1) := by decide +kernel
theorem dX4_runShots_87 : decode cX4_runShots 87 = .ok (.imul, 1) := by decide +kernel
theorem dX4_runShots_88 : decode cX4_runShots 88 = .ok (.istore 5, 2) := by decide +kernel
theorem dX4_runShots_90 : decode cX4_runShots 90 = .ok (.aload_n 0, 1) := by decide +kernel
theorem dX4_runShots_91 : decode cX4_runShots 91 = .ok (.getfield 21, 3) := by decide +kernel
theorem dX4_runShots_94 : decode cX4_runShots 94 = .ok (.iload_n 1, 1) := by decide +kernel
theorem dX4_runShots_95 : decode cX4_runShots 95 = .ok (.iload 5, 2) := by decide +kernel
theorem dX4_runShots_97 : decode cX4_runShots 97 = .ok (.aload_n 0, 1) := by decide +kernel
theorem dX4_runShots_98 : decode cX4_runShots 98 = .ok (.getfield 12, 3) := by decide +kernel
theorem dX4_runShots_101 : decode cX4_runShots 101 = .ok (.getfield 87, 3) := by decide +kernel
theorem dX4_runShots_104 : decode cX4_runShots 104 = .ok (.iconst 1, 1) := by decide +kernel
theorem dX4_runShots_105 : decode cX4_runShots 105 = .ok (.iaload, 1) := by decide +kernel
theorem dX4_runShots_106 : decode cX4_runShots 106 = .ok (.invokevirtual 119, 3) := by decide +kernel
theorem dX4_runShots_109 : decode cX4_runShots 109 = .ok (.istore 6, 2) := by decide +kernel
theorem dX4_runShots_111 : decode cX4_runShots 111 = .ok (.iload 6, 2) := by decide +kernel
theorem dX4_runShots_113 : decode cX4_runShots 113 = .ok (.iconst (-1), 1) := by decide +kernel
theorem dX4_runShots_114 : decode cX4_runShots 114 = .ok (.if_icmp .ne 12, 3) := by decide +kernel
theorem dX4_runShots_117 : decode cX4_runShots 117 = .ok (.aload_n 0, 1) := by decide +kernel
theorem dX4_runShots_118 : decode cX4_runShots 118 = .ok (.iload_n 1, 1) := by decide +kernel
theorem dX4_runShots_119 : decode cX4_runShots 119 = .ok (.iload 5, 2) := by decide +kernel
theorem dX4_runShots_121 : decode cX4_runShots 121 = .ok (.aload_n 3, 1) := by decide +kernel
theorem dX4_runShots_122 : decode cX4_runShots 122 = .ok (.invokevirtual 123, 3) := by decide +kernel
theorem dX4_runShots_125 : decode cX4_runShots 125 = .ok (.ireturn, 1) := by decide +kernel
theorem dX4_runShots_126 : decode cX4_runShots 126 = .ok (.aload_n 0, 1) := by decide +kernel
theorem dX4_runShots_127 : decode cX4_runShots 127 = .ok (.getfield 21, 3) := by decide +kernel
theorem dX4_runShots_130 : decode cX4_runShots 130 = .ok (.iload 6, 2) := by decide +kernel
theorem dX4_runShots_132 : decode cX4_runShots 132 = .ok (.iload 5, 2) := by decide +kernel
theorem dX4_runShots_134 : decode cX4_runShots 134 = .ok (.invokevirtual 127, 3) := by decide +kernel
theorem dX4_runShots_137 : decode cX4_runShots 137 = .ok (.aload_n 0, 1) := by decide +kernel
theorem dX4_runShots_138 : decode cX4_runShots 138 = .ok (.dup, 1) := by decide +kernel
theorem dX4_runShots_139 : decode cX4_runShots 139 = .ok (.getfield 68, 3) := by decide +kernel
theorem dX4_runShots_142 : decode cX4_runShots 142 = .ok (.iload 5, 2) := by decide +kernel
theorem dX4_runShots_144 : decode cX4_runShots 144 = .ok (.iadd, 1) := by decide +kernel
theorem dX4_runShots_145 : decode cX4_runShots 145 = .ok (.putfield 68, 3) := by decide +kernel
theorem dX4_runShots_148 : decode cX4_runShots 148 = .ok (.aload_n 0, 1) := by decide +kernel
theorem dX4_runShots_149 : decode cX4_runShots 149 = .ok (.dup, 1) := by decide +kernel
theorem dX4_runShots_150 : decode cX4_runShots 150 = .ok (.getfield 71, 3) := by decide +kernel
theorem dX4_runShots_153 : decode cX4_runShots 153 = .ok (.iload 4, 2) := by decide +kernel
theorem dX4_runShots_155 : decode cX4_runShots 155 = .ok (.iload_n 2, 1) := by decide +kernel
theorem dX4_runShots_156 : decode cX4_runShots 156 = .ok (.iadd, 1) := by decide +kernel
theorem dX4_runShots_157 : decode cX4_runShots 157 = .ok (.iadd, 1) := by decide +kernel
theorem dX4_runShots_158 : decode cX4_runShots 158 = .ok (.putfield 71, 3) := by decide +kernel
theorem dX4_runShots_161 : decode cX4_runShots 161 = .ok (.aload_n 0, 1) := by decide +kernel
theorem dX4_runShots_162 : decode cX4_runShots 162 = .ok (.dup, 1) := by decide +kernel
theorem dX4_runShots_163 : decode cX4_runShots 163 = .ok (.getfield 74, 3) := by decide +kernel
theorem dX4_runShots_166 : decode cX4_runShots 166 = .ok (.iload 4, 2) := by decide +kernel
theorem dX4_runShots_168 : decode cX4_runShots 168 = .ok (.iadd, 1) := by decide +kernel
theorem dX4_runShots_169 : decode cX4_runShots 169 = .ok (.putfield 74, 3) := by decide +kernel
theorem dX4_runShots_172 : decode cX4_runShots 172 = .ok (.aload_n 0, 1) := by decide +kernel
theorem dX4_runShots_173 : decode cX4_runShots 173 = .ok (.iload_n 1, 1) := by decide +kernel
theorem dX4_runShots_174 : decode cX4_runShots 174 = .ok (.putfield 39, 3) := by decide +kernel
theorem dX4_runShots_177 : decode cX4_runShots 177 = .ok (.aload_n 0, 1) := by decide +kernel
theorem dX4_runShots_178 : decode cX4_runShots 178 = .ok (.iload 4, 2) := by decide +kernel
theorem dX4_runShots_180 : decode cX4_runShots 180 = .ok (.iload_n 2, 1) := by decide +kernel
theorem dX4_runShots_181 : decode cX4_runShots 181 = .ok (.iadd, 1) := by decide +kernel
theorem dX4_runShots_182 : decode cX4_runShots 182 = .ok (.aload_n 0, 1) := by decide +kernel
theorem dX4_runShots_183 : decode cX4_runShots 183 = .ok (.getfield 12, 3) := by decide +kernel
theorem dX4_runShots_186 : decode cX4_runShots 186 = .ok (.getfield 131, 3) := by decide +kernel
theorem dX4_runShots_189 : decode cX4_runShots 189 = .ok (.aload_n 0, 1) := by decide +kernel
theorem dX4_runShots_190 : decode cX4_runShots 190 = .ok (.getfield 43, 3) := by decide +kernel
theorem dX4_runShots_193 : decode cX4_runShots 193 = .ok (.iaload, 1) := by decide +kernel
theorem dX4_runShots_194 : decode cX4_runShots 194 = .ok (.imul, 1) := by decide +kernel
theorem dX4_runShots_195 : decode cX4_runShots 195 = .ok (.invokevirtual 91, 3) := by decide +kernel
theorem dX4_runShots_198 : decode cX4_runShots 198 = .ok (.pop, 1) := by decide +kernel
theorem dX4_runShots_199 : decode cX4_runShots 199 = .ok (.aload_n 0, 1) := by decide +kernel
theorem dX4_runShots_200 : decode cX4_runShots 200 = .ok (.iload 4, 2) := by decide +kernel
theorem dX4_runShots_202 : decode cX4_runShots 202 = .ok (.iload_n 2, 1) := by decide +kernel
theorem dX4_runShots_203 : decode cX4_runShots 203 = .ok (.invokevirtual 134, 3) := by decide +kernel
theorem dX4_runShots_206 : decode cX4_runShots 206 = .ok (.iload 4, 2) := by decide +kernel
theorem dX4_runShots_208 : decode cX4_runShots 208 = .ok (.ireturn, 1) := by decide +kernel
theorem dX4_refuseForDryers_0 : decode cX4_refuseForDryers 0 = .ok (.aload_n 3, 1) := by decide +kernel
theorem dX4_refuseForDryers_1 : decode cX4_refuseForDryers 1 = .ok (.bipush 10, 2) := by decide +kernel
theorem dX4_refuseForDryers_3 : decode cX4_refuseForDryers 3 = .ok (.iconst 0, 1) := by decide +kernel
theorem dX4_refuseForDryers_4 : decode cX4_refuseForDryers 4 = .ok (.invokevirtual 81, 3) := by decide +kernel
theorem dX4_refuseForDryers_7 : decode cX4_refuseForDryers 7 = .ok (.pop, 1) := by decide +kernel
theorem dX4_refuseForDryers_8 : decode cX4_refuseForDryers 8 = .ok (.aload_n 0, 1) := by decide +kernel
theorem dX4_refuseForDryers_9 : decode cX4_refuseForDryers 9 = .ok (.getfield 21, 3) := by decide +kernel
theorem dX4_refuseForDryers_12 : decode cX4_refuseForDryers 12 = .ok (.iload_n 1, 1) := by decide +kernel
theorem dX4_refuseForDryers_13 : decode cX4_refuseForDryers 13 = .ok (.invokevirtual 137, 3) := by decide +kernel
theorem dX4_refuseForDryers_16 : decode cX4_refuseForDryers 16 = .ok (.istore 4, 2) := by decide +kernel
theorem dX4_refuseForDryers_18 : decode cX4_refuseForDryers 18 = .ok (.iload 4, 2) := by decide +kernel
theorem dX4_refuseForDryers_20 : decode cX4_refuseForDryers 20 = .ok (.iconst (-1), 1) := by decide +kernel
theorem dX4_refuseForDryers_21 : decode cX4_refuseForDryers 21 = .ok (.if_icmp .eq 57, 3) := by decide +kernel
theorem dX4_refuseForDryers_24 : decode cX4_refuseForDryers 24 = .ok (.aload_n 0, 1) := by decide +kernel
theorem dX4_refuseForDryers_25 : decode cX4_refuseForDryers 25 = .ok (.getfield 21, 3) := by decide +kernel
theorem dX4_refuseForDryers_28 : decode cX4_refuseForDryers 28 = .ok (.iload 4, 2) := by decide +kernel
theorem dX4_refuseForDryers_30 : decode cX4_refuseForDryers 30 = .ok (.aload_n 0, 1) := by decide +kernel
theorem dX4_refuseForDryers_31 : decode cX4_refuseForDryers 31 = .ok (.getfield 12, 3) := by decide +kernel
theorem dX4_refuseForDryers_34 : decode cX4_refuseForDryers 34 = .ok (.getfield 87, 3) := by decide +kernel
theorem dX4_refuseForDryers_37 : decode cX4_refuseForDryers 37 = .ok (.iconst 1, 1) := by decide +kernel
theorem dX4_refuseForDryers_38 : decode cX4_refuseForDryers 38 = .ok (.iaload, 1) := by decide +kernel
theorem dX4_refuseForDryers_39 : decode cX4_refuseForDryers 39 = .ok (.invokevirtual 140, 3) := by decide +kernel
theorem dX4_refuseForDryers_42 : decode cX4_refuseForDryers 42 = .ok (.istore 5, 2) := by decide +kernel
theorem dX4_refuseForDryers_44 : decode cX4_refuseForDryers 44 = .ok (.iload 5, 2) := by decide +kernel
theorem dX4_refuseForDryers_46 : decode cX4_refuseForDryers 46 = .ok (.ifCond .le 14, 3) := by decide +kernel
theorem dX4_refuseForDryers_49 : decode cX4_refuseForDryers 49 = .ok (.aload_n 3, 1) := by decide +kernel
theorem dX4_refuseForDryers_50 : decode cX4_refuseForDryers 50 = .ok (.bipush 11, 2) := by decide +kernel
theorem dX4_refuseForDryers_52 : decode cX4_refuseForDryers 52 = .ok (.iload 5, 2) := by decide +kernel
theorem dX4_refuseForDryers_54 : decode cX4_refuseForDryers 54 = .ok (.invokevirtual 143, 3) := by decide +kernel
theorem dX4_refuseForDryers_57 : decode cX4_refuseForDryers 57 = .ok (.goto 21, 3) := by decide +kernel
theorem dX4_refuseForDryers_60 : decode cX4_refuseForDryers 60 = .ok (.aload_n 3, 1) := by decide +kernel
theorem dX4_refuseForDryers_61 : decode cX4_refuseForDryers 61 = .ok (.bipush 12, 2) := by decide +kernel
theorem dX4_refuseForDryers_63 : decode cX4_refuseForDryers 63 = .ok (.iload_n 2, 1) := by decide +kernel
theorem dX4_refuseForDryers_64 : decode cX4_refuseForDryers 64 = .ok (.aload_n 0, 1) := by decide +kernel
theorem dX4_refuseForDryers_65 : decode cX4_refuseForDryers 65 = .ok (.getfield 21, 3) := by decide +kernel
theorem dX4_refuseForDryers_68 : decode cX4_refuseForDryers 68 = .ok (.getfield 146, 3) := by decide +kernel
theorem dX4_refuseForDryers_71 : decode cX4_refuseForDryers 71 = .ok (.iload 4, 2) := by decide +kernel
theorem dX4_refuseForDryers_73 : decode cX4_refuseForDryers 73 = .ok (.iaload, 1) := by decide +kernel
theorem dX4_refuseForDryers_74 : decode cX4_refuseForDryers 74 = .ok (.isub, 1) := by decide +kernel
theorem dX4_refuseForDryers_75 : decode cX4_refuseForDryers 75 = .ok (.invokevirtual 143, 3) := by decide +kernel
theorem dX4_refuseForDryers_78 : decode cX4_refuseForDryers 78 = .ok (.iconst (-1), 1) := by decide +kernel
theorem dX4_refuseForDryers_79 : decode cX4_refuseForDryers 79 = .ok (.ireturn, 1) := by decide +kernel
theorem dX4_putPieces_0 : decode cX4_putPieces 0 = .ok (.iconst 0, 1) := by decide +kernel
theorem dX4_putPieces_1 : decode cX4_putPieces 1 = .ok (.istore_n 3, 1) := by decide +kernel
theorem dX4_putPieces_2 : decode cX4_putPieces 2 = .ok (.iload_n 3, 1) := by decide +kernel
theorem dX4_putPieces_3 : decode cX4_putPieces 3 = .ok (.aload_n 0, 1) := by decide +kernel
theorem dX4_putPieces_4 : decode cX4_putPieces 4 = .ok (.getfield 12, 3) := by decide +kernel
theorem dX4_putPieces_7 : decode cX4_putPieces 7 = .ok (.getfield 149, 3) := by decide +kernel
theorem dX4_putPieces_10 : decode cX4_putPieces 10 = .ok (.if_icmp .ge 65, 3) := by decide +kernel
theorem dX4_putPieces_13 : decode cX4_putPieces 13 = .ok (.aload_n 0, 1) := by decide +kernel
theorem dX4_putPieces_14 : decode cX4_putPieces 14 = .ok (.getfield 12, 3) := by decide +kernel
theorem dX4_putPieces_17 : decode cX4_putPieces 17 = .ok (.aload_n 0, 1) := by decide +kernel
theorem dX4_putPieces_18 : decode cX4_putPieces 18 = .ok (.getfield 43, 3) := by decide +kernel
theorem dX4_putPieces_21 : decode cX4_putPieces 21 = .ok (.iload_n 3, 1) := by decide +kernel
theorem dX4_putPieces_22 : decode cX4_putPieces 22 = .ok (.invokevirtual 152, 3) := by decide +kernel
theorem dX4_putPieces_25 : decode cX4_putPieces 25 = .ok (.istore 4, 2) := by decide +kernel
theorem dX4_putPieces_27 : decode cX4_putPieces 27 = .ok (.iload 4, 2) := by decide +kernel
theorem dX4_putPieces_29 : decode cX4_putPieces 29 = .ok (.ifCond .le 40, 3) := by decide +kernel
theorem dX4_putPieces_32 : decode cX4_putPieces 32 = .ok (.aload_n 0, 1) := by decide +kernel
theorem dX4_putPieces_33 : decode cX4_putPieces 33 = .ok (.getfield 28, 3) := by decide +kernel
theorem dX4_putPieces_36 : decode cX4_putPieces 36 = .ok (.iload_n 3, 1) := by decide +kernel
theorem dX4_putPieces_37 : decode cX4_putPieces 37 = .ok (.iload 4, 2) := by decide +kernel
theorem dX4_putPieces_39 : decode cX4_putPieces 39 = .ok (.iload_n 1, 1) := by decide +kernel
theorem dX4_putPieces_40 : decode cX4_putPieces 40 = .ok (.imul, 1) := by decide +kernel
theorem dX4_putPieces_41 : decode cX4_putPieces 41 = .ok (.invokevirtual 155, 3) := by decide +kernel
theorem dX4_putPieces_44 : decode cX4_putPieces 44 = .ok (.aload_n 0, 1) := by decide +kernel
theorem dX4_putPieces_45 : decode cX4_putPieces 45 = .ok (.getfield 28, 3) := by decide +kernel
theorem dX4_putPieces_48 : decode cX4_putPieces 48 = .ok (.iload_n 3, 1) := by decide +kernel
theorem dX4_putPieces_49 : decode cX4_putPieces 49 = .ok (.aload_n 0, 1) := by decide +kernel
theorem dX4_putPieces_50 : decode cX4_putPieces 50 = .ok (.getfield 39, 3) := by decide +kernel
theorem dX4_putPieces_53 : decode cX4_putPieces 53 = .ok (.iload 4, 2) := by decide +kernel
theorem dX4_putPieces_55 : decode cX4_putPieces 55 = .ok (.iload_n 2, 1) := by decide +kernel
theorem dX4_putPieces_56 : decode cX4_putPieces 56 = .ok (.imul, 1) := by decide +kernel
theorem dX4_putPieces_57 : decode cX4_putPieces 57 = .ok (.aload_n 0, 1) := by decide +kernel
theorem dX4_putPieces_58 : decode cX4_putPieces 58 = .ok (.getfield 12, 3) := by decide +kernel
theorem dX4_putPieces_61 : decode cX4_putPieces 61 = .ok (.getfield 158, 3) := by decide +kernel
theorem dX4_putPieces_64 : decode cX4_putPieces 64 = .ok (.iload_n 3, 1) := by decide +kernel
theorem dX4_putPieces_65 : decode cX4_putPieces 65 = .ok (.iaload, 1) := by decide +kernel
theorem dX4_putPieces_66 : decode cX4_putPieces 66 = .ok (.invokevirtual 161, 3) := by decide +kernel
theorem dX4_putPieces_69 : decode cX4_putPieces 69 = .ok (.iinc 3 1, 3) := by decide +kernel
theorem dX4_putPieces_72 : decode cX4_putPieces 72 = .ok (.goto (-70), 3) := by decide +kernel
theorem dX4_putPieces_75 : decode cX4_putPieces 75 = .ok (.return_, 1) := by decide +kernel
theorem dX4_pass_0 : decode cX4_pass 0 = .ok (.aload_n 0, 1) := by decide +kernel
theorem dX4_pass_1 : decode cX4_pass 1 = .ok (.getfield 21, 3) := by decide +kernel
theorem dX4_pass_4 : decode cX4_pass 4 = .ok (.iload_n 1, 1) := by decide +kernel
theorem dX4_pass_5 : decode cX4_pass 5 = .ok (.invokevirtual 165, 3) := by decide +kernel
theorem dX4_pass_8 : decode cX4_pass 8 = .ok (.aload_n 0, 1) := by decide +kernel
theorem dX4_pass_9 : decode cX4_pass 9 = .ok (.dup, 1) := by decide +kernel
theorem dX4_pass_10 : decode cX4_pass 10 = .ok (.getfield 59, 3) := by decide +kernel
theorem dX4_pass_13 : decode cX4_pass 13 = .ok (.iload_n 1, 1) := by decide +kernel
theorem dX4_pass_14 : decode cX4_pass 14 = .ok (.iadd, 1) := by decide +kernel
theorem dX4_pass_15 : decode cX4_pass 15 = .ok (.putfield 59, 3) := by decide +kernel
theorem dX4_pass_18 : decode cX4_pass 18 = .ok (.iconst 0, 1) := by decide +kernel
theorem dX4_pass_19 : decode cX4_pass 19 = .ok (.istore_n 2, 1) := by decide +kernel
theorem dX4_pass_20 : decode cX4_pass 20 = .ok (.iload_n 1, 1) := by decide +kernel
theorem dX4_pass_21 : decode cX4_pass 21 = .ok (.istore_n 3, 1) := by decide +kernel
theorem dX4_pass_22 : decode cX4_pass 22 = .ok (.iload_n 3, 1) := by decide +kernel
theorem dX4_pass_23 : decode cX4_pass 23 = .ok (.ifCond .le 82, 3) := by decide +kernel
theorem dX4_pass_26 : decode cX4_pass 26 = .ok (.iconst 1, 1) := by decide +kernel
theorem dX4_pass_27 : decode cX4_pass 27 = .ok (.aload_n 0, 1) := by decide +kernel
theorem dX4_pass_28 : decode cX4_pass 28 = .ok (.getfield 12, 3) := by decide +kernel
theorem dX4_pass_31 : decode cX4_pass 31 = .ok (.getfield 87, 3) := by decide +kernel
theorem dX4_pass_34 : decode cX4_pass 34 = .ok (.iconst 0, 1) := by decide +kernel
theorem dX4_pass_35 : decode cX4_pass 35 = .ok (.iaload, 1) := by decide +kernel
theorem dX4_pass_36 : decode cX4_pass 36 = .ok (.aload_n 0, 1) := by decide +kernel
theorem dX4_pass_37 : decode cX4_pass 37 = .ok (.getfield 65, 3) := by decide +kernel
theorem dX4_pass_40 : decode cX4_pass 40 = .ok (.isub, 1) := by decide +kernel
theorem dX4_pass_41 : decode cX4_pass 41 = .ok (.invokestatic 169, 3) := by decide +kernel
theorem dX4_pass_44 : decode cX4_pass 44 = .ok (.istore 4, 2) := by decide +kernel
theorem dX4_pass_46 : decode cX4_pass 46 = .ok (.iload 4, 2) := by decide +kernel
theorem dX4_pass_48 : decode cX4_pass 48 = .ok (.iload_n 3, 1) := by decide +kernel
theorem dX4_pass_49 : decode cX4_pass 49 = .ok (.if_icmp .le 15, 3) := by decide +kernel
theorem dX4_pass_52 : decode cX4_pass 52 = .ok (.aload_n 0, 1) := by decide +kernel
theorem dX4_pass_53 : decode cX4_pass 53 = .ok (.dup, 1) := by decide +kernel
theorem dX4_pass_54 : decode cX4_pass 54 = .ok (.getfield 65, 3) := by decide +kernel
theorem dX4_pass_57 : decode cX4_pass 57 = .ok (.iload_n 3, 1) := by decide +kernel
theorem dX4_pass_58 : decode cX4_pass 58 = .ok (.iadd, 1) := by decide +kernel
theorem dX4_pass_59 : decode cX4_pass 59 = .ok (.putfield 65, 3) := by decide +kernel
theorem dX4_pass_62 : decode cX4_pass 62 = .ok (.iload_n 2, 1) := by decide +kernel
theorem dX4_pass_63 : decode cX4_pass 63 = .ok (.ireturn, 1) := by decide +kernel
theorem dX4_pass_64 : decode cX4_pass 64 = .ok (.iload_n 3, 1) := by decide +kernel
theorem dX4_pass_65 : decode cX4_pass 65 = .ok (.iload 4, 2) := by decide +kernel
theorem dX4_pass_67 : decode cX4_pass 67 = .ok (.isub, 1) := by decide +kernel
theorem dX4_pass_68 : decode cX4_pass 68 = .ok (.istore_n 3, 1) := by decide +kernel
theorem dX4_pass_69 : decode cX4_pass 69 = .ok (.aload_n 0, 1) := by decide +kernel
theorem dX4_pass_70 : decode cX4_pass 70 = .ok (.iconst 0, 1) := by decide +kernel
theorem dX4_pass_71 : decode cX4_pass 71 = .ok (.putfield 65, 3) := by decide +kernel
theorem dX4_pass_74 : decode cX4_pass 74 = .ok (.aload_n 0, 1) := by decide +kernel
theorem dX4_pass_75 : decode cX4_pass 75 = .ok (.getfield 35, 3) := by decide +kernel
theorem dX4_pass_78 : decode cX4_pass 78 = .ok (.aload_n 0, 1) := by decide +kernel
theorem dX4_pass_79 : decode cX4_pass 79 = .ok (.getfield 62, 3) := by decide +kernel
theorem dX4_pass_82 : decode cX4_pass 82 = .ok (.aload_n 0, 1) := by decide +kernel
theorem dX4_pass_83 : decode cX4_pass 83 = .ok (.getfield 28, 3) := by decide +kernel
theorem dX4_pass_86 : decode cX4_pass 86 = .ok (.invokevirtual 174, 3) := by decide +kernel
theorem dX4_pass_89 : decode cX4_pass 89 = .ok (.aload_n 0, 1) := by decide +kernel
theorem dX4_pass_90 : decode cX4_pass 90 = .ok (.dup, 1) := by decide +kernel
theorem dX4_pass_91 : decode cX4_pass 91 = .ok (.getfield 62, 3) := by decide +kernel
theorem dX4_pass_94 : decode cX4_pass 94 = .ok (.iconst 1, 1) := by decide +kernel
theorem dX4_pass_95 : decode cX4_pass 95 = .ok (.iadd, 1) := by decide +kernel
theorem dX4_pass_96 : decode cX4_pass 96 = .ok (.putfield 62, 3) := by decide +kernel
theorem dX4_pass_99 : decode cX4_pass 99 = .ok (.iinc 2 1, 3) := by decide +kernel
theorem dX4_pass_102 : decode cX4_pass 102 = .ok (.goto (-80), 3) := by decide +kernel
theorem dX4_pass_105 : decode cX4_pass 105 = .ok (.iload_n 2, 1) := by decide +kernel
theorem dX4_pass_106 : decode cX4_pass 106 = .ok (.ireturn, 1) := by decide +kernel
theorem dX4_piecesFor_0 : decode cX4_piecesFor 0 = .ok (.aload_n 0, 1) := by decide +kernel
theorem dX4_piecesFor_1 : decode cX4_piecesFor 1 = .ok (.getfield 12, 3) := by decide +kernel
theorem dX4_piecesFor_4 : decode cX4_piecesFor 4 = .ok (.aload_n 0, 1) := by decide +kernel
theorem dX4_piecesFor_5 : decode cX4_piecesFor 5 = .ok (.getfield 43, 3) := by decide +kernel
theorem dX4_piecesFor_8 : decode cX4_piecesFor 8 = .ok (.aload_n 0, 1) := by decide +kernel
theorem dX4_piecesFor_9 : decode cX4_piecesFor 9 = .ok (.getfield 35, 3) := by decide +kernel
theorem dX4_piecesFor_12 : decode cX4_piecesFor 12 = .ok (.getfield 178, 3) := by decide +kernel
theorem dX4_piecesFor_15 : decode cX4_piecesFor 15 = .ok (.iload_n 1, 1) := by decide +kernel
theorem dX4_piecesFor_16 : decode cX4_piecesFor 16 = .ok (.iaload, 1) := by decide +kernel
theorem dX4_piecesFor_17 : decode cX4_piecesFor 17 = .ok (.invokevirtual 152, 3) := by decide +kernel
theorem dX4_piecesFor_20 : decode cX4_piecesFor 20 = .ok (.ireturn, 1) := by decide +kernel
theorem dX4_lackingPieces_0 : decode cX4_lackingPieces 0 = .ok (.aload_n 0, 1) := by decide +kernel
theorem dX4_lackingPieces_1 : decode cX4_lackingPieces 1 = .ok (.getfield 35, 3) := by decide +kernel
theorem dX4_lackingPieces_4 : decode cX4_lackingPieces 4 = .ok (.getfield 178, 3) := by decide +kernel
theorem dX4_lackingPieces_7 : decode cX4_lackingPieces 7 = .ok (.iload_n 1, 1) := by decide +kernel
theorem dX4_lackingPieces_8 : decode cX4_lackingPieces 8 = .ok (.iaload, 1) := by decide +kernel
theorem dX4_lackingPieces_9 : decode cX4_lackingPieces 9 = .ok (.istore_n 2, 1) := by decide +kernel
theorem dX4_lackingPieces_10 : decode cX4_lackingPieces 10 = .ok (.iload_n 2, 1) := by decide +kernel
theorem dX4_lackingPieces_11 : decode cX4_lackingPieces 11 = .ok (.bipush 6, 2) := by decide +kernel
theorem dX4_lackingPieces_13 : decode cX4_lackingPieces 13 = .ok (.imul, 1) := by decide +kernel
theorem dX4_lackingPieces_14 : decode cX4_lackingPieces 14 = .ok (.aload_n 0, 1) := by decide +kernel
theorem dX4_lackingPieces_15 : decode cX4_lackingPieces 15 = .ok (.getfield 35, 3) := by decide +kernel
theorem dX4_lackingPieces_18 : decode cX4_lackingPieces 18 = .ok (.getfield 181, 3) := by decide +kernel
theorem dX4_lackingPieces_21 : decode cX4_lackingPieces 21 = .ok (.iload_n 1, 1) := by decide +kernel
theorem dX4_lackingPieces_22 : decode cX4_lackingPieces 22 = .ok (.iaload, 1) := by decide +kernel
theorem dX4_lackingPieces_23 : decode cX4_lackingPieces 23 = .ok (.iadd, 1) := by decide +kernel
theorem dX4_lackingPieces_24 : decode cX4_lackingPieces 24 = .ok (.istore_n 3, 1) := by decide +kernel
theorem dX4_lackingPieces_25 : decode cX4_lackingPieces 25 = .ok (.aload_n 0, 1) := by decide +kernel
theorem dX4_lackingPieces_26 : decode cX4_lackingPieces 26 = .ok (.getfield 35, 3) := by decide +kernel
theorem dX4_lackingPieces_29 : decode cX4_lackingPieces 29 = .ok (.getfield 184, 3) := by decide +kernel
theorem dX4_lackingPieces_32 : decode cX4_lackingPieces 32 = .ok (.iload_n 1, 1) := by decide +kernel
theorem dX4_lackingPieces_33 : decode cX4_lackingPieces 33 = .ok (.iaload, 1) := by decide +kernel
theorem dX4_lackingPieces_34 : decode cX4_lackingPieces 34 = .ok (.aload_n 0, 1) := by decide +kernel
theorem dX4_lackingPieces_35 : decode cX4_lackingPieces 35 = .ok (.getfield 28, 3) := by decide +kernel
theorem dX4_lackingPieces_38 : decode cX4_lackingPieces 38 = .ok (.getfield 187, 3) := by decide +kernel
theorem dX4_lackingPieces_41 : decode cX4_lackingPieces 41 = .ok (.iload_n 3, 1) := by decide +kernel
theorem dX4_lackingPieces_42 : decode cX4_lackingPieces 42 = .ok (.iaload, 1) := by decide +kernel
theorem dX4_lackingPieces_43 : decode cX4_lackingPieces 43 = .ok (.isub, 1) := by decide +kernel
theorem dX4_lackingPieces_44 : decode cX4_lackingPieces 44 = .ok (.istore 4, 2) := by decide +kernel
theorem dX4_lackingPieces_46 : decode cX4_lackingPieces 46 = .ok (.iload 4, 2) := by decide +kernel
theorem dX4_lackingPieces_48 : decode cX4_lackingPieces 48 = .ok (.ifCond .gt 7, 3) := by decide +kernel
theorem dX4_lackingPieces_51 : decode cX4_lackingPieces 51 = .ok (.iconst 0, 1) := by decide +kernel
theorem dX4_lackingPieces_52 : decode cX4_lackingPieces 52 = .ok (.goto 25, 3) := by decide +kernel
theorem dX4_lackingPieces_55 : decode cX4_lackingPieces 55 = .ok (.iload 4, 2) := by decide +kernel
theorem dX4_lackingPieces_57 : decode cX4_lackingPieces 57 = .ok (.aload_n 0, 1) := by decide +kernel
theorem dX4_lackingPieces_58 : decode cX4_lackingPieces 58 = .ok (.getfield 12, 3) := by decide +kernel
theorem dX4_lackingPieces_61 : decode cX4_lackingPieces 61 = .ok (.getfield 158, 3) := by decide +kernel
theorem dX4_lackingPieces_64 : decode cX4_lackingPieces 64 = .ok (.iload_n 2, 1) := by decide +kernel
theorem dX4_lackingPieces_65 : decode cX4_lackingPieces 65 = .ok (.iaload, 1) := by decide +kernel
theorem dX4_lackingPieces_66 : decode cX4_lackingPieces 66 = .ok (.imul, 1) := by decide +kernel
theorem dX4_lackingPieces_67 : decode cX4_lackingPieces 67 = .ok (.aload_n 0, 1) := by decide +kernel
theorem dX4_lackingPieces_68 : decode cX4_lackingPieces 68 = .ok (.getfield 28, 3) := by decide +kernel
theorem dX4_lackingPieces_71 : decode cX4_lackingPieces 71 = .ok (.getfield 190, 3) := by decide +kernel
theorem dX4_lackingPieces_74 : decode cX4_lackingPieces 74 = .ok (.iload_n 3, 1) := by decide +kernel
theorem dX4_lackingPieces_75 : decode cX4_lackingPieces 75 = .ok (.iaload, 1) := by decide +kernel
theorem dX4_lackingPieces_76 : decode cX4_lackingPieces 76 = .ok (.isub, 1) := by decide +kernel
theorem dX4_lackingPieces_77 : decode cX4_lackingPieces 77 = .ok (.ireturn, 1) := by decide +kernel
theorem dX5_init_0 : decode cX5_init 0 = .ok (.aload_n 0, 1) := by decide +kernel
theorem dX5_init_1 : decode cX5_init 1 = .ok (.invokespecial 3, 3) := by decide +kernel
theorem dX5_init_4 : decode cX5_init 4 = .ok (.aload_n 0, 1) := by decide +kernel
theorem dX5_init_5 : decode cX5_init 5 = .ok (.bipush 9, 2) := by decide +kernel
theorem dX5_init_7 : decode cX5_init 7 = .ok (.anewarray 11, 3) := by decide +kernel
theorem dX5_init_10 : decode cX5_init 10 = .ok (.putfield 13, 3) := by decide +kernel
theorem dX5_init_13 : decode cX5_init 13 = .ok (.iconst 0, 1) := by decide +kernel
theorem dX5_init_14 : decode cX5_init 14 = .ok (.istore_n 1, 1) := by decide +kernel
theorem dX5_init_15 : decode cX5_init 15 = .ok (.iload_n 1, 1) := by decide +kernel
theorem dX5_init_16 : decode cX5_init 16 = .ok (.bipush 9, 2) := by decide +kernel
theorem dX5_init_18 : decode cX5_init 18 = .ok (.if_icmp .ge 22, 3) := by decide +kernel
theorem dX5_init_21 : decode cX5_init 21 = .ok (.aload_n 0, 1) := by decide +kernel
theorem dX5_init_22 : decode cX5_init 22 = .ok (.getfield 13, 3) := by decide +kernel
theorem dX5_init_25 : decode cX5_init 25 = .ok (.iload_n 1, 1) := by decide +kernel
theorem dX5_init_26 : decode cX5_init 26 = .ok (.new 11, 3) := by decide +kernel
theorem dX5_init_29 : decode cX5_init 29 = .ok (.dup, 1) := by decide +kernel
theorem dX5_init_30 : decode cX5_init 30 = .ok (.invokespecial 17, 3) := by decide +kernel
theorem dX5_init_33 : decode cX5_init 33 = .ok (.aastore, 1) := by decide +kernel
theorem dX5_init_34 : decode cX5_init 34 = .ok (.iinc 1 1, 3) := by decide +kernel
theorem dX5_init_37 : decode cX5_init 37 = .ok (.goto (-22), 3) := by decide +kernel
theorem dX5_init_40 : decode cX5_init 40 = .ok (.return_, 1) := by decide +kernel
theorem dX5_begin_0 : decode cX5_begin 0 = .ok (.aload_n 0, 1) := by decide +kernel
theorem dX5_begin_1 : decode cX5_begin 1 = .ok (.getfield 13, 3) := by decide +kernel
theorem dX5_begin_4 : decode cX5_begin 4 = .ok (.aload_n 0, 1) := by decide +kernel
theorem dX5_begin_5 : decode cX5_begin 5 = .ok (.invokevirtual 18, 3) := by decide +kernel
theorem dX5_begin_8 : decode cX5_begin 8 = .ok (.aaload, 1) := by decide +kernel
theorem dX5_begin_9 : decode cX5_begin 9 = .ok (.aload_n 1, 1) := by decide +kernel
theorem dX5_begin_10 : decode cX5_begin 10 = .ok (.invokevirtual 22, 3) := by decide +kernel
theorem dX5_begin_13 : decode cX5_begin 13 = .ok (.return_, 1) := by decide +kernel
theorem dX5_keep_0 : decode cX5_keep 0 = .ok (.aload_n 0, 1) := by decide +kernel
theorem dX5_keep_1 : decode cX5_keep 1 = .ok (.getfield 26, 3) := by decide +kernel
theorem dX5_keep_4 : decode cX5_keep 4 = .ok (.bipush 8, 2) := by decide +kernel
theorem dX5_keep_6 : decode cX5_keep 6 = .ok (.if_icmp .ge 16, 3) := by decide +kernel
theorem dX5_keep_9 : decode cX5_keep 9 = .ok (.aload_n 0, 1) := by decide +kernel
theorem dX5_keep_10 : decode cX5_keep 10 = .ok (.dup, 1) := by decide +kernel
theorem dX5_keep_11 : decode cX5_keep 11 = .ok (.getfield 26, 3) := by decide +kernel
theorem dX5_keep_14 : decode cX5_keep 14 = .ok (.iconst 1, 1) := by decide +kernel
theorem dX5_keep_15 : decode cX5_keep 15 = .ok (.iadd, 1) := by decide +kernel
theorem dX5_keep_16 : decode cX5_keep 16 = .ok (.putfield 26, 3) := by decide +kernel
theorem dX5_keep_19 : decode cX5_keep 19 = .ok (.goto 16, 3) := by decide +kernel
theorem dX5_keep_22 : decode cX5_keep 22 = .ok (.aload_n 0, 1) := by decide +kernel
theorem dX5_keep_23 : decode cX5_keep 23 = .ok (.aload_n 0, 1) := by decide +kernel
theorem dX5_keep_24 : decode cX5_keep 24 = .ok (.getfield 30, 3) := by decide +kernel
theorem dX5_keep_27 : decode cX5_keep 27 = .ok (.iconst 1, 1) := by decide +kernel
theorem dX5_keep_28 : decode cX5_keep 28 = .ok (.iadd, 1) := by decide +kernel
theorem dX5_keep_29 : decode cX5_keep 29 = .ok (.bipush 9, 2) := by decide +kernel
theorem dX5_keep_31 : decode cX5_keep 31 = .ok (.irem, 1) := by decide +kernel
theorem dX5_keep_32 : decode cX5_keep 32 = .ok (.putfield 30, 3) := by decide +kernel
theorem dX5_keep_35 : decode cX5_keep 35 = .ok (.return_, 1) := by decide +kernel
theorem dX5_rollBack_0 : decode cX5_rollBack 0 = .ok (.aload_n 1, 1) := by decide +kernel
theorem dX5_rollBack_1 : decode cX5_rollBack 1 = .ok (.aload_n 0, 1) := by decide +kernel
theorem dX5_rollBack_2 : decode cX5_rollBack 2 = .ok (.getfield 13, 3) := by decide +kernel
theorem dX5_rollBack_5 : decode cX5_rollBack 5 = .ok (.aload_n 0, 1) := by decide +kernel
theorem dX5_rollBack_6 : decode cX5_rollBack 6 = .ok (.invokevirtual 18, 3) := by decide +kernel
theorem dX5_rollBack_9 : decode cX5_rollBack 9 = .ok (.aaload, 1) := by decide +kernel
theorem dX5_rollBack_10 : decode cX5_rollBack 10 = .ok (.invokevirtual 22, 3) := by decide +kernel
theorem dX5_rollBack_13 : decode cX5_rollBack 13 = .ok (.return_, 1) := by decide +kernel
theorem dX5_takeBack_0 : decode cX5_takeBack 0 = .ok (.aload_n 0, 1) := by decide +kernel
theorem dX5_takeBack_1 : decode cX5_takeBack 1 = .ok (.getfield 26, 3) := by decide +kernel
theorem dX5_takeBack_4 : decode cX5_takeBack 4 = .ok (.ifCond .le 26, 3) := by decide +kernel
theorem dX5_takeBack_7 : decode cX5_takeBack 7 = .ok (.aload_n 0, 1) := by decide +kernel
theorem dX5_takeBack_8 : decode cX5_takeBack 8 = .ok (.dup, 1) := by decide +kernel
theorem dX5_takeBack_9 : decode cX5_takeBack 9 = .ok (.getfield 26, 3) := by decide +kernel
theorem dX5_takeBack_12 : decode cX5_takeBack 12 = .ok (.iconst 1, 1) := by decide +kernel
theorem dX5_takeBack_13 : decode cX5_takeBack 13 = .ok (.isub, 1) := by decide +kernel
theorem dX5_takeBack_14 : decode cX5_takeBack 14 = .ok (.putfield 26, 3) := by decide +kernel
theorem dX5_takeBack_17 : decode cX5_takeBack 17 = .ok (.aload_n 1, 1) := by decide +kernel
theorem dX5_takeBack_18 : decode cX5_takeBack 18 = .ok (.aload_n 0, 1) := by decide +kernel
theorem dX5_takeBack_19 : decode cX5_takeBack 19 = .ok (.getfield 13, 3) := by decide +kernel
theorem dX5_takeBack_22 : decode cX5_takeBack 22 = .ok (.aload_n 0, 1) := by decide +kernel
theorem dX5_takeBack_23 : decode cX5_takeBack 23 = .ok (.invokevirtual 18, 3) := by decide +kernel
theorem dX5_takeBack_26 : decode cX5_takeBack 26 = .ok (.aaload, 1) := by decide +kernel
theorem dX5_takeBack_27 : decode cX5_takeBack 27 = .ok (.invokevirtual 22, 3) := by decide +kernel
theorem dX5_takeBack_30 : decode cX5_takeBack 30 = .ok (.return_, 1) := by decide +kernel
theorem dX5_forget_0 : decode cX5_forget 0 = .ok (.aload_n 0, 1) := by decide +kernel
theorem dX5_forget_1 : decode cX5_forget 1 = .ok (.iconst 0, 1) := by decide +kernel
theorem dX5_forget_2 : decode cX5_forget 2 = .ok (.putfield 26, 3) := by decide +kernel
theorem dX5_forget_5 : decode cX5_forget 5 = .ok (.return_, 1) := by decide +kernel
theorem dX5_roomBehind_0 : decode cX5_roomBehind 0 = .ok (.aload_n 0, 1) := by decide +kernel
theorem dX5_roomBehind_1 : decode cX5_roomBehind 1 = .ok (.getfield 30, 3) := by decide +kernel
theorem dX5_roomBehind_4 : decode cX5_roomBehind 4 = .ok (.aload_n 0, 1) := by decide +kernel
theorem dX5_roomBehind_5 : decode cX5_roomBehind 5 = .ok (.getfield 26, 3) := by decide +kernel
theorem dX5_roomBehind_8 : decode cX5_roomBehind 8 = .ok (.iadd, 1) := by decide +kernel
theorem dX5_roomBehind_9 : decode cX5_roomBehind 9 = .ok (.bipush 9, 2) := by decide +kernel
theorem dX5_roomBehind_11 : decode cX5_roomBehind 11 = .ok (.irem, 1) := by decide +kernel
theorem dX5_roomBehind_12 : decode cX5_roomBehind 12 = .ok (.ireturn, 1) := by decide +kernel
theorem dX6_init_0 : decode cX6_init 0 = .ok (.aload_n 0, 1) := by decide +kernel
theorem dX6_init_1 : decode cX6_init 1 = .ok (.invokespecial 3, 3) := by decide +kernel
theorem dX6_init_4 : decode cX6_init 4 = .ok (.aload_n 0, 1) := by decide +kernel
theorem dX6_init_5 : decode cX6_init 5 = .ok (.bipush 10, 2) := by decide +kernel
theorem dX6_init_7 : decode cX6_init 7 = .ok (.newarray .int, 2) := by decide +kernel
theorem dX6_init_9 : decode cX6_init 9 = .ok (.putfield 9, 3) := by decide +kernel
theorem dX6_init_12 : decode cX6_init 12 = .ok (.aload_n 0, 1) := by decide +kernel
theorem dX6_init_13 : decode cX6_init 13 = .ok (.bipush 10, 2) := by decide +kernel
theorem dX6_init_15 : decode cX6_init 15 = .ok (.newarray .int, 2) := by decide +kernel
theorem dX6_init_17 : decode cX6_init 17 = .ok (.putfield 15, 3) := by decide +kernel
theorem dX6_init_20 : decode cX6_init 20 = .ok (.aload_n 0, 1) := by decide +kernel
theorem dX6_init_21 : decode cX6_init 21 = .ok (.bipush 10, 2) := by decide +kernel
theorem dX6_init_23 : decode cX6_init 23 = .ok (.newarray .int, 2) := by decide +kernel
theorem dX6_init_25 : decode cX6_init 25 = .ok (.putfield 18, 3) := by decide +kernel
theorem dX6_init_28 : decode cX6_init 28 = .ok (.aload_n 0, 1) := by decide +kernel
theorem dX6_init_29 : decode cX6_init 29 = .ok (.bipush 10, 2) := by decide +kernel
theorem dX6_init_31 : decode cX6_init 31 = .ok (.newarray .int, 2) := by decide +kernel
theorem dX6_init_33 : decode cX6_init 33 = .ok (.putfield 21, 3) := by decide +kernel
theorem dX6_init_36 : decode cX6_init 36 = .ok (.aload_n 0, 1) := by decide +kernel
theorem dX6_init_37 : decode cX6_init 37 = .ok (.bipush 10, 2) := by decide +kernel
theorem dX6_init_39 : decode cX6_init 39 = .ok (.newarray .int, 2) := by decide +kernel
theorem dX6_init_41 : decode cX6_init 41 = .ok (.putfield 24, 3) := by decide +kernel
theorem dX6_init_44 : decode cX6_init 44 = .ok (.aload_n 0, 1) := by decide +kernel
theorem dX6_init_45 : decode cX6_init 45 = .ok (.bipush 10, 2) := by decide +kernel
theorem dX6_init_47 : decode cX6_init 47 = .ok (.newarray .int, 2) := by decide +kernel
theorem dX6_init_49 : decode cX6_init 49 = .ok (.putfield 27, 3) := by decide +kernel
theorem dX6_init_52 : decode cX6_init 52 = .ok (.return_, 1) := by decide +kernel
theorem dX6_copyFrom_0 : decode cX6_copyFrom 0 = .ok (.aload_n 0, 1) := by decide +kernel
theorem dX6_copyFrom_1 : decode cX6_copyFrom 1 = .ok (.aload_n 1, 1) := by decide +kernel
theorem dX6_copyFrom_2 : decode cX6_copyFrom 2 = .ok (.getfield 30, 3) := by decide +kernel
theorem dX6_copyFrom_5 : decode cX6_copyFrom 5 = .ok (.putfield 30, 3) := by decide +kernel
theorem dX6_copyFrom_8 : decode cX6_copyFrom 8 = .ok (.aload_n 1, 1) := by decide +kernel
theorem dX6_copyFrom_9 : decode cX6_copyFrom 9 = .ok (.getfield 9, 3) := by decide +kernel
theorem dX6_copyFrom_12 : decode cX6_copyFrom 12 = .ok (.aload_n 0, 1) := by decide +kernel
theorem dX6_copyFrom_13 : decode cX6_copyFrom 13 = .ok (.getfield 9, 3) := by decide +kernel
theorem dX6_copyFrom_16 : decode cX6_copyFrom 16 = .ok (.invokestatic 34, 3) := by decide +kernel
theorem dX6_copyFrom_19 : decode cX6_copyFrom 19 = .ok (.aload_n 1, 1) := by decide +kernel
theorem dX6_copyFrom_20 : decode cX6_copyFrom 20 = .ok (.getfield 15, 3) := by decide +kernel
theorem dX6_copyFrom_23 : decode cX6_copyFrom 23 = .ok (.aload_n 0, 1) := by decide +kernel
theorem dX6_copyFrom_24 : decode cX6_copyFrom 24 = .ok (.getfield 15, 3) := by decide +kernel
theorem dX6_copyFrom_27 : decode cX6_copyFrom 27 = .ok (.invokestatic 34, 3) := by decide +kernel
theorem dX6_copyFrom_30 : decode cX6_copyFrom 30 = .ok (.aload_n 1, 1) := by decide +kernel
theorem dX6_copyFrom_31 : decode cX6_copyFrom 31 = .ok (.getfield 18, 3) := by decide +kernel
theorem dX6_copyFrom_34 : decode cX6_copyFrom 34 = .ok (.aload_n 0, 1) := by decide +kernel
theorem dX6_copyFrom_35 : decode cX6_copyFrom 35 = .ok (.getfield 18, 3) := by decide +kernel
theorem dX6_copyFrom_38 : decode cX6_copyFrom 38 = .ok (.invokestatic 34, 3) := by decide +kernel
theorem dX6_copyFrom_41 : decode cX6_copyFrom 41 = .ok (.aload_n 1, 1) := by decide +kernel
theorem dX6_copyFrom_42 : decode cX6_copyFrom 42 = .ok (.getfield 21, 3) := by decide +kernel
theorem dX6_copyFrom_45 : decode cX6_copyFrom 45 = .ok (.aload_n 0, 1) := by decide +kernel
theorem dX6_copyFrom_46 : decode cX6_copyFrom 46 = .ok (.getfield 21, 3) := by decide +kernel
theorem dX6_copyFrom_49 : decode cX6_copyFrom 49 = .ok (.invokestatic 34, 3) := by decide +kernel
theorem dX6_copyFrom_52 : decode cX6_copyFrom 52 = .ok (.aload_n 1, 1) := by decide +kernel
theorem dX6_copyFrom_53 : decode cX6_copyFrom 53 = .ok (.getfield 24, 3) := by decide +kernel
theorem dX6_copyFrom_56 : decode cX6_copyFrom 56 = .ok (.aload_n 0, 1) := by decide +kernel
theorem dX6_copyFrom_57 : decode cX6_copyFrom 57 = .ok (.getfield 24, 3) := by decide +kernel
theorem dX6_copyFrom_60 : decode cX6_copyFrom 60 = .ok (.invokestatic 34, 3) := by decide +kernel
theorem dX6_copyFrom_63 : decode cX6_copyFrom 63 = .ok (.aload_n 1, 1) := by decide +kernel
theorem dX6_copyFrom_64 : decode cX6_copyFrom 64 = .ok (.getfield 27, 3) := by decide +kernel
theorem dX6_copyFrom_67 : decode cX6_copyFrom 67 = .ok (.aload_n 0, 1) := by decide +kernel
theorem dX6_copyFrom_68 : decode cX6_copyFrom 68 = .ok (.getfield 27, 3) := by decide +kernel
theorem dX6_copyFrom_71 : decode cX6_copyFrom 71 = .ok (.invokestatic 34, 3) := by decide +kernel
theorem dX6_copyFrom_74 : decode cX6_copyFrom 74 = .ok (.return_, 1) := by decide +kernel
theorem dX6_isOrder_0 : decode cX6_isOrder 0 = .ok (.iload_n 1, 1) := by decide +kernel
theorem dX6_isOrder_1 : decode cX6_isOrder 1 = .ok (.iconst 0, 1) := by decide +kernel
theorem dX6_isOrder_2 : decode cX6_isOrder 2 = .ok (.aload_n 0, 1) := by decide +kernel
theorem dX6_isOrder_3 : decode cX6_isOrder 3 = .ok (.getfield 30, 3) := by decide +kernel
theorem dX6_isOrder_6 : decode cX6_isOrder 6 = .ok (.iconst 1, 1) := by decide +kernel
theorem dX6_isOrder_7 : decode cX6_isOrder 7 = .ok (.isub, 1) := by decide +kernel
theorem dX6_isOrder_8 : decode cX6_isOrder 8 = .ok (.invokestatic 38, 3) := by decide +kernel
theorem dX6_isOrder_11 : decode cX6_isOrder 11 = .ok (.ireturn, 1) := by decide +kernel
theorem dX6_isOpen_0 : decode cX6_isOpen 0 = .ok (.aload_n 0, 1) := by decide +kernel
theorem dX6_isOpen_1 : decode cX6_isOpen 1 = .ok (.getfield 24, 3) := by decide +kernel
theorem dX6_isOpen_4 : decode cX6_isOpen 4 = .ok (.iload_n 1, 1) := by decide +kernel
theorem dX6_isOpen_5 : decode cX6_isOpen 5 = .ok (.iaload, 1) := by decide +kernel
theorem dX6_isOpen_6 : decode cX6_isOpen 6 = .ok (.ifCond .ne 7, 3) := by decide +kernel
theorem dX6_isOpen_9 : decode cX6_isOpen 9 = .ok (.iconst 1, 1) := by decide +kernel
theorem dX6_isOpen_10 : decode cX6_isOpen 10 = .ok (.goto 4, 3) := by decide +kernel
theorem dX6_isOpen_13 : decode cX6_isOpen 13 = .ok (.iconst 0, 1) := by decide +kernel
theorem dX6_isOpen_14 : decode cX6_isOpen 14 = .ok (.ireturn, 1) := by decide +kernel
theorem dX6_add_0 : decode cX6_add 0 = .ok (.iload_n 3, 1) := by decide +kernel
theorem dX6_add_1 : decode cX6_add 1 = .ok (.iconst 1, 1) := by decide +kernel
theorem dX6_add_2 : decode cX6_add 2 = .ok (.bipush 20, 2) := by decide +kernel
theorem dX6_add_4 : decode cX6_add 4 = .ok (.invokestatic 38, 3) := by decide +kernel
theorem dX6_add_7 : decode cX6_add 7 = .ok (.ifCond .eq 14, 3) := by decide +kernel
theorem dX6_add_10 : decode cX6_add 10 = .ok (.iload 4, 2) := by decide +kernel
theorem dX6_add_12 : decode cX6_add 12 = .ok (.iconst 0, 1) := by decide +kernel
theorem dX6_add_13 : decode cX6_add 13 = .ok (.bipush 99, 2) := by decide +kernel
theorem dX6_add_15 : decode cX6_add 15 = .ok (.invokestatic 38, 3) := by decide +kernel
theorem dX6_add_18 : decode cX6_add 18 = .ok (.ifCond .ne 11, 3) := by decide +kernel
theorem dX6_add_21 : decode cX6_add 21 = .ok (.aload 5, 2) := by decide +kernel
theorem dX6_add_23 : decode cX6_add 23 = .ok (.iconst 2, 1) := by decide +kernel
theorem dX6_add_24 : decode cX6_add 24 = .ok (.iconst 0, 1) := by decide +kernel
theorem dX6_add_25 : decode cX6_add 25 = .ok (.invokevirtual 42, 3) := by decide +kernel
theorem dX6_add_28 : decode cX6_add 28 = .ok (.ireturn, 1) := by decide +kernel
theorem dX6_add_29 : decode cX6_add 29 = .ok (.aload_n 0, 1) := by decide +kernel
theorem dX6_add_30 : decode cX6_add 30 = .ok (.getfield 30, 3) := by decide +kernel
theorem dX6_add_33 : decode cX6_add 33 = .ok (.bipush 10, 2) := by decide +kernel
theorem dX6_add_35 : decode cX6_add 35 = .ok (.if_icmp .lt 11, 3) := by decide +kernel
theorem dX6_add_38 : decode cX6_add 38 = .ok (.aload 5, 2) := by decide +kernel
theorem dX6_add_40 : decode cX6_add 40 = .ok (.iconst 3, 1) := by decide +kernel
theorem dX6_add_41 : decode cX6_add 41 = .ok (.iconst 0, 1) := by decide +kernel
theorem dX6_add_42 : decode cX6_add 42 = .ok (.invokevirtual 42, 3) := by decide +kernel
theorem dX6_add_45 : decode cX6_add 45 = .ok (.ireturn, 1) := by decide +kernel
theorem dX6_add_46 : decode cX6_add 46 = .ok (.aload_n 0, 1) := by decide +kernel
theorem dX6_add_47 : decode cX6_add 47 = .ok (.getfield 9, 3) := by decide +kernel
theorem dX6_add_50 : decode cX6_add 50 = .ok (.aload_n 0, 1) := by decide +kernel
theorem dX6_add_51 : decode cX6_add 51 = .ok (.getfield 30, 3) := by decide +kernel
theorem dX6_add_54 : decode cX6_add 54 = .ok (.iload_n 1, 1) := by decide +kernel
theorem dX6_add_55 : decode cX6_add 55 = .ok (.iastore, 1) := by decide +kernel
theorem dX6_add_56 : decode cX6_add 56 = .ok (.aload_n 0, 1) := by decide +kernel
theorem dX6_add_57 : decode cX6_add 57 = .ok (.getfield 15, 3) := by decide +kernel
theorem dX6_add_60 : decode cX6_add 60 = .ok (.aload_n 0, 1) := by decide +kernel
theorem dX6_add_61 : decode cX6_add 61 = .ok (.getfield 30, 3) := by decide +kernel
theorem dX6_add_64 : decode cX6_add 64 = .ok (.iload_n 2, 1) := by decide +kernel
theorem dX6_add_65 : decode cX6_add 65 = .ok (.iastore, 1) := by decide +kernel
theorem dX6_add_66 : decode cX6_add 66 = .ok (.aload_n 0, 1) := by decide +kernel
theorem dX6_add_67 : decode cX6_add 67 = .ok (.getfield 18, 3) := by decide +kernel
theorem dX6_add_70 : decode cX6_add 70 = .ok (.aload_n 0, 1) := by decide +kernel
theorem dX6_add_71 : decode cX6_add 71 = .ok (.getfield 30, 3) := by decide +kernel
theorem dX6_add_74 : decode cX6_add 74 = .ok (.iload_n 3, 1) := by decide +kernel
theorem dX6_add_75 : decode cX6_add 75 = .ok (.iastore, 1) := by decide +kernel
theorem dX6_add_76 : decode cX6_add 76 = .ok (.aload_n 0, 1) := by decide +kernel
theorem dX6_add_77 : decode cX6_add 77 = .ok (.getfield 21, 3) := by decide +kernel
theorem dX6_add_80 : decode cX6_add 80 = .ok (.aload_n 0, 1) := by decide +kernel
theorem dX6_add_81 : decode cX6_add 81 = .ok (.getfield 30, 3) := by decide +kernel
theorem dX6_add_84 : decode cX6_add 84 = .ok (.iload 4, 2) := by decide +kernel
theorem dX6_add_86 : decode cX6_add 86 = .ok (.iastore, 1) := by decide +kernel
theorem dX6_add_87 : decode cX6_add 87 = .ok (.aload_n 0, 1) := by decide +kernel
theorem dX6_add_88 : decode cX6_add 88 = .ok (.getfield 24, 3) := by decide +kernel
theorem dX6_add_91 : decode cX6_add 91 = .ok (.aload_n 0, 1) := by decide +kernel
theorem dX6_add_92 : decode cX6_add 92 = .ok (.getfield 30, 3) := by decide +kernel
theorem dX6_add_95 : decode cX6_add 95 = .ok (.iconst 0, 1) := by decide +kernel
theorem dX6_add_96 : decode cX6_add 96 = .ok (.iastore, 1) := by decide +kernel
theorem dX6_add_97 : decode cX6_add 97 = .ok (.aload_n 0, 1) := by decide +kernel
theorem dX6_add_98 : decode cX6_add 98 = .ok (.getfield 27, 3) := by decide +kernel
theorem dX6_add_101 : decode cX6_add 101 = .ok (.aload_n 0, 1) := by decide +kernel
theorem dX6_add_102 : decode cX6_add 102 = .ok (.getfield 30, 3) := by decide +kernel
theorem dX6_add_105 : decode cX6_add 105 = .ok (.iconst 0, 1) := by decide +kernel
theorem dX6_add_106 : decode cX6_add 106 = .ok (.iastore, 1) := by decide +kernel
theorem dX6_add_107 : decode cX6_add 107 = .ok (.aload_n 0, 1) := by decide +kernel
theorem dX6_add_108 : decode cX6_add 108 = .ok (.dup, 1) := by decide +kernel
theorem dX6_add_109 : decode cX6_add 109 = .ok (.getfield 30, 3) := by decide +kernel
theorem dX6_add_112 : decode cX6_add 112 = .ok (.iconst 1, 1) := by decide +kernel
theorem dX6_add_113 : decode cX6_add 113 = .ok (.iadd, 1) := by decide +kernel
theorem dX6_add_114 : decode cX6_add 114 = .ok (.putfield 30, 3) := by decide +kernel
theorem dX6_add_117 : decode cX6_add 117 = .ok (.aload_n 0, 1) := by decide +kernel
theorem dX6_add_118 : decode cX6_add 118 = .ok (.getfield 30, 3) := by decide +kernel
theorem dX6_add_121 : decode cX6_add 121 = .ok (.iconst 1, 1) := by decide +kernel
theorem dX6_add_122 : decode cX6_add 122 = .ok (.isub, 1) := by decide +kernel
theorem dX6_add_123 : decode cX6_add 123 = .ok (.ireturn, 1) := by decide +kernel
theorem dX6_close_0 : decode cX6_close 0 = .ok (.aload_n 0, 1) := by decide +kernel
theorem dX6_close_1 : decode cX6_close 1 = .ok (.iload_n 1, 1) := by decide +kernel
theorem dX6_close_2 : decode cX6_close 2 = .ok (.invokevirtual 48, 3) := by decide +kernel
theorem dX6_close_5 : decode cX6_close 5 = .ok (.ifCond .ne 10, 3) := by decide +kernel
theorem dX6_close_8 : decode cX6_close 8 = .ok (.aload_n 2, 1) := by decide +kernel
theorem dX6_close_9 : decode cX6_close 9 = .ok (.iconst 1, 1) := by decide +kernel
theorem dX6_close_10 : decode cX6_close 10 = .ok (.iconst 0, 1) := by decide +kernel
theorem dX6_close_11 : decode cX6_close 11 = .ok (.invokevirtual 42, 3) := by decide +kernel
theorem dX6_close_14 : decode cX6_close 14 = .ok (.ireturn, 1) := by decide +kernel
theorem dX6_close_15 : decode cX6_close 15 = .ok (.aload_n 0, 1) := by decide +kernel
theorem dX6_close_16 : decode cX6_close 16 = .ok (.iload_n 1, 1) := by decide +kernel
theorem dX6_close_17 : decode cX6_close 17 = .ok (.invokevirtual 52, 3) := by decide +kernel
theorem dX6_close_20 : decode cX6_close 20 = .ok (.ifCond .ne 11, 3) := by decide +kernel
theorem dX6_close_23 : decode cX6_close 23 = .ok (.aload_n 2, 1) := by decide +kernel
theorem dX6_close_24 : decode cX6_close 24 = .ok (.bipush 9, 2) := by decide +kernel
theorem dX6_close_26 : decode cX6_close 26 = .ok (.iconst 0, 1) := by decide +kernel
theorem dX6_close_27 : decode cX6_close 27 = .ok (.invokevirtual 42, 3) := by decide +kernel
theorem dX6_close_30 : decode cX6_close 30 = .ok (.ireturn, 1) := by decide +kernel
theorem dX6_close_31 : decode cX6_close 31 = .ok (.aload_n 0, 1) := by decide +kernel
theorem dX6_close_32 : decode cX6_close 32 = .ok (.getfield 24, 3) := by decide +kernel
theorem dX6_close_35 : decode cX6_close 35 = .ok (.iload_n 1, 1) := by decide +kernel
theorem dX6_close_36 : decode cX6_close 36 = .ok (.iconst 2, 1) := by decide +kernel
theorem dX6_close_37 : decode cX6_close 37 = .ok (.iastore, 1) := by decide +kernel
theorem dX6_close_38 : decode cX6_close 38 = .ok (.aload_n 0, 1) := by decide +kernel
theorem dX6_close_39 : decode cX6_close 39 = .ok (.iconst 0, 1) := by decide +kernel
theorem dX6_close_40 : decode cX6_close 40 = .ok (.invokevirtual 55, 3) := by decide +kernel
theorem dX6_close_43 : decode cX6_close 43 = .ok (.ireturn, 1) := by decide +kernel
theorem dX6_endWeek_0 : decode cX6_endWeek 0 = .ok (.iconst 0, 1) := by decide +kernel
theorem dX6_endWeek_1 : decode cX6_endWeek 1 = .ok (.istore_n 3, 1) := by decide +kernel
theorem dX6_endWeek_2 : decode cX6_endWeek 2 = .ok (.iload_n 3, 1) := by decide +kernel
theorem dX6_endWeek_3 : decode cX6_endWeek 3 = .ok (.aload_n 0, 1) := by decide +kernel
theorem dX6_endWeek_4 : decode cX6_endWeek 4 = .ok (.getfield 30, 3) := by decide +kernel
theorem dX6_endWeek_7 : decode cX6_endWeek 7 = .ok (.if_icmp .ge 75, 3) := by decide +kernel
theorem dX6_endWeek_10 : decode cX6_endWeek 10 = .ok (.aload_n 0, 1) := by decide +kernel
theorem dX6_endWeek_11 : decode cX6_endWeek 11 = .ok (.iload_n 3, 1) := by decide +kernel
theorem dX6_endWeek_12 : decode cX6_endWeek 12 = .ok (.invokevirtual 52, 3) := by decide +kernel
theorem dX6_endWeek_15 : decode cX6_endWeek 15 = .ok (.ifCond .eq 61, 3) := by decide +kernel
theorem dX6_endWeek_18 : decode cX6_endWeek 18 = .ok (.aload_n 0, 1) := by decide +kernel
theorem dX6_endWeek_19 : decode cX6_endWeek 19 = .ok (.getfield 21, 3) := by decide +kernel
theorem dX6_endWeek_22 : decode cX6_endWeek 22 = .ok (.iload_n 3, 1) := by decide +kernel
theorem dX6_endWeek_23 : decode cX6_endWeek 23 = .ok (.iaload, 1) := by decide +kernel
theorem dX6_endWeek_24 : decode cX6_endWeek 24 = .ok (.iload_n 1, 1) := by decide +kernel
theorem dX6_endWeek_25 : decode cX6_endWeek 25 = .ok (.if_icmp .le 6, 3) := by decide +kernel
theorem dX6_endWeek_28 : decode cX6_endWeek 28 = .ok (.goto 48, 3) := by decide +kernel
theorem dX6_endWeek_31 : decode cX6_endWeek 31 = .ok (.aload_n 2, 1) := by decide +kernel
theorem dX6_endWeek_32 : decode cX6_endWeek 32 = .ok (.aload_n 0, 1) := by decide +kernel
theorem dX6_endWeek_33 : decode cX6_endWeek 33 = .ok (.getfield 9, 3) := by decide +kernel
theorem dX6_endWeek_36 : decode cX6_endWeek 36 = .ok (.iload_n 3, 1) := by decide +kernel
theorem dX6_endWeek_37 : decode cX6_endWeek 37 = .ok (.iaload, 1) := by decide +kernel
theorem dX6_endWeek_38 : decode cX6_endWeek 38 = .ok (.aload_n 0, 1) := by decide +kernel
theorem dX6_endWeek_39 : decode cX6_endWeek 39 = .ok (.getfield 15, 3) := by decide +kernel
theorem dX6_endWeek_42 : decode cX6_endWeek 42 = .ok (.iload_n 3, 1) := by decide +kernel
theorem dX6_endWeek_43 : decode cX6_endWeek 43 = .ok (.iaload, 1) := by decide +kernel
theorem dX6_endWeek_44 : decode cX6_endWeek 44 = .ok (.aload_n 0, 1) := by decide +kernel
theorem dX6_endWeek_45 : decode cX6_endWeek 45 = .ok (.getfield 18, 3) := by decide +kernel
theorem dX6_endWeek_48 : decode cX6_endWeek 48 = .ok (.iload_n 3, 1) := by decide +kernel
theorem dX6_endWeek_49 : decode cX6_endWeek 49 = .ok (.iaload, 1) := by decide +kernel
theorem dX6_endWeek_50 : decode cX6_endWeek 50 = .ok (.invokevirtual 59, 3) := by decide +kernel
theorem dX6_endWeek_53 : decode cX6_endWeek 53 = .ok (.ifCond .eq 13, 3) := by decide +kernel
theorem dX6_endWeek_56 : decode cX6_endWeek 56 = .ok (.aload_n 0, 1) := by decide +kernel
theorem dX6_endWeek_57 : decode cX6_endWeek 57 = .ok (.getfield 24, 3) := by decide +kernel
theorem dX6_endWeek_60 : decode cX6_endWeek 60 = .ok (.iload_n 3, 1) := by decide +kernel
theorem dX6_endWeek_61 : decode cX6_endWeek 61 = .ok (.iconst 1, 1) := by decide +kernel
theorem dX6_endWeek_62 : decode cX6_endWeek 62 = .ok (.iastore, 1) := by decide +kernel
theorem dX6_endWeek_63 : decode cX6_endWeek 63 = .ok (.goto 13, 3) := by decide +kernel
theorem dX6_endWeek_66 : decode cX6_endWeek 66 = .ok (.aload_n 0, 1) := by decide +kernel
theorem dX6_endWeek_67 : decode cX6_endWeek 67 = .ok (.getfield 27, 3) := by decide +kernel
theorem dX6_endWeek_70 : decode cX6_endWeek 70 = .ok (.iload_n 3, 1) := by decide +kernel
theorem dX6_endWeek_71 : decode cX6_endWeek 71 = .ok (.dup2, 1) := by decide +kernel
theorem dX6_endWeek_72 : decode cX6_endWeek 72 = .ok (.iaload, 1) := by decide +kernel
theorem dX6_endWeek_73 : decode cX6_endWeek 73 = .ok (.iconst 1, 1) := by decide +kernel
theorem dX6_endWeek_74 : decode cX6_endWeek 74 = .ok (.iadd, 1) := by decide +kernel
theorem dX6_endWeek_75 : decode cX6_endWeek 75 = .ok (.iastore, 1) := by decide +kernel
theorem dX6_endWeek_76 : decode cX6_endWeek 76 = .ok (.iinc 3 1, 3) := by decide +kernel
theorem dX6_endWeek_79 : decode cX6_endWeek 79 = .ok (.goto (-77), 3) := by decide +kernel
theorem dX6_endWeek_82 : decode cX6_endWeek 82 = .ok (.return_, 1) := by decide +kernel
theorem dX6_countOf_0 : decode cX6_countOf 0 = .ok (.iconst 0, 1) := by decide +kernel
theorem dX6_countOf_1 : decode cX6_countOf 1 = .ok (.istore_n 2, 1) := by decide +kernel
theorem dX6_countOf_2 : decode cX6_countOf 2 = .ok (.iconst 0, 1) := by decide +kernel
theorem dX6_countOf_3 : decode cX6_countOf 3 = .ok (.istore_n 3, 1) := by decide +kernel
theorem dX6_countOf_4 : decode cX6_countOf 4 = .ok (.iload_n 3, 1) := by decide +kernel
theorem dX6_countOf_5 : decode cX6_countOf 5 = .ok (.aload_n 0, 1) := by decide +kernel
theorem dX6_countOf_6 : decode cX6_countOf 6 = .ok (.getfield 30, 3) := by decide +kernel
theorem dX6_countOf_9 : decode cX6_countOf 9 = .ok (.if_icmp .ge 27, 3) := by decide +kernel
theorem dX6_countOf_12 : decode cX6_countOf 12 = .ok (.iload_n 2, 1) := by decide +kernel
theorem dX6_countOf_13 : decode cX6_countOf 13 = .ok (.aload_n 0, 1) := by decide +kernel
theorem dX6_countOf_14 : decode cX6_countOf 14 = .ok (.getfield 24, 3) := by decide +kernel
theorem dX6_countOf_17 : decode cX6_countOf 17 = .ok (.iload_n 3, 1) := by decide +kernel
theorem dX6_countOf_18 : decode cX6_countOf 18 = .ok (.iaload, 1) := by decide +kernel
theorem dX6_countOf_19 : decode cX6_countOf 19 = .ok (.iload_n 1, 1) := by decide +kernel
theorem dX6_countOf_20 : decode cX6_countOf 20 = .ok (.if_icmp .ne 7, 3) := by decide +kernel
theorem dX6_countOf_23 : decode cX6_countOf 23 = .ok (.iconst 1, 1) := by decide +kernel
theorem dX6_countOf_24 : decode cX6_countOf 24 = .ok (.goto 4, 3) := by decide +kernel
theorem dX6_countOf_27 : decode cX6_countOf 27 = .ok (.iconst 0, 1) := by decide +kernel
theorem dX6_countOf_28 : decode cX6_countOf 28 = .ok (.iadd, 1) := by decide +kernel
theorem dX6_countOf_29 : decode cX6_countOf 29 = .ok (.istore_n 2, 1) := by decide +kernel
theorem dX6_countOf_30 : decode cX6_countOf 30 = .ok (.iinc 3 1, 3) := by decide +kernel
theorem dX6_countOf_33 : decode cX6_countOf 33 = .ok (.goto (-29), 3) := by decide +kernel
theorem dX6_countOf_36 : decode cX6_countOf 36 = .ok (.iload_n 2, 1) := by decide +kernel
theorem dX6_countOf_37 : decode cX6_countOf 37 = .ok (.ireturn, 1) := by decide +kernel
theorem dX6_lateWeeksOfDelivered_0 : decode cX6_lateWeeksOfDelivered 0 = .ok (.iconst 0, 1) := by decide +kernel
theorem dX6_lateWeeksOfDelivered_1 : decode cX6_lateWeeksOfDelivered 1 = .ok (.istore_n 1, 1) := by decide +kernel
theorem dX6_lateWeeksOfDelivered_2 : decode cX6_lateWeeksOfDelivered 2 = .ok (.iconst 0, 1) := by decide +kernel
theorem dX6_lateWeeksOfDelivered_3 : decode cX6_lateWeeksOfDelivered 3 = .ok (.istore_n 2, 1) := by decide +kernel
theorem dX6_lateWeeksOfDelivered_4 : decode cX6_lateWeeksOfDelivered 4 = .ok (.iload_n 2, 1) := by decide +kernel
theorem dX6_lateWeeksOfDelivered_5 : decode cX6_lateWeeksOfDelivered 5 = .ok (.aload_n 0, 1) := by decide +kernel
theorem dX6_lateWeeksOfDelivered_6 : decode cX6_lateWeeksOfDelivered 6 = .ok (.getfield 30, 3) := by decide +kernel
theorem dX6_lateWeeksOfDelivered_9 : decode cX6_lateWeeksOfDelivered 9 = .ok (.if_icmp .ge 32, 3) := by decide +kernel
theorem dX6_lateWeeksOfDelivered_12 : decode cX6_lateWeeksOfDelivered 12 = .ok (.iload_n 1, 1) := by decide +kernel
theorem dX6_lateWeeksOfDelivered_13 : decode cX6_lateWeeksOfDelivered 13 = .ok (.aload_n 0, 1) := by decide +kernel
theorem dX6_lateWeeksOfDelivered_14 : decode cX6_lateWeeksOfDelivered 14 = .ok (.getfield 24, 3) := by decide +kernel
theorem dX6_lateWeeksOfDelivered_17 : decode cX6_lateWeeksOfDelivered 17 = .ok (.iload_n 2, 1) := by decide +kernel
theorem dX6_lateWeeksOfDelivered_18 : decode cX6_lateWeeksOfDelivered 18 = .ok (.iaload, 1) := by decide +kernel
theorem dX6_lateWeeksOfDelivered_19 : decode cX6_lateWeeksOfDelivered 19 = .ok (.iconst 1, 1) := by decide +kernel
theorem dX6_lateWeeksOfDelivered_20 : decode cX6_lateWeeksOfDelivered 20 = .ok (.if_icmp .ne 12, 3) := by decide +kernel
theorem dX6_lateWeeksOfDelivered_23 : decode cX6_lateWeeksOfDelivered 23 = .ok (.aload_n 0, 1) := by decide +kernel
theorem dX6_lateWeeksOfDelivered_24 : decode cX6_lateWeeksOfDelivered 24 = .ok (.getfield 27, 3) := by decide +kernel
theorem dX6_lateWeeksOfDelivered_27 : decode cX6_lateWeeksOfDelivered 27 = .ok (.iload_n 2, 1) := by decide +kernel
theorem dX6_lateWeeksOfDelivered_28 : decode cX6_lateWeeksOfDelivered 28 = .ok (.iaload, 1) := by decide +kernel
theorem dX6_lateWeeksOfDelivered_29 : decode cX6_lateWeeksOfDelivered 29 = .ok (.goto 4, 3) := by decide +kernel
theorem dX6_lateWeeksOfDelivered_32 : decode cX6_lateWeeksOfDelivered 32 = .ok (.iconst 0, 1) := by decide +kernel
theorem dX6_lateWeeksOfDelivered_33 : decode cX6_lateWeeksOfDelivered 33 = .ok (.iadd, 1) := by decide +kernel
theorem dX6_lateWeeksOfDelivered_34 : decode cX6_lateWeeksOfDelivered 34 = .ok (.istore_n 1, 1) := by decide +kernel
theorem dX6_lateWeeksOfDelivered_35 : decode cX6_lateWeeksOfDelivered 35 = .ok (.iinc 2 1, 3) := by decide +kernel
theorem dX6_lateWeeksOfDelivered_38 : decode cX6_lateWeeksOfDelivered 38 = .ok (.goto (-34), 3) := by decide +kernel
theorem dX6_lateWeeksOfDelivered_41 : decode cX6_lateWeeksOfDelivered 41 = .ok (.iload_n 1, 1) := by decide +kernel
theorem dX6_lateWeeksOfDelivered_42 : decode cX6_lateWeeksOfDelivered 42 = .ok (.ireturn, 1) := by decide +kernel
theorem dX6_openUpTo_0 : decode cX6_openUpTo 0 = .ok (.iconst 0, 1) := by decide +kernel
theorem dX6_openUpTo_1 : decode cX6_openUpTo 1 = .ok (.istore_n 2, 1) := by decide +kernel
theorem dX6_openUpTo_2 : decode cX6_openUpTo 2 = .ok (.iconst 0, 1) := by decide +kernel
theorem dX6_openUpTo_3 : decode cX6_openUpTo 3 = .ok (.istore_n 3, 1) := by decide +kernel
theorem dX6_openUpTo_4 : decode cX6_openUpTo 4 = .ok (.iload_n 3, 1) := by decide +kernel
theorem dX6_openUpTo_5 : decode cX6_openUpTo 5 = .ok (.aload_n 0, 1) := by decide +kernel
theorem dX6_openUpTo_6 : decode cX6_openUpTo 6 = .ok (.getfield 30, 3) := by decide +kernel
theorem dX6_openUpTo_9 : decode cX6_openUpTo 9 = .ok (.if_icmp .ge 37, 3) := by decide +kernel
theorem dX6_openUpTo_12 : decode cX6_openUpTo 12 = .ok (.iload_n 2, 1) := by decide +kernel
theorem dX6_openUpTo_13 : decode cX6_openUpTo 13 = .ok (.aload_n 0, 1) := by decide +kernel
theorem dX6_openUpTo_14 : decode cX6_openUpTo 14 = .ok (.iload_n 3, 1) := by decide +kernel
theorem dX6_openUpTo_15 : decode cX6_openUpTo 15 = .ok (.invokevirtual 52, 3) := by decide +kernel
theorem dX6_openUpTo_18 : decode cX6_openUpTo 18 = .ok (.ifCond .eq 19, 3) := by decide +kernel
theorem dX6_openUpTo_21 : decode cX6_openUpTo 21 = .ok (.aload_n 0, 1) := by decide +kernel
theorem dX6_openUpTo_22 : decode cX6_openUpTo 22 = .ok (.getfield 21, 3) := by decide +kernel
theorem dX6_openUpTo_25 : decode cX6_openUpTo 25 = .ok (.iload_n 3, 1) := by decide +kernel
theorem dX6_openUpTo_26 : decode cX6_openUpTo 26 = .ok (.iaload, 1) := by decide +kernel
theorem dX6_openUpTo_27 : decode cX6_openUpTo 27 = .ok (.iload_n 1, 1) := by decide +kernel
theorem dX6_openUpTo_28 : decode cX6_openUpTo 28 = .ok (.if_icmp .gt 9, 3) := by decide +kernel
theorem dX6_openUpTo_31 : decode cX6_openUpTo 31 = .ok (.iconst 1, 1) := by decide +kernel
theorem dX6_openUpTo_32 : decode cX6_openUpTo 32 = .ok (.iload_n 3, 1) := by decide +kernel
theorem dX6_openUpTo_33 : decode cX6_openUpTo 33 = .ok (.ishl, 1) := by decide +kernel
theorem dX6_openUpTo_34 : decode cX6_openUpTo 34 = .ok (.goto 4, 3) := by decide +kernel
theorem dX6_openUpTo_37 : decode cX6_openUpTo 37 = .ok (.iconst 0, 1) := by decide +kernel
theorem dX6_openUpTo_38 : decode cX6_openUpTo 38 = .ok (.ior, 1) := by decide +kernel
theorem dX6_openUpTo_39 : decode cX6_openUpTo 39 = .ok (.istore_n 2, 1) := by decide +kernel
theorem dX6_openUpTo_40 : decode cX6_openUpTo 40 = .ok (.iinc 3 1, 3) := by decide +kernel
theorem dX6_openUpTo_43 : decode cX6_openUpTo 43 = .ok (.goto (-39), 3) := by decide +kernel
theorem dX6_openUpTo_46 : decode cX6_openUpTo 46 = .ok (.iload_n 2, 1) := by decide +kernel
theorem dX6_openUpTo_47 : decode cX6_openUpTo 47 = .ok (.ireturn, 1) := by decide +kernel
theorem dX7_init_0 : decode cX7_init 0 = .ok (.aload_n 0, 1) := by decide +kernel
theorem dX7_init_1 : decode cX7_init 1 = .ok (.invokespecial 3, 3) := by decide +kernel
theorem dX7_init_4 : decode cX7_init 4 = .ok (.aload_n 0, 1) := by decide +kernel
theorem dX7_init_5 : decode cX7_init 5 = .ok (.bipush 40, 2) := by decide +kernel
theorem dX7_init_7 : decode cX7_init 7 = .ok (.newarray .int, 2) := by decide +kernel
theorem dX7_init_9 : decode cX7_init 9 = .ok (.putfield 11, 3) := by decide +kernel
theorem dX7_init_12 : decode cX7_init 12 = .ok (.aload_n 0, 1) := by decide +kernel
theorem dX7_init_13 : decode cX7_init 13 = .ok (.bipush 120, 2) := by decide +kernel
theorem dX7_init_15 : decode cX7_init 15 = .ok (.newarray .int, 2) := by decide +kernel
theorem dX7_init_17 : decode cX7_init 17 = .ok (.putfield 15, 3) := by decide +kernel
theorem dX7_init_20 : decode cX7_init 20 = .ok (.return_, 1) := by decide +kernel
theorem dX7_isReadFrom_0 : decode cX7_isReadFrom 0 = .ok (.aload_n 1, 1) := by decide +kernel
theorem dX7_isReadFrom_1 : decode cX7_isReadFrom 1 = .ok (.invokevirtual 18, 3) := by decide +kernel
theorem dX7_isReadFrom_4 : decode cX7_isReadFrom 4 = .ok (.aload_n 0, 1) := by decide +kernel
theorem dX7_isReadFrom_5 : decode cX7_isReadFrom 5 = .ok (.iconst 0, 1) := by decide +kernel
theorem dX7_isReadFrom_6 : decode cX7_isReadFrom 6 = .ok (.putfield 23, 3) := by decide +kernel
theorem dX7_isReadFrom_9 : decode cX7_isReadFrom 9 = .ok (.aload_n 1, 1) := by decide +kernel
theorem dX7_isReadFrom_10 : decode cX7_isReadFrom 10 = .ok (.aload_n 0, 1) := by decide +kernel
theorem dX7_isReadFrom_11 : decode cX7_isReadFrom 11 = .ok (.aload_n 1, 1) := by decide +kernel
theorem dX7_isReadFrom_12 : decode cX7_isReadFrom 12 = .ok (.invokevirtual 27, 3) := by decide +kernel
theorem dX7_isReadFrom_15 : decode cX7_isReadFrom 15 = .ok (.invokevirtual 31, 3) := by decide +kernel
theorem dX7_isReadFrom_18 : decode cX7_isReadFrom 18 = .ok (.ireturn, 1) := by decide +kernel
theorem dX7_areCommandsRead_0 : decode cX7_areCommandsRead 0 = .ok (.iconst 0, 1) := by decide +kernel
theorem dX7_areCommandsRead_1 : decode cX7_areCommandsRead 1 = .ok (.istore_n 2, 1) := by decide +kernel
theorem dX7_areCommandsRead_2 : decode cX7_areCommandsRead 2 = .ok (.iload_n 2, 1) := by decide +kernel
theorem dX7_areCommandsRead_3 : decode cX7_areCommandsRead 3 = .ok (.bipush 40, 2) := by decide +kernel
theorem dX7_areCommandsRead_5 : decode cX7_areCommandsRead 5 = .ok (.if_icmp .ge 49, 3) := by decide +kernel
theorem dX7_areCommandsRead_8 : decode cX7_areCommandsRead 8 = .ok (.iload_n 2, 1) := by decide +kernel
theorem dX7_areCommandsRead_9 : decode cX7_areCommandsRead 9 = .ok (.ifCond .le 12, 3) := by decide +kernel
theorem dX7_areCommandsRead_12 : decode cX7_areCommandsRead 12 = .ok (.aload_n 1, 1) := by decide +kernel
theorem dX7_areCommandsRead_13 : decode cX7_areCommandsRead 13 = .ok (.bipush 59, 2) := by decide +kernel
theorem dX7_areCommandsRead_15 : decode cX7_areCommandsRead 15 = .ok (.invokevirtual 35, 3) := by decide +kernel
theorem dX7_areCommandsRead_18 : decode cX7_areCommandsRead 18 = .ok (.ifCond .eq 12, 3) := by decide +kernel
theorem dX7_areCommandsRead_21 : decode cX7_areCommandsRead 21 = .ok (.aload_n 0, 1) := by decide +kernel
theorem dX7_areCommandsRead_22 : decode cX7_areCommandsRead 22 = .ok (.aload_n 1, 1) := by decide +kernel
theorem dX7_areCommandsRead_23 : decode cX7_areCommandsRead 23 = .ok (.iload_n 2, 1) := by decide +kernel
theorem dX7_areCommandsRead_24 : decode cX7_areCommandsRead 24 = .ok (.invokevirtual 39, 3) := by decide +kernel
theorem dX7_areCommandsRead_27 : decode cX7_areCommandsRead 27 = .ok (.ifCond .ne 5, 3) := by decide +kernel
theorem dX7_areCommandsRead_30 : decode cX7_areCommandsRead 30 = .ok (.iconst 0, 1) := by decide +kernel
theorem dX7_areCommandsRead_31 : decode cX7_areCommandsRead 31 = .ok (.ireturn, 1) := by decide +kernel
theorem dX7_areCommandsRead_32 : decode cX7_areCommandsRead 32 = .ok (.aload_n 0, 1) := by decide +kernel
theorem dX7_areCommandsRead_33 : decode cX7_areCommandsRead 33 = .ok (.iload_n 2, 1) := by decide +kernel
theorem dX7_areCommandsRead_34 : decode cX7_areCommandsRead 34 = .ok (.iconst 1, 1) := by decide +kernel
theorem dX7_areCommandsRead_35 : decode cX7_areCommandsRead 35 = .ok (.iadd, 1) := by decide +kernel
theorem dX7_areCommandsRead_36 : decode cX7_areCommandsRead 36 = .ok (.putfield 23, 3) := by decide +kernel
theorem dX7_areCommandsRead_39 : decode cX7_areCommandsRead 39 = .ok (.aload_n 1, 1) := by decide +kernel
theorem dX7_areCommandsRead_40 : decode cX7_areCommandsRead 40 = .ok (.invokevirtual 43, 3) := by decide +kernel
theorem dX7_areCommandsRead_43 : decode cX7_areCommandsRead 43 = .ok (.ifCond .eq 5, 3) := by decide +kernel
theorem dX7_areCommandsRead_46 : decode cX7_areCommandsRead 46 = .ok (.iconst 1, 1) := by decide +kernel
theorem dX7_areCommandsRead_47 : decode cX7_areCommandsRead 47 = .ok (.ireturn, 1) := by decide +kernel
theorem dX7_areCommandsRead_48 : decode cX7_areCommandsRead 48 = .ok (.iinc 2 1, 3) := by decide +kernel
theorem dX7_areCommandsRead_51 : decode cX7_areCommandsRead 51 = .ok (.goto (-49), 3) := by decide +kernel
theorem dX7_areCommandsRead_54 : decode cX7_areCommandsRead 54 = .ok (.iconst 0, 1) := by decide +kernel
theorem dX7_areCommandsRead_55 : decode cX7_areCommandsRead 55 = .ok (.ireturn, 1) := by decide +kernel
theorem dX7_isCommandRead_0 : decode cX7_isCommandRead 0 = .ok (.aload_n 1, 1) := by decide +kernel
theorem dX7_isCommandRead_1 : decode cX7_isCommandRead 1 = .ok (.bipush 109, 2) := by decide +kernel
theorem dX7_isCommandRead_3 : decode cX7_isCommandRead 3 = .ok (.invokevirtual 35, 3) := by decide +kernel
theorem dX7_isCommandRead_6 : decode cX7_isCommandRead 6 = .ok (.ifCond .eq 19, 3) := by decide +kernel
theorem dX7_isCommandRead_9 : decode cX7_isCommandRead 9 = .ok (.aload_n 0, 1) := by decide +kernel
theorem dX7_isCommandRead_10 : decode cX7_isCommandRead 10 = .ok (.getfield 11, 3) := by decide +kernel
theorem dX7_isCommandRead_13 : decode cX7_isCommandRead 13 = .ok (.iload_n 2, 1) := by decide +kernel
theorem dX7_isCommandRead_14 : decode cX7_isCommandRead 14 = .ok (.iconst 0, 1) := by decide +kernel
theorem dX7_isCommandRead_15 : decode cX7_isCommandRead 15 = .ok (.iastore, 1) := by decide +kernel
theorem dX7_isCommandRead_16 : decode cX7_isCommandRead 16 = .ok (.aload_n 0, 1) := by decide +kernel
theorem dX7_isCommandRead_17 : decode cX7_isCommandRead 17 = .ok (.aload_n 1, 1) := by decide +kernel
theorem dX7_isCommandRead_18 : decode cX7_isCommandRead 18 = .ok (.iload_n 2, 1) := by decide +kernel
theorem dX7_isCommandRead_19 : decode cX7_isCommandRead 19 = .ok (.iconst 0, 1) := by decide +kernel
theorem dX7_isCommandRead_20 : decode cX7_isCommandRead 20 = .ok (.iconst 1, 1) := by decide +kernel
theorem dX7_isCommandRead_21 : decode cX7_isCommandRead 21 = .ok (.invokevirtual 47, 3) := by decide +kernel
theorem dX7_isCommandRead_24 : decode cX7_isCommandRead 24 = .ok (.ireturn, 1) := by decide +kernel
theorem dX7_isCommandRead_25 : decode cX7_isCommandRead 25 = .ok (.aload_n 1, 1) := by decide +kernel
theorem dX7_isCommandRead_26 : decode cX7_isCommandRead 26 = .ok (.bipush 114, 2) := by decide +kernel
theorem dX7_isCommandRead_28 : decode cX7_isCommandRead 28 = .ok (.invokevirtual 35, 3) := by decide +kernel
theorem dX7_isCommandRead_31 : decode cX7_isCommandRead 31 = .ok (.ifCond .eq 47, 3) := by decide +kernel
theorem dX7_isCommandRead_34 : decode cX7_isCommandRead 34 = .ok (.aload_n 0, 1) := by decide +kernel
theorem dX7_isCommandRead_35 : decode cX7_isCommandRead 35 = .ok (.getfield 11, 3) := by decide +kernel
theorem dX7_isCommandRead_38 : decode cX7_isCommandRead 38 = .ok (.iload_n 2, 1) := by decide +kernel
theorem dX7_isCommandRead_39 : decode cX7_isCommandRead 39 = .ok (.iconst 1, 1) := by decide +kernel
theorem dX7_isCommandRead_40 : decode cX7_isCommandRead 40 = .ok (.iastore, 1) := by decide +kernel
theorem dX7_isCommandRead_41 : decode cX7_isCommandRead 41 = .ok (.aload_n 0, 1) := by decide +kernel
theorem dX7_isCommandRead_42 : decode cX7_isCommandRead 42 = .ok (.aload_n 1, 1) := by decide +kernel
theorem dX7_isCommandRead_43 : decode cX7_isCommandRead 43 = .ok (.iload_n 2, 1) := by decide +kernel
theorem dX7_isCommandRead_44 : decode cX7_isCommandRead 44 = .ok (.iconst 0, 1) := by decide +kernel
theorem dX7_isCommandRead_45 : decode cX7_isCommandRead 45 = .ok (.iconst 1, 1) := by decide +kernel
theorem dX7_isCommandRead_46 : decode cX7_isCommandRead 46 = .ok (.invokevirtual 47, 3) := by decide +kernel
theorem dX7_isCommandRead_49 : decode cX7_isCommandRead 49 = .ok (.ifCond .eq 27, 3) := by decide +kernel
theorem dX7_isCommandRead_52 : decode cX7_isCommandRead 52 = .ok (.aload_n 1, 1) := by decide +kernel
theorem dX7_isCommandRead_53 : decode cX7_isCommandRead 53 = .ok (.bipush 120, 2) := by decide +kernel
theorem dX7_isCommandRead_55 : decode cX7_isCommandRead 55 = .ok (.invokevirtual 35, 3) := by decide +kernel
theorem dX7_isCommandRead_58 : decode cX7_isCommandRead 58 = .ok (.ifCond .eq 18, 3) := by decide +kernel
theorem dX7_isCommandRead_61 : decode cX7_isCommandRead 61 = .ok (.aload_n 0, 1) := by decide +kernel
theorem dX7_isCommandRead_62 : decode cX7_isCommandRead 62 = .ok (.aload_n 1, 1) := by decide +kernel
theorem dX7_isCommandRead_63 : decode cX7_isCommandRead 63 = .ok (.iload_n 2, 1) := by decide +kernel
theorem dX7_isCommandRead_64 : decode cX7_isCommandRead 64 = .ok (.iconst 1, 1) := by decide +kernel
theorem dX7_isCommandRead_65 : decode cX7_isCommandRead 65 = .ok (.iconst 3, 1) := by decide +kernel
theorem dX7_isCommandRead_66 : decode cX7_isCommandRead 66 = .ok (.invokevirtual 47, 3) := by decide +kernel
theorem dX7_isCommandRead_69 : decode cX7_isCommandRead 69 = .ok (.ifCond .eq 7, 3) := by decide +kernel
theorem dX7_isCommandRead_72 : decode cX7_isCommandRead 72 = .ok (.iconst 1, 1) := by decide +kernel
theorem dX7_isCommandRead_73 : decode cX7_isCommandRead 73 = .ok (.goto 4, 3) := by decide +kernel
theorem dX7_isCommandRead_76 : decode cX7_isCommandRead 76 = .ok (.iconst 0, 1) := by decide +kernel
theorem dX7_isCommandRead_77 : decode cX7_isCommandRead 77 = .ok (.ireturn, 1) := by decide +kernel
theorem dX7_isCommandRead_78 : decode cX7_isCommandRead 78 = .ok (.aload_n 1, 1) := by decide +kernel
theorem dX7_isCommandRead_79 : decode cX7_isCommandRead 79 = .ok (.bipush 119, 2) := by decide +kernel
theorem dX7_isCommandRead_81 : decode cX7_isCommandRead 81 = .ok (.invokevirtual 35, 3) := by decide +kernel
theorem dX7_isCommandRead_84 : decode cX7_isCommandRead 84 = .ok (.ifCond .eq 19, 3) := by decide +kernel
theorem dX7_isCommandRead_87 : decode cX7_isCommandRead 87 = .ok (.aload_n 0, 1) := by decide +kernel
theorem dX7_isCommandRead_88 : decode cX7_isCommandRead 88 = .ok (.getfield 11, 3) := by decide +kernel
theorem dX7_isCommandRead_91 : decode cX7_isCommandRead 91 = .ok (.iload_n 2, 1) := by decide +kernel
theorem dX7_isCommandRead_92 : decode cX7_isCommandRead 92 = .ok (.iconst 2, 1) := by decide +kernel
theorem dX7_isCommandRead_93 : decode cX7_isCommandRead 93 = .ok (.iastore, 1) := by decide +kernel
theorem dX7_isCommandRead_94 : decode cX7_isCommandRead 94 = .ok (.aload_n 0, 1) := by decide +kernel
theorem dX7_isCommandRead_95 : decode cX7_isCommandRead 95 = .ok (.aload_n 1, 1) := by decide +kernel
theorem dX7_isCommandRead_96 : decode cX7_isCommandRead 96 = .ok (.iload_n 2, 1) := by decide +kernel
theorem dX7_isCommandRead_97 : decode cX7_isCommandRead 97 = .ok (.iconst 0, 1) := by decide +kernel
theorem dX7_isCommandRead_98 : decode cX7_isCommandRead 98 = .ok (.iconst 3, 1) := by decide +kernel
theorem dX7_isCommandRead_99 : decode cX7_isCommandRead 99 = .ok (.invokevirtual 47, 3) := by decide +kernel
theorem dX7_isCommandRead_102 : decode cX7_isCommandRead 102 = .ok (.ireturn, 1) := by decide +kernel
theorem dX7_isCommandRead_103 : decode cX7_isCommandRead 103 = .ok (.aload_n 1, 1) := by decide +kernel
theorem dX7_isCommandRead_104 : decode cX7_isCommandRead 104 = .ok (.bipush 108, 2) := by decide +kernel
theorem dX7_isCommandRead_106 : decode cX7_isCommandRead 106 = .ok (.invokevirtual 35, 3) := by decide +kernel
theorem dX7_isCommandRead_109 : decode cX7_isCommandRead 109 = .ok (.ifCond .eq 68, 3) := by decide +kernel
theorem dX7_isCommandRead_112 : decode cX7_isCommandRead 112 = .ok (.aload_n 0, 1) := by decide +kernel
theorem dX7_isCommandRead_113 : decode cX7_isCommandRead 113 = .ok (.getfield 11, 3) := by decide +kernel
theorem dX7_isCommandRead_116 : decode cX7_isCommandRead 116 = .ok (.iload_n 2, 1) := by decide +kernel
theorem dX7_isCommandRead_117 : decode cX7_isCommandRead 117 = .ok (.iconst 3, 1) := by decide +kernel
theorem dX7_isCommandRead_118 : decode cX7_isCommandRead 118 = .ok (.iastore, 1) := by decide +kernel
theorem dX7_isCommandRead_119 : decode cX7_isCommandRead 119 = .ok (.aload_n 0, 1) := by decide +kernel
theorem dX7_isCommandRead_120 : decode cX7_isCommandRead 120 = .ok (.aload_n 1, 1) := by decide +kernel
theorem dX7_isCommandRead_121 : decode cX7_isCommandRead 121 = .ok (.iload_n 2, 1) := by decide +kernel
theorem dX7_isCommandRead_122 : decode cX7_isCommandRead 122 = .ok (.iconst 0, 1) := by decide +kernel
theorem dX7_isCommandRead_123 : decode cX7_isCommandRead 123 = .ok (.iconst 1, 1) := by decide +kernel
theorem dX7_isCommandRead_124 : decode cX7_isCommandRead 124 = .ok (.invokevirtual 47, 3) := by decide +kernel
theorem dX7_isCommandRead_127 : decode cX7_isCommandRead 127 = .ok (.ifCond .eq 18, 3) := by decide +kernel
theorem dX7_isCommandRead_130 : decode cX7_isCommandRead 130 = .ok (.aload_n 0, 1) := by decide +kernel
theorem dX7_isCommandRead_131 : decode cX7_isCommandRead 131 = .ok (.aload_n 1, 1) := by decide +kernel
theorem dX7_isCommandRead_132 : decode cX7_isCommandRead 132 = .ok (.iload_n 2, 1) := by decide +kernel
theorem dX7_isCommandRead_133 : decode cX7_isCommandRead 133 = .ok (.iconst 1, 1) := by decide +kernel
theorem dX7_isCommandRead_134 : decode cX7_isCommandRead 134 = .ok (.iconst 1, 1) := by decide +kernel
theorem dX7_isCommandRead_135 : decode cX7_isCommandRead 135 = .ok (.invokevirtual 47, 3) := by decide +kernel
theorem dX7_isCommandRead_138 : decode cX7_isCommandRead 138 = .ok (.ifCond .eq 7, 3) := by decide +kernel
theorem dX7_isCommandRead_141 : decode cX7_isCommandRead 141 = .ok (.iconst 1, 1) := by decide +kernel
theorem dX7_isCommandRead_142 : decode cX7_isCommandRead 142 = .ok (.goto 4, 3) := by decide +kernel
theorem dX7_isCommandRead_145 : decode cX7_isCommandRead 145 = .ok (.iconst 0, 1) := by decide +kernel
theorem dX7_isCommandRead_146 : decode cX7_isCommandRead 146 = .ok (.istore_n 3, 1) := by decide +kernel
theorem dX7_isCommandRead_147 : decode cX7_isCommandRead 147 = .ok (.iload_n 3, 1) := by decide +kernel
theorem dX7_isCommandRead_148 : decode cX7_isCommandRead 148 = .ok (.ifCond .eq 27, 3) := by decide +kernel
theorem dX7_isCommandRead_151 : decode cX7_isCommandRead 151 = .ok (.aload_n 1, 1) := by decide +kernel
theorem dX7_isCommandRead_152 : decode cX7_isCommandRead 152 = .ok (.bipush 103, 2) := by decide +kernel
theorem dX7_isCommandRead_154 : decode cX7_isCommandRead 154 = .ok (.invokevirtual 35, 3) := by decide +kernel
theorem dX7_isCommandRead_157 : decode cX7_isCommandRead 157 = .ok (.ifCond .eq 18, 3) := by decide +kernel
theorem dX7_isCommandRead_160 : decode cX7_isCommandRead 160 = .ok (.aload_n 0, 1) := by decide +kernel
theorem dX7_isCommandRead_161 : decode cX7_isCommandRead 161 = .ok (.aload_n 1, 1) := by decide +kernel
theorem dX7_isCommandRead_162 : decode cX7_isCommandRead 162 = .ok (.iload_n 2, 1) := by decide +kernel
theorem dX7_isCommandRead_163 : decode cX7_isCommandRead 163 = .ok (.iconst 2, 1) := by decide +kernel
theorem dX7_isCommandRead_164 : decode cX7_isCommandRead 164 = .ok (.iconst 5, 1) := by decide +kernel
theorem dX7_isCommandRead_165 : decode cX7_isCommandRead 165 = .ok (.invokevirtual 47, 3) := by decide +kernel
theorem dX7_isCommandRead_168 : decode cX7_isCommandRead 168 = .ok (.ifCond .eq 7, 3) := by decide +kernel
theorem dX7_isCommandRead_171 : decode cX7_isCommandRead 171 = .ok (.iconst 1, 1) := by decide +kernel
theorem dX7_isCommandRead_172 : decode cX7_isCommandRead 172 = .ok (.goto 4, 3) := by decide +kernel
theorem dX7_isCommandRead_175 : decode cX7_isCommandRead 175 = .ok (.iconst 0, 1) := by decide +kernel
theorem dX7_isCommandRead_176 : decode cX7_isCommandRead 176 = .ok (.ireturn, 1) := by decide +kernel
theorem dX7_isCommandRead_177 : decode cX7_isCommandRead 177 = .ok (.iconst 0, 1) := by decide +kernel
theorem dX7_isCommandRead_178 : decode cX7_isCommandRead 178 = .ok (.ireturn, 1) := by decide +kernel
theorem dX7_isNumberRead_0 : decode cX7_isNumberRead 0 = .ok (.aload_n 1, 1) := by decide +kernel
theorem dX7_isNumberRead_1 : decode cX7_isNumberRead 1 = .ok (.iload 4, 2) := by decide +kernel
theorem dX7_isNumberRead_3 : decode cX7_isNumberRead 3 = .ok (.invokevirtual 51, 3) := by decide +kernel
theorem dX7_isNumberRead_6 : decode cX7_isNumberRead 6 = .ok (.istore 5, 2) := by decide +kernel
theorem dX7_isNumberRead_8 : decode cX7_isNumberRead 8 = .ok (.aload_n 0, 1) := by decide +kernel
theorem dX7_isNumberRead_9 : decode cX7_isNumberRead 9 = .ok (.getfield 15, 3) := by decide +kernel
theorem dX7_isNumberRead_12 : decode cX7_isNumberRead 12 = .ok (.iload_n 2, 1) := by decide +kernel
theorem dX7_isNumberRead_13 : decode cX7_isNumberRead 13 = .ok (.iconst 3, 1) := by decide +kernel
theorem dX7_isNumberRead_14 : decode cX7_isNumberRead 14 = .ok (.imul, 1) := by decide +kernel
theorem dX7_isNumberRead_15 : decode cX7_isNumberRead 15 = .ok (.iload_n 3, 1) := by decide +kernel
theorem dX7_isNumberRead_16 : decode cX7_isNumberRead 16 = .ok (.iadd, 1) := by decide +kernel
theorem dX7_isNumberRead_17 : decode cX7_isNumberRead 17 = .ok (.iload 5, 2) := by decide +kernel
theorem dX7_isNumberRead_19 : decode cX7_isNumberRead 19 = .ok (.iastore, 1) := by decide +kernel
theorem dX7_isNumberRead_20 : decode cX7_isNumberRead 20 = .ok (.iload 5, 2) := by decide +kernel
theorem dX7_isNumberRead_22 : decode cX7_isNumberRead 22 = .ok (.iconst (-1), 1) := by decide +kernel
theorem dX7_isNumberRead_23 : decode cX7_isNumberRead 23 = .ok (.if_icmp .eq 7, 3) := by decide +kernel
theorem dX7_isNumberRead_26 : decode cX7_isNumberRead 26 = .ok (.iconst 1, 1) := by decide +kernel
theorem dX7_isNumberRead_27 : decode cX7_isNumberRead 27 = .ok (.goto 4, 3) := by decide +kernel
theorem dX7_isNumberRead_30 : decode cX7_isNumberRead 30 = .ok (.iconst 0, 1) := by decide +kernel
theorem dX7_isNumberRead_31 : decode cX7_isNumberRead 31 = .ok (.ireturn, 1) := by decide +kernel
theorem dX7_kindOf_0 : decode cX7_kindOf 0 = .ok (.iload_n 1, 1) := by decide +kernel
theorem dX7_kindOf_1 : decode cX7_kindOf 1 = .ok (.iconst 0, 1) := by decide +kernel
theorem dX7_kindOf_2 : decode cX7_kindOf 2 = .ok (.aload_n 0, 1) := by decide +kernel
theorem dX7_kindOf_3 : decode cX7_kindOf 3 = .ok (.getfield 23, 3) := by decide +kernel
theorem dX7_kindOf_6 : decode cX7_kindOf 6 = .ok (.iconst 1, 1) := by decide +kernel
theorem dX7_kindOf_7 : decode cX7_kindOf 7 = .ok (.isub, 1) := by decide +kernel
theorem dX7_kindOf_8 : decode cX7_kindOf 8 = .ok (.invokestatic 55, 3) := by decide +kernel
theorem dX7_kindOf_11 : decode cX7_kindOf 11 = .ok (.ifCond .eq 12, 3) := by decide +kernel
theorem dX7_kindOf_14 : decode cX7_kindOf 14 = .ok (.aload_n 0, 1) := by decide +kernel
theorem dX7_kindOf_15 : decode cX7_kindOf 15 = .ok (.getfield 11, 3) := by decide +kernel
theorem dX7_kindOf_18 : decode cX7_kindOf 18 = .ok (.iload_n 1, 1) := by decide +kernel
theorem dX7_kindOf_19 : decode cX7_kindOf 19 = .ok (.iaload, 1) := by decide +kernel
theorem dX7_kindOf_20 : decode cX7_kindOf 20 = .ok (.goto 4, 3) := by decide +kernel
theorem dX7_kindOf_23 : decode cX7_kindOf 23 = .ok (.iconst (-1), 1) := by decide +kernel
theorem dX7_kindOf_24 : decode cX7_kindOf 24 = .ok (.ireturn, 1) := by decide +kernel
theorem dX7_numberOf_0 : decode cX7_numberOf 0 = .ok (.iload_n 1, 1) := by decide +kernel
theorem dX7_numberOf_1 : decode cX7_numberOf 1 = .ok (.iconst 0, 1) := by decide +kernel
theorem dX7_numberOf_2 : decode cX7_numberOf 2 = .ok (.aload_n 0, 1) := by decide +kernel
theorem dX7_numberOf_3 : decode cX7_numberOf 3 = .ok (.getfield 23, 3) := by decide +kernel
theorem dX7_numberOf_6 : decode cX7_numberOf 6 = .ok (.iconst 1, 1) := by decide +kernel
theorem dX7_numberOf_7 : decode cX7_numberOf 7 = .ok (.isub, 1) := by decide +kernel
theorem dX7_numberOf_8 : decode cX7_numberOf 8 = .ok (.invokestatic 55, 3) := by decide +kernel
theorem dX7_numberOf_11 : decode cX7_numberOf 11 = .ok (.ifCond .eq 16, 3) := by decide +kernel
theorem dX7_numberOf_14 : decode cX7_numberOf 14 = .ok (.aload_n 0, 1) := by decide +kernel
theorem dX7_numberOf_15 : decode cX7_numberOf 15 = .ok (.getfield 15, 3) := by decide +kernel
theorem dX7_numberOf_18 : decode cX7_numberOf 18 = .ok (.iload_n 1, 1) := by decide +kernel
theorem dX7_numberOf_19 : decode cX7_numberOf 19 = .ok (.iconst 3, 1) := by decide +kernel
theorem dX7_numberOf_20 : decode cX7_numberOf 20 = .ok (.imul, 1) := by decide +kernel
theorem dX7_numberOf_21 : decode cX7_numberOf 21 = .ok (.iload_n 2, 1) := by decide +kernel
theorem dX7_numberOf_22 : decode cX7_numberOf 22 = .ok (.iadd, 1) := by decide +kernel
theorem dX7_numberOf_23 : decode cX7_numberOf 23 = .ok (.iaload, 1) := by decide +kernel
theorem dX7_numberOf_24 : decode cX7_numberOf 24 = .ok (.goto 4, 3) := by decide +kernel
theorem dX7_numberOf_27 : decode cX7_numberOf 27 = .ok (.iconst (-1), 1) := by decide +kernel
theorem dX7_numberOf_28 : decode cX7_numberOf 28 = .ok (.ireturn, 1) := by decide +kernel
theorem dX8_init_0 : decode cX8_init 0 = .ok (.aload_n 0, 1) := by decide +kernel
theorem dX8_init_1 : decode cX8_init 1 = .ok (.invokespecial 3, 3) := by decide +kernel
theorem dX8_init_4 : decode cX8_init 4 = .ok (.aload_n 0, 1) := by decide +kernel
theorem dX8_init_5 : decode cX8_init 5 = .ok (.iconst 3, 1) := by decide +kernel
theorem dX8_init_6 : decode cX8_init 6 = .ok (.newarray .int, 2) := by decide +kernel
theorem dX8_init_8 : decode cX8_init 8 = .ok (.putfield 9, 3) := by decide +kernel
theorem dX8_init_11 : decode cX8_init 11 = .ok (.aload_n 0, 1) := by decide +kernel
theorem dX8_init_12 : decode cX8_init 12 = .ok (.iconst 3, 1) := by decide +kernel
theorem dX8_init_13 : decode cX8_init 13 = .ok (.newarray .int, 2) := by decide +kernel
theorem dX8_init_15 : decode cX8_init 15 = .ok (.putfield 15, 3) := by decide +kernel
theorem dX8_init_18 : decode cX8_init 18 = .ok (.return_, 1) := by decide +kernel
theorem dX8_refuse_0 : decode cX8_refuse 0 = .ok (.aload_n 0, 1) := by decide +kernel
theorem dX8_refuse_1 : decode cX8_refuse 1 = .ok (.iconst 0, 1) := by decide +kernel
theorem dX8_refuse_2 : decode cX8_refuse 2 = .ok (.putfield 18, 3) := by decide +kernel
theorem dX8_refuse_5 : decode cX8_refuse 5 = .ok (.aload_n 0, 1) := by decide +kernel
theorem dX8_refuse_6 : decode cX8_refuse 6 = .ok (.iload_n 1, 1) := by decide +kernel
theorem dX8_refuse_7 : decode cX8_refuse 7 = .ok (.iload_n 2, 1) := by decide +kernel
theorem dX8_refuse_8 : decode cX8_refuse 8 = .ok (.invokevirtual 22, 3) := by decide +kernel
theorem dX8_refuse_11 : decode cX8_refuse 11 = .ok (.iconst (-1), 1) := by decide +kernel
theorem dX8_refuse_12 : decode cX8_refuse 12 = .ok (.ireturn, 1) := by decide +kernel
theorem dX8_putBehind_0 : decode cX8_putBehind 0 = .ok (.aload_n 0, 1) := by decide +kernel
theorem dX8_putBehind_1 : decode cX8_putBehind 1 = .ok (.getfield 18, 3) := by decide +kernel
theorem dX8_putBehind_4 : decode cX8_putBehind 4 = .ok (.iconst 3, 1) := by decide +kernel
theorem dX8_putBehind_5 : decode cX8_putBehind 5 = .ok (.if_icmp .ge 33, 3) := by decide +kernel
theorem dX8_putBehind_8 : decode cX8_putBehind 8 = .ok (.aload_n 0, 1) := by decide +kernel
theorem dX8_putBehind_9 : decode cX8_putBehind 9 = .ok (.getfield 9, 3) := by decide +kernel
theorem dX8_putBehind_12 : decode cX8_putBehind 12 = .ok (.aload_n 0, 1) := by decide +kernel
theorem dX8_putBehind_13 : decode cX8_putBehind 13 = .ok (.getfield 18, 3) := by decide +kernel
theorem dX8_putBehind_16 : decode cX8_putBehind 16 = .ok (.iload_n 1, 1) := by decide +kernel
theorem dX8_putBehind_17 : decode cX8_putBehind 17 = .ok (.iastore, 1) := by decide +kernel
theorem dX8_putBehind_18 : decode cX8_putBehind 18 = .ok (.aload_n 0, 1) := by decide +kernel
theorem dX8_putBehind_19 : decode cX8_putBehind 19 = .ok (.getfield 15, 3) := by decide +kernel
theorem dX8_putBehind_22 : decode cX8_putBehind 22 = .ok (.aload_n 0, 1) := by decide +kernel
theorem dX8_putBehind_23 : decode cX8_putBehind 23 = .ok (.getfield 18, 3) := by decide +kernel
theorem dX8_putBehind_26 : decode cX8_putBehind 26 = .ok (.iload_n 2, 1) := by decide +kernel
theorem dX8_putBehind_27 : decode cX8_putBehind 27 = .ok (.iastore, 1) := by decide +kernel
theorem dX8_putBehind_28 : decode cX8_putBehind 28 = .ok (.aload_n 0, 1) := by decide +kernel
theorem dX8_putBehind_29 : decode cX8_putBehind 29 = .ok (.dup, 1) := by decide +kernel
theorem dX8_putBehind_30 : decode cX8_putBehind 30 = .ok (.getfield 18, 3) := by decide +kernel
theorem dX8_putBehind_33 : decode cX8_putBehind 33 = .ok (.iconst 1, 1) := by decide +kernel
theorem dX8_putBehind_34 : decode cX8_putBehind 34 = .ok (.iadd, 1) := by decide +kernel
theorem dX8_putBehind_35 : decode cX8_putBehind 35 = .ok (.putfield 18, 3) := by decide +kernel
theorem dX8_putBehind_38 : decode cX8_putBehind 38 = .ok (.return_, 1) := by decide +kernel
theorem dX8_putAhead_0 : decode cX8_putAhead 0 = .ok (.aload_n 0, 1) := by decide +kernel
theorem dX8_putAhead_1 : decode cX8_putAhead 1 = .ok (.aload_n 0, 1) := by decide +kernel
theorem dX8_putAhead_2 : decode cX8_putAhead 2 = .ok (.getfield 18, 3) := by decide +kernel
theorem dX8_putAhead_5 : decode cX8_putAhead 5 = .ok (.iconst 1, 1) := by decide +kernel
theorem dX8_putAhead_6 : decode cX8_putAhead 6 = .ok (.iadd, 1) := by decide +kernel
theorem dX8_putAhead_7 : decode cX8_putAhead 7 = .ok (.iconst 3, 1) := by decide +kernel
theorem dX8_putAhead_8 : decode cX8_putAhead 8 = .ok (.invokestatic 26, 3) := by decide +kernel
theorem dX8_putAhead_11 : decode cX8_putAhead 11 = .ok (.putfield 18, 3) := by decide +kernel
theorem dX8_putAhead_14 : decode cX8_putAhead 14 = .ok (.aload_n 0, 1) := by decide +kernel
theorem dX8_putAhead_15 : decode cX8_putAhead 15 = .ok (.getfield 18, 3) := by decide +kernel
theorem dX8_putAhead_18 : decode cX8_putAhead 18 = .ok (.iconst 1, 1) := by decide +kernel
theorem dX8_putAhead_19 : decode cX8_putAhead 19 = .ok (.isub, 1) := by decide +kernel
theorem dX8_putAhead_20 : decode cX8_putAhead 20 = .ok (.istore_n 3, 1) := by decide +kernel
theorem dX8_putAhead_21 : decode cX8_putAhead 21 = .ok (.iload_n 3, 1) := by decide +kernel
theorem dX8_putAhead_22 : decode cX8_putAhead 22 = .ok (.ifCond .le 37, 3) := by decide +kernel
theorem dX8_putAhead_25 : decode cX8_putAhead 25 = .ok (.aload_n 0, 1) := by decide +kernel
theorem dX8_putAhead_26 : decode cX8_putAhead 26 = .ok (.getfield 9, 3) := by decide +kernel
theorem dX8_putAhead_29 : decode cX8_putAhead 29 = .ok (.iload_n 3, 1) := by decide +kernel
theorem dX8_putAhead_30 : decode cX8_putAhead 30 = .ok (.aload_n 0, 1) := by decide +kernel
theorem dX8_putAhead_31 : decode cX8_putAhead 31 = .ok (.getfield 9, 3) := by decide +kernel
theorem dX8_putAhead_34 : decode cX8_putAhead 34 = .ok (.iload_n 3, 1) := by decide +kernel
theorem dX8_putAhead_35 : decode cX8_putAhead 35 = .ok (.iconst 1, 1) := by decide +kernel
theorem dX8_putAhead_36 : decode cX8_putAhead 36 = .ok (.isub, 1) := by decide +kernel
theorem dX8_putAhead_37 : decode cX8_putAhead 37 = .ok (.iaload, 1) := by decide +kernel
theorem dX8_putAhead_38 : decode cX8_putAhead 38 = .ok (.iastore, 1) := by decide +kernel
theorem dX8_putAhead_39 : decode cX8_putAhead 39 = .ok (.aload_n 0, 1) := by decide +kernel
theorem dX8_putAhead_40 : decode cX8_putAhead 40 = .ok (.getfield 15, 3) := by decide +kernel
theorem dX8_putAhead_43 : decode cX8_putAhead 43 = .ok (.iload_n 3, 1) := by decide +kernel
theorem dX8_putAhead_44 : decode cX8_putAhead 44 = .ok (.aload_n 0, 1) := by decide +kernel
theorem dX8_putAhead_45 : decode cX8_putAhead 45 = .ok (.getfield 15, 3) := by decide +kernel
theorem dX8_putAhead_48 : decode cX8_putAhead 48 = .ok (.iload_n 3, 1) := by decide +kernel
theorem dX8_putAhead_49 : decode cX8_putAhead 49 = .ok (.iconst 1, 1) := by decide +kernel
theorem dX8_putAhead_50 : decode cX8_putAhead 50 = .ok (.isub, 1) := by decide +kernel
theorem dX8_putAhead_51 : decode cX8_putAhead 51 = .ok (.iaload, 1) := by decide +kernel
theorem dX8_putAhead_52 : decode cX8_putAhead 52 = .ok (.iastore, 1) := by decide +kernel
theorem dX8_putAhead_53 : decode cX8_putAhead 53 = .ok (.iinc 3 (-1), 3) := by decide +kernel
theorem dX8_putAhead_56 : decode cX8_putAhead 56 = .ok (.goto (-35), 3) := by decide +kernel
theorem dX8_putAhead_59 : decode cX8_putAhead 59 = .ok (.aload_n 0, 1) := by decide +kernel
theorem dX8_putAhead_60 : decode cX8_putAhead 60 = .ok (.getfield 9, 3) := by decide +kernel
theorem dX8_putAhead_63 : decode cX8_putAhead 63 = .ok (.iconst 0, 1) := by decide +kernel
theorem dX8_putAhead_64 : decode cX8_putAhead 64 = .ok (.iload_n 1, 1) := by decide +kernel
theorem dX8_putAhead_65 : decode cX8_putAhead 65 = .ok (.iastore, 1) := by decide +kernel
theorem dX8_putAhead_66 : decode cX8_putAhead 66 = .ok (.aload_n 0, 1) := by decide +kernel
theorem dX8_putAhead_67 : decode cX8_putAhead 67 = .ok (.getfield 15, 3) := by decide +kernel
theorem dX8_putAhead_70 : decode cX8_putAhead 70 = .ok (.iconst 0, 1) := by decide +kernel
theorem dX8_putAhead_71 : decode cX8_putAhead 71 = .ok (.iload_n 2, 1) := by decide +kernel
theorem dX8_putAhead_72 : decode cX8_putAhead 72 = .ok (.iastore, 1) := by decide +kernel
theorem dX8_putAhead_73 : decode cX8_putAhead 73 = .ok (.return_, 1) := by decide +kernel
theorem dX9_init_0 : decode cX9_init 0 = .ok (.aload_n 0, 1) := by decide +kernel
theorem dX9_init_1 : decode cX9_init 1 = .ok (.invokespecial 3, 3) := by decide +kernel
theorem dX9_init_4 : decode cX9_init 4 = .ok (.aload_n 0, 1) := by decide +kernel
theorem dX9_init_5 : decode cX9_init 5 = .ok (.bipush 48, 2) := by decide +kernel
theorem dX9_init_7 : decode cX9_init 7 = .ok (.newarray .int, 2) := by decide +kernel
theorem dX9_init_9 : decode cX9_init 9 = .ok (.putfield 9, 3) := by decide +kernel
theorem dX9_init_12 : decode cX9_init 12 = .ok (.aload_n 0, 1) := by decide +kernel
theorem dX9_init_13 : decode cX9_init 13 = .ok (.bipush 48, 2) := by decide +kernel
theorem dX9_init_15 : decode cX9_init 15 = .ok (.newarray .int, 2) := by decide +kernel
theorem dX9_init_17 : decode cX9_init 17 = .ok (.putfield 15, 3) := by decide +kernel
theorem dX9_init_20 : decode cX9_init 20 = .ok (.aload_n 0, 1) := by decide +kernel
theorem dX9_init_21 : decode cX9_init 21 = .ok (.bipush 48, 2) := by decide +kernel
theorem dX9_init_23 : decode cX9_init 23 = .ok (.newarray .int, 2) := by decide +kernel
theorem dX9_init_25 : decode cX9_init 25 = .ok (.putfield 18, 3) := by decide +kernel
theorem dX9_init_28 : decode cX9_init 28 = .ok (.aload_n 0, 1) := by decide +kernel
theorem dX9_init_29 : decode cX9_init 29 = .ok (.bipush 8, 2) := by decide +kernel
theorem dX9_init_31 : decode cX9_init 31 = .ok (.newarray .int, 2) := by decide +kernel
theorem dX9_init_33 : decode cX9_init 33 = .ok (.putfield 21, 3) := by decide +kernel
theorem dX9_init_36 : decode cX9_init 36 = .ok (.aload_n 0, 1) := by decide +kernel
theorem dX9_init_37 : decode cX9_init 37 = .ok (.bipush 8, 2) := by decide +kernel
theorem dX9_init_39 : decode cX9_init 39 = .ok (.newarray .int, 2) := by decide +kernel
theorem dX9_init_41 : decode cX9_init 41 = .ok (.putfield 24, 3) := by decide +kernel
theorem dX9_init_44 : decode cX9_init 44 = .ok (.return_, 1) := by decide +kernel
theorem dX9_copyFrom_0 : decode cX9_copyFrom 0 = .ok (.aload_n 1, 1) := by decide +kernel
theorem dX9_copyFrom_1 : decode cX9_copyFrom 1 = .ok (.getfield 9, 3) := by decide +kernel
theorem dX9_copyFrom_4 : decode cX9_copyFrom 4 = .ok (.aload_n 0, 1) := by decide +kernel
theorem dX9_copyFrom_5 : decode cX9_copyFrom 5 = .ok (.getfield 9, 3) := by decide +kernel
theorem dX9_copyFrom_8 : decode cX9_copyFrom 8 = .ok (.invokestatic 27, 3) := by decide +kernel
theorem dX9_copyFrom_11 : decode cX9_copyFrom 11 = .ok (.aload_n 1, 1) := by decide +kernel
theorem dX9_copyFrom_12 : decode cX9_copyFrom 12 = .ok (.getfield 15, 3) := by decide +kernel
theorem dX9_copyFrom_15 : decode cX9_copyFrom 15 = .ok (.aload_n 0, 1) := by decide +kernel
theorem dX9_copyFrom_16 : decode cX9_copyFrom 16 = .ok (.getfield 15, 3) := by decide +kernel
theorem dX9_copyFrom_19 : decode cX9_copyFrom 19 = .ok (.invokestatic 27, 3) := by decide +kernel
theorem dX9_copyFrom_22 : decode cX9_copyFrom 22 = .ok (.aload_n 1, 1) := by decide +kernel
theorem dX9_copyFrom_23 : decode cX9_copyFrom 23 = .ok (.getfield 18, 3) := by decide +kernel
theorem dX9_copyFrom_26 : decode cX9_copyFrom 26 = .ok (.aload_n 0, 1) := by decide +kernel
theorem dX9_copyFrom_27 : decode cX9_copyFrom 27 = .ok (.getfield 18, 3) := by decide +kernel
theorem dX9_copyFrom_30 : decode cX9_copyFrom 30 = .ok (.invokestatic 27, 3) := by decide +kernel
theorem dX9_copyFrom_33 : decode cX9_copyFrom 33 = .ok (.aload_n 1, 1) := by decide +kernel
theorem dX9_copyFrom_34 : decode cX9_copyFrom 34 = .ok (.getfield 21, 3) := by decide +kernel
theorem dX9_copyFrom_37 : decode cX9_copyFrom 37 = .ok (.aload_n 0, 1) := by decide +kernel
theorem dX9_copyFrom_38 : decode cX9_copyFrom 38 = .ok (.getfield 21, 3) := by decide +kernel
theorem dX9_copyFrom_41 : decode cX9_copyFrom 41 = .ok (.invokestatic 27, 3) := by decide +kernel
theorem dX9_copyFrom_44 : decode cX9_copyFrom 44 = .ok (.aload_n 1, 1) := by decide +kernel
theorem dX9_copyFrom_45 : decode cX9_copyFrom 45 = .ok (.getfield 24, 3) := by decide +kernel
theorem dX9_copyFrom_48 : decode cX9_copyFrom 48 = .ok (.aload_n 0, 1) := by decide +kernel
theorem dX9_copyFrom_49 : decode cX9_copyFrom 49 = .ok (.getfield 24, 3) := by decide +kernel
theorem dX9_copyFrom_52 : decode cX9_copyFrom 52 = .ok (.invokestatic 27, 3) := by decide +kernel
theorem dX9_copyFrom_55 : decode cX9_copyFrom 55 = .ok (.return_, 1) := by decide +kernel
theorem dX9_addScrap_0 : decode cX9_addScrap 0 = .ok (.aload_n 0, 1) := by decide +kernel
theorem dX9_addScrap_1 : decode cX9_addScrap 1 = .ok (.getfield 21, 3) := by decide +kernel
theorem dX9_addScrap_4 : decode cX9_addScrap 4 = .ok (.iload_n 1, 1) := by decide +kernel
theorem dX9_addScrap_5 : decode cX9_addScrap 5 = .ok (.dup2, 1) := by decide +kernel
theorem dX9_addScrap_6 : decode cX9_addScrap 6 = .ok (.iaload, 1) := by decide +kernel
theorem dX9_addScrap_7 : decode cX9_addScrap 7 = .ok (.iload_n 2, 1) := by decide +kernel
theorem dX9_addScrap_8 : decode cX9_addScrap 8 = .ok (.iadd, 1) := by decide +kernel
theorem dX9_addScrap_9 : decode cX9_addScrap 9 = .ok (.iastore, 1) := by decide +kernel
theorem dX9_addScrap_10 : decode cX9_addScrap 10 = .ok (.aload_n 0, 1) := by decide +kernel
theorem dX9_addScrap_11 : decode cX9_addScrap 11 = .ok (.getfield 24, 3) := by decide +kernel
theorem dX9_addScrap_14 : decode cX9_addScrap 14 = .ok (.iload_n 1, 1) := by decide +kernel
theorem dX9_addScrap_15 : decode cX9_addScrap 15 = .ok (.dup2, 1) := by decide +kernel
theorem dX9_addScrap_16 : decode cX9_addScrap 16 = .ok (.iaload, 1) := by decide +kernel
theorem dX9_addScrap_17 : decode cX9_addScrap 17 = .ok (.iload_n 2, 1) := by decide +kernel
theorem dX9_addScrap_18 : decode cX9_addScrap 18 = .ok (.iadd, 1) := by decide +kernel
theorem dX9_addScrap_19 : decode cX9_addScrap 19 = .ok (.iastore, 1) := by decide +kernel
theorem dX9_addScrap_20 : decode cX9_addScrap 20 = .ok (.return_, 1) := by decide +kernel
theorem dX9_addPieces_0 : decode cX9_addPieces 0 = .ok (.iload_n 1, 1) := by decide +kernel
theorem dX9_addPieces_1 : decode cX9_addPieces 1 = .ok (.bipush 6, 2) := by decide +kernel
theorem dX9_addPieces_3 : decode cX9_addPieces 3 = .ok (.imul, 1) := by decide +kernel
theorem dX9_addPieces_4 : decode cX9_addPieces 4 = .ok (.iload_n 2, 1) := by decide +kernel
theorem dX9_addPieces_5 : decode cX9_addPieces 5 = .ok (.iadd, 1) := by decide +kernel
theorem dX9_addPieces_6 : decode cX9_addPieces 6 = .ok (.istore 5, 2) := by decide +kernel
theorem dX9_addPieces_8 : decode cX9_addPieces 8 = .ok (.aload_n 0, 1) := by decide +kernel
theorem dX9_addPieces_9 : decode cX9_addPieces 9 = .ok (.getfield 21, 3) := by decide +kernel
theorem dX9_addPieces_12 : decode cX9_addPieces 12 = .ok (.iload_n 1, 1) := by decide +kernel
theorem dX9_addPieces_13 : decode cX9_addPieces 13 = .ok (.dup2, 1) := by decide +kernel
theorem dX9_addPieces_14 : decode cX9_addPieces 14 = .ok (.iaload, 1) := by decide +kernel
theorem dX9_addPieces_15 : decode cX9_addPieces 15 = .ok (.iload_n 3, 1) := by decide +kernel
theorem dX9_addPieces_16 : decode cX9_addPieces 16 = .ok (.iadd, 1) := by decide +kernel
theorem dX9_addPieces_17 : decode cX9_addPieces 17 = .ok (.iastore, 1) := by decide +kernel
theorem dX9_addPieces_18 : decode cX9_addPieces 18 = .ok (.aload_n 0, 1) := by decide +kernel
theorem dX9_addPieces_19 : decode cX9_addPieces 19 = .ok (.getfield 15, 3) := by decide +kernel
theorem dX9_addPieces_22 : decode cX9_addPieces 22 = .ok (.iload 5, 2) := by decide +kernel
theorem dX9_addPieces_24 : decode cX9_addPieces 24 = .ok (.dup2, 1) := by decide +kernel
theorem dX9_addPieces_25 : decode cX9_addPieces 25 = .ok (.iaload, 1) := by decide +kernel
theorem dX9_addPieces_26 : decode cX9_addPieces 26 = .ok (.iload_n 3, 1) := by decide +kernel
theorem dX9_addPieces_27 : decode cX9_addPieces 27 = .ok (.iadd, 1) := by decide +kernel
theorem dX9_addPieces_28 : decode cX9_addPieces 28 = .ok (.iastore, 1) := by decide +kernel
theorem dX9_addPieces_29 : decode cX9_addPieces 29 = .ok (.iload 4, 2) := by decide +kernel
theorem dX9_addPieces_31 : decode cX9_addPieces 31 = .ok (.ifCond .le 35, 3) := by decide +kernel
theorem dX9_addPieces_34 : decode cX9_addPieces 34 = .ok (.aload_n 0, 1) := by decide +kernel
theorem dX9_addPieces_35 : decode cX9_addPieces 35 = .ok (.getfield 9, 3) := by decide +kernel
theorem dX9_addPieces_38 : decode cX9_addPieces 38 = .ok (.iload 5, 2) := by decide +kernel
theorem dX9_addPieces_40 : decode cX9_addPieces 40 = .ok (.dup2, 1) := by decide +kernel
theorem dX9_addPieces_41 : decode cX9_addPieces 41 = .ok (.iaload, 1) := by decide +kernel
theorem dX9_addPieces_42 : decode cX9_addPieces 42 = .ok (.aload_n 0, 1) := by decide +kernel
theorem dX9_addPieces_43 : decode cX9_addPieces 43 = .ok (.getfield 15, 3) := by decide +kernel
theorem dX9_addPieces_46 : decode cX9_addPieces 46 = .ok (.iload 5, 2) := by decide +kernel
theorem dX9_addPieces_48 : decode cX9_addPieces 48 = .ok (.iaload, 1) := by decide +kernel
theorem dX9_addPieces_49 : decode cX9_addPieces 49 = .ok (.iload 4, 2) := by decide +kernel
theorem dX9_addPieces_51 : decode cX9_addPieces 51 = .ok (.idiv, 1) := by decide +kernel
theorem dX9_addPieces_52 : decode cX9_addPieces 52 = .ok (.iadd, 1) := by decide +kernel
theorem dX9_addPieces_53 : decode cX9_addPieces 53 = .ok (.iastore, 1) := by decide +kernel
theorem dX9_addPieces_54 : decode cX9_addPieces 54 = .ok (.aload_n 0, 1) := by decide +kernel
theorem dX9_addPieces_55 : decode cX9_addPieces 55 = .ok (.getfield 15, 3) := by decide +kernel
theorem dX9_addPieces_58 : decode cX9_addPieces 58 = .ok (.iload 5, 2) := by decide +kernel
theorem dX9_addPieces_60 : decode cX9_addPieces 60 = .ok (.dup2, 1) := by decide +kernel
theorem dX9_addPieces_61 : decode cX9_addPieces 61 = .ok (.iaload, 1) := by decide +kernel
theorem dX9_addPieces_62 : decode cX9_addPieces 62 = .ok (.iload 4, 2) := by decide +kernel
theorem dX9_addPieces_64 : decode cX9_addPieces 64 = .ok (.irem, 1) := by decide +kernel
theorem dX9_addPieces_65 : decode cX9_addPieces 65 = .ok (.iastore, 1) := by decide +kernel
theorem dX9_addPieces_66 : decode cX9_addPieces 66 = .ok (.return_, 1) := by decide +kernel
theorem dX9_isDelivered_0 : decode cX9_isDelivered 0 = .ok (.iload_n 1, 1) := by decide +kernel
theorem dX9_isDelivered_1 : decode cX9_isDelivered 1 = .ok (.bipush 6, 2) := by decide +kernel
theorem dX9_isDelivered_3 : decode cX9_isDelivered 3 = .ok (.imul, 1) := by decide +kernel
theorem dX9_isDelivered_4 : decode cX9_isDelivered 4 = .ok (.iload_n 2, 1) := by decide +kernel
theorem dX9_isDelivered_5 : decode cX9_isDelivered 5 = .ok (.iadd, 1) := by decide +kernel
theorem dX9_isDelivered_6 : decode cX9_isDelivered 6 = .ok (.istore 4, 2) := by decide +kernel
theorem dX9_isDelivered_8 : decode cX9_isDelivered 8 = .ok (.aload_n 0, 1) := by decide +kernel
theorem dX9_isDelivered_9 : decode cX9_isDelivered 9 = .ok (.getfield 9, 3) := by decide +kernel
theorem dX9_isDelivered_12 : decode cX9_isDelivered 12 = .ok (.iload 4, 2) := by decide +kernel
theorem dX9_isDelivered_14 : decode cX9_isDelivered 14 = .ok (.iaload, 1) := by decide +kernel
theorem dX9_isDelivered_15 : decode cX9_isDelivered 15 = .ok (.iload_n 3, 1) := by decide +kernel
theorem dX9_isDelivered_16 : decode cX9_isDelivered 16 = .ok (.if_icmp .ge 5, 3) := by decide +kernel
theorem dX9_isDelivered_19 : decode cX9_isDelivered 19 = .ok (.iconst 0, 1) := by decide +kernel
theorem dX9_isDelivered_20 : decode cX9_isDelivered 20 = .ok (.ireturn, 1) := by decide +kernel
theorem dX9_isDelivered_21 : decode cX9_isDelivered 21 = .ok (.aload_n 0, 1) := by decide +kernel
theorem dX9_isDelivered_22 : decode cX9_isDelivered 22 = .ok (.getfield 9, 3) := by decide +kernel
theorem dX9_isDelivered_25 : decode cX9_isDelivered 25 = .ok (.iload 4, 2) := by decide +kernel
theorem dX9_isDelivered_27 : decode cX9_isDelivered 27 = .ok (.dup2, 1) := by decide +kernel
theorem dX9_isDelivered_28 : decode cX9_isDelivered 28 = .ok (.iaload, 1) := by decide +kernel
theorem dX9_isDelivered_29 : decode cX9_isDelivered 29 = .ok (.iload_n 3, 1) := by decide +kernel
theorem dX9_isDelivered_30 : decode cX9_isDelivered 30 = .ok (.isub, 1) := by decide +kernel
theorem dX9_isDelivered_31 : decode cX9_isDelivered 31 = .ok (.iastore, 1) := by decide +kernel
theorem dX9_isDelivered_32 : decode cX9_isDelivered 32 = .ok (.aload_n 0, 1) := by decide +kernel
theorem dX9_isDelivered_33 : decode cX9_isDelivered 33 = .ok (.getfield 18, 3) := by decide +kernel
theorem dX9_isDelivered_36 : decode cX9_isDelivered 36 = .ok (.iload 4, 2) := by decide +kernel
theorem dX9_isDelivered_38 : decode cX9_isDelivered 38 = .ok (.dup2, 1) := by decide +kernel
theorem dX9_isDelivered_39 : decode cX9_isDelivered 39 = .ok (.iaload, 1) := by decide +kernel
theorem dX9_isDelivered_40 : decode cX9_isDelivered 40 = .ok (.iload_n 3, 1) := by decide +kernel
theorem dX9_isDelivered_41 : decode cX9_isDelivered 41 = .ok (.iadd, 1) := by decide +kernel
theorem dX9_isDelivered_42 : decode cX9_isDelivered 42 = .ok (.iastore, 1) := by decide +kernel
theorem dX9_isDelivered_43 : decode cX9_isDelivered 43 = .ok (.iconst 1, 1) := by decide +kernel
theorem dX9_isDelivered_44 : decode cX9_isDelivered 44 = .ok (.ireturn, 1) := by decide +kernel
theorem dX9_cratesOf_0 : decode cX9_cratesOf 0 = .ok (.iconst 0, 1) := by decide +kernel
theorem dX9_cratesOf_1 : decode cX9_cratesOf 1 = .ok (.istore_n 2, 1) := by decide +kernel
theorem dX9_cratesOf_2 : decode cX9_cratesOf 2 = .ok (.iconst 0, 1) := by decide +kernel
theorem dX9_cratesOf_3 : decode cX9_cratesOf 3 = .ok (.istore_n 3, 1) := by decide +kernel
theorem dX9_cratesOf_4 : decode cX9_cratesOf 4 = .ok (.iload_n 3, 1) := by decide +kernel
theorem dX9_cratesOf_5 : decode cX9_cratesOf 5 = .ok (.bipush 6, 2) := by decide +kernel
theorem dX9_cratesOf_7 : decode cX9_cratesOf 7 = .ok (.if_icmp .ge 35, 3) := by decide +kernel
theorem dX9_cratesOf_10 : decode cX9_cratesOf 10 = .ok (.iload_n 1, 1) := by decide +kernel
theorem dX9_cratesOf_11 : decode cX9_cratesOf 11 = .ok (.bipush 6, 2) := by decide +kernel
theorem dX9_cratesOf_13 : decode cX9_cratesOf 13 = .ok (.imul, 1) := by decide +kernel
theorem dX9_cratesOf_14 : decode cX9_cratesOf 14 = .ok (.iload_n 3, 1) := by decide +kernel
theorem dX9_cratesOf_15 : decode cX9_cratesOf 15 = .ok (.iadd, 1) := by decide +kernel
theorem dX9_cratesOf_16 : decode cX9_cratesOf 16 = .ok (.istore 4, 2) := by decide +kernel
theorem dX9_cratesOf_18 : decode cX9_cratesOf 18 = .ok (.iload_n 2, 1) := by decide +kernel
theorem dX9_cratesOf_19 : decode cX9_cratesOf 19 = .ok (.aload_n 0, 1) := by decide +kernel
theorem dX9_cratesOf_20 : decode cX9_cratesOf 20 = .ok (.getfield 9, 3) := by decide +kernel
theorem dX9_cratesOf_23 : decode cX9_cratesOf 23 = .ok (.iload 4, 2) := by decide +kernel
theorem dX9_cratesOf_25 : decode cX9_cratesOf 25 = .ok (.iaload, 1) := by decide +kernel
theorem dX9_cratesOf_26 : decode cX9_cratesOf 26 = .ok (.aload_n 0, 1) := by decide +kernel
theorem dX9_cratesOf_27 : decode cX9_cratesOf 27 = .ok (.getfield 18, 3) := by decide +kernel
theorem dX9_cratesOf_30 : decode cX9_cratesOf 30 = .ok (.iload 4, 2) := by decide +kernel
theorem dX9_cratesOf_32 : decode cX9_cratesOf 32 = .ok (.iaload, 1) := by decide +kernel
theorem dX9_cratesOf_33 : decode cX9_cratesOf 33 = .ok (.iadd, 1) := by decide +kernel
theorem dX9_cratesOf_34 : decode cX9_cratesOf 34 = .ok (.iadd, 1) := by decide +kernel
theorem dX9_cratesOf_35 : decode cX9_cratesOf 35 = .ok (.istore_n 2, 1) := by decide +kernel
theorem dX9_cratesOf_36 : decode cX9_cratesOf 36 = .ok (.iinc 3 1, 3) := by decide +kernel
theorem dX9_cratesOf_39 : decode cX9_cratesOf 39 = .ok (.goto (-35), 3) := by decide +kernel
theorem dX9_cratesOf_42 : decode cX9_cratesOf 42 = .ok (.iload_n 2, 1) := by decide +kernel
theorem dX9_cratesOf_43 : decode cX9_cratesOf 43 = .ok (.ireturn, 1) := by decide +kernel
theorem dX9_restOf_0 : decode cX9_restOf 0 = .ok (.iconst 0, 1) := by decide +kernel
theorem dX9_restOf_1 : decode cX9_restOf 1 = .ok (.istore_n 2, 1) := by decide +kernel
theorem dX9_restOf_2 : decode cX9_restOf 2 = .ok (.iconst 0, 1) := by decide +kernel
theorem dX9_restOf_3 : decode cX9_restOf 3 = .ok (.istore_n 3, 1) := by decide +kernel
theorem dX9_restOf_4 : decode cX9_restOf 4 = .ok (.iload_n 3, 1) := by decide +kernel
theorem dX9_restOf_5 : decode cX9_restOf 5 = .ok (.bipush 6, 2) := by decide +kernel
theorem dX9_restOf_7 : decode cX9_restOf 7 = .ok (.if_icmp .ge 23, 3) := by decide +kernel
theorem dX9_restOf_10 : decode cX9_restOf 10 = .ok (.iload_n 2, 1) := by decide +kernel
theorem dX9_restOf_11 : decode cX9_restOf 11 = .ok (.aload_n 0, 1) := by decide +kernel
theorem dX9_restOf_12 : decode cX9_restOf 12 = .ok (.getfield 15, 3) := by decide +kernel
theorem dX9_restOf_15 : decode cX9_restOf 15 = .ok (.iload_n 1, 1) := by decide +kernel
theorem dX9_restOf_16 : decode cX9_restOf 16 = .ok (.bipush 6, 2) := by decide +kernel
theorem dX9_restOf_18 : decode cX9_restOf 18 = .ok (.imul, 1) := by decide +kernel
theorem dX9_restOf_19 : decode cX9_restOf 19 = .ok (.iload_n 3, 1) := by decide +kernel
theorem dX9_restOf_20 : decode cX9_restOf 20 = .ok (.iadd, 1) := by decide +kernel
theorem dX9_restOf_21 : decode cX9_restOf 21 = .ok (.iaload, 1) := by decide +kernel
theorem dX9_restOf_22 : decode cX9_restOf 22 = .ok (.iadd, 1) := by decide +kernel
theorem dX9_restOf_23 : decode cX9_restOf 23 = .ok (.istore_n 2, 1) := by decide +kernel
theorem dX9_restOf_24 : decode cX9_restOf 24 = .ok (.iinc 3 1, 3) := by decide +kernel
theorem dX9_restOf_27 : decode cX9_restOf 27 = .ok (.goto (-23), 3) := by decide +kernel
theorem dX9_restOf_30 : decode cX9_restOf 30 = .ok (.iload_n 2, 1) := by decide +kernel
theorem dX9_restOf_31 : decode cX9_restOf 31 = .ok (.ireturn, 1) := by decide +kernel
theorem dX9_sumOf_0 : decode cX9_sumOf 0 = .ok (.iconst 0, 1) := by decide +kernel
theorem dX9_sumOf_1 : decode cX9_sumOf 1 = .ok (.istore_n 2, 1) := by decide +kernel
theorem dX9_sumOf_2 : decode cX9_sumOf 2 = .ok (.aload_n 1, 1) := by decide +kernel
theorem dX9_sumOf_3 : decode cX9_sumOf 3 = .ok (.astore_n 3, 1) := by decide +kernel
theorem dX9_sumOf_4 : decode cX9_sumOf 4 = .ok (.aload_n 3, 1) := by decide +kernel
theorem dX9_sumOf_5 : decode cX9_sumOf 5 = .ok (.arraylength, 1) := by decide +kernel
theorem dX9_sumOf_6 : decode cX9_sumOf 6 = .ok (.istore 4, 2) := by decide +kernel
theorem dX9_sumOf_8 : decode cX9_sumOf 8 = .ok (.iconst 0, 1) := by decide +kernel
theorem dX9_sumOf_9 : decode cX9_sumOf 9 = .ok (.istore 5, 2) := by decide +kernel
theorem dX9_sumOf_11 : decode cX9_sumOf 11 = .ok (.iload 5, 2) := by decide +kernel
theorem dX9_sumOf_13 : decode cX9_sumOf 13 = .ok (.iload 4, 2) := by decide +kernel
theorem dX9_sumOf_15 : decode cX9_sumOf 15 = .ok (.if_icmp .ge 20, 3) := by decide +kernel
theorem dX9_sumOf_18 : decode cX9_sumOf 18 = .ok (.aload_n 3, 1) := by decide +kernel
theorem dX9_sumOf_19 : decode cX9_sumOf 19 = .ok (.iload 5, 2) := by decide +kernel
theorem dX9_sumOf_21 : decode cX9_sumOf 21 = .ok (.iaload, 1) := by decide +kernel
theorem dX9_sumOf_22 : decode cX9_sumOf 22 = .ok (.istore 6, 2) := by decide +kernel
theorem dX9_sumOf_24 : decode cX9_sumOf 24 = .ok (.iload_n 2, 1) := by decide +kernel
theorem dX9_sumOf_25 : decode cX9_sumOf 25 = .ok (.iload 6, 2) := by decide +kernel
theorem dX9_sumOf_27 : decode cX9_sumOf 27 = .ok (.iadd, 1) := by decide +kernel
theorem dX9_sumOf_28 : decode cX9_sumOf 28 = .ok (.istore_n 2, 1) := by decide +kernel
theorem dX9_sumOf_29 : decode cX9_sumOf 29 = .ok (.iinc 5 1, 3) := by decide +kernel
theorem dX9_sumOf_32 : decode cX9_sumOf 32 = .ok (.goto (-21), 3) := by decide +kernel
theorem dX9_sumOf_35 : decode cX9_sumOf 35 = .ok (.iload_n 2, 1) := by decide +kernel
theorem dX9_sumOf_36 : decode cX9_sumOf 36 = .ok (.ireturn, 1) := by decide +kernel
theorem dX10_init_0 : decode cX10_init 0 = .ok (.aload_n 0, 1) := by decide +kernel
theorem dX10_init_1 : decode cX10_init 1 = .ok (.invokespecial 3, 3) := by decide +kernel
theorem dX10_init_4 : decode cX10_init 4 = .ok (.aload_n 0, 1) := by decide +kernel
theorem dX10_init_5 : decode cX10_init 5 = .ok (.bipush 80, 2) := by decide +kernel
theorem dX10_init_7 : decode cX10_init 7 = .ok (.newarray .char, 2) := by decide +kernel
theorem dX10_init_9 : decode cX10_init 9 = .ok (.putfield 9, 3) := by decide +kernel
theorem dX10_init_12 : decode cX10_init 12 = .ok (.aload_n 0, 1) := by decide +kernel
theorem dX10_init_13 : decode cX10_init 13 = .ok (.iconst (-1), 1) := by decide +kernel
theorem dX10_init_14 : decode cX10_init 14 = .ok (.putfield 15, 3) := by decide +kernel
theorem dX10_init_17 : decode cX10_init 17 = .ok (.return_, 1) := by decide +kernel
theorem dX10_add_0 : decode cX10_add 0 = .ok (.aload_n 0, 1) := by decide +kernel
theorem dX10_add_1 : decode cX10_add 1 = .ok (.getfield 19, 3) := by decide +kernel
theorem dX10_add_4 : decode cX10_add 4 = .ok (.bipush 80, 2) := by decide +kernel
theorem dX10_add_6 : decode cX10_add 6 = .ok (.if_icmp .lt 5, 3) := by decide +kernel
theorem dX10_add_9 : decode cX10_add 9 = .ok (.iconst 0, 1) := by decide +kernel
theorem dX10_add_10 : decode cX10_add 10 = .ok (.ireturn, 1) := by decide +kernel
theorem dX10_add_11 : decode cX10_add 11 = .ok (.aload_n 0, 1) := by decide +kernel
theorem dX10_add_12 : decode cX10_add 12 = .ok (.getfield 9, 3) := by decide +kernel
theorem dX10_add_15 : decode cX10_add 15 = .ok (.aload_n 0, 1) := by decide +kernel
theorem dX10_add_16 : decode cX10_add 16 = .ok (.getfield 19, 3) := by decide +kernel
theorem dX10_add_19 : decode cX10_add 19 = .ok (.iload_n 1, 1) := by decide +kernel
theorem dX10_add_20 : decode cX10_add 20 = .ok (.castore, 1) := by decide +kernel
theorem dX10_add_21 : decode cX10_add 21 = .ok (.aload_n 0, 1) := by decide +kernel
theorem dX10_add_22 : decode cX10_add 22 = .ok (.dup, 1) := by decide +kernel
theorem dX10_add_23 : decode cX10_add 23 = .ok (.getfield 19, 3) := by decide +kernel
theorem dX10_add_26 : decode cX10_add 26 = .ok (.iconst 1, 1) := by decide +kernel
theorem dX10_add_27 : decode cX10_add 27 = .ok (.iadd, 1) := by decide +kernel
theorem dX10_add_28 : decode cX10_add 28 = .ok (.putfield 19, 3) := by decide +kernel
theorem dX10_add_31 : decode cX10_add 31 = .ok (.iconst 1, 1) := by decide +kernel
theorem dX10_add_32 : decode cX10_add 32 = .ok (.ireturn, 1) := by decide +kernel
theorem dX10_clear_0 : decode cX10_clear 0 = .ok (.aload_n 0, 1) := by decide +kernel
theorem dX10_clear_1 : decode cX10_clear 1 = .ok (.iconst 0, 1) := by decide +kernel
theorem dX10_clear_2 : decode cX10_clear 2 = .ok (.putfield 19, 3) := by decide +kernel
theorem dX10_clear_5 : decode cX10_clear 5 = .ok (.return_, 1) := by decide +kernel
theorem dX10_start_0 : decode cX10_start 0 = .ok (.aload_n 0, 1) := by decide +kernel
theorem dX10_start_1 : decode cX10_start 1 = .ok (.iconst 0, 1) := by decide +kernel
theorem dX10_start_2 : decode cX10_start 2 = .ok (.putfield 22, 3) := by decide +kernel
theorem dX10_start_5 : decode cX10_start 5 = .ok (.return_, 1) := by decide +kernel
theorem dX10_isAtEnd_0 : decode cX10_isAtEnd 0 = .ok (.aload_n 0, 1) := by decide +kernel
theorem dX10_isAtEnd_1 : decode cX10_isAtEnd 1 = .ok (.getfield 22, 3) := by decide +kernel
theorem dX10_isAtEnd_4 : decode cX10_isAtEnd 4 = .ok (.aload_n 0, 1) := by decide +kernel
theorem dX10_isAtEnd_5 : decode cX10_isAtEnd 5 = .ok (.getfield 19, 3) := by decide +kernel
theorem dX10_isAtEnd_8 : decode cX10_isAtEnd 8 = .ok (.if_icmp .lt 7, 3) := by decide +kernel
theorem dX10_isAtEnd_11 : decode cX10_isAtEnd 11 = .ok (.iconst 1, 1) := by decide +kernel
theorem dX10_isAtEnd_12 : decode cX10_isAtEnd 12 = .ok (.goto 4, 3) := by decide +kernel
theorem dX10_isAtEnd_15 : decode cX10_isAtEnd 15 = .ok (.iconst 0, 1) := by decide +kernel
theorem dX10_isAtEnd_16 : decode cX10_isAtEnd 16 = .ok (.ireturn, 1) := by decide +kernel
theorem dX10_skip_0 : decode cX10_skip 0 = .ok (.aload_n 0, 1) := by decide +kernel
theorem dX10_skip_1 : decode cX10_skip 1 = .ok (.invokevirtual 25, 3) := by decide +kernel
theorem dX10_skip_4 : decode cX10_skip 4 = .ok (.ifCond .ne 16, 3) := by decide +kernel
theorem dX10_skip_7 : decode cX10_skip 7 = .ok (.aload_n 0, 1) := by decide +kernel
theorem dX10_skip_8 : decode cX10_skip 8 = .ok (.getfield 9, 3) := by decide +kernel
theorem dX10_skip_11 : decode cX10_skip 11 = .ok (.aload_n 0, 1) := by decide +kernel
theorem dX10_skip_12 : decode cX10_skip 12 = .ok (.getfield 22, 3) := by decide +kernel
theorem dX10_skip_15 : decode cX10_skip 15 = .ok (.caload, 1) := by decide +kernel
theorem dX10_skip_16 : decode cX10_skip 16 = .ok (.iload_n 1, 1) := by decide +kernel
theorem dX10_skip_17 : decode cX10_skip 17 = .ok (.if_icmp .eq 5, 3) := by decide +kernel
theorem dX10_skip_20 : decode cX10_skip 20 = .ok (.iconst 0, 1) := by decide +kernel
theorem dX10_skip_21 : decode cX10_skip 21 = .ok (.ireturn, 1) := by decide +kernel
theorem dX10_skip_22 : decode cX10_skip 22 = .ok (.aload_n 0, 1) := by decide +kernel
theorem dX10_skip_23 : decode cX10_skip 23 = .ok (.dup, 1) := by decide +kernel
theorem dX10_skip_24 : decode cX10_skip 24 = .ok (.getfield 22, 3) := by decide +kernel
theorem dX10_skip_27 : decode cX10_skip 27 = .ok (.iconst 1, 1) := by decide +kernel
theorem dX10_skip_28 : decode cX10_skip 28 = .ok (.iadd, 1) := by decide +kernel
theorem dX10_skip_29 : decode cX10_skip 29 = .ok (.putfield 22, 3) := by decide +kernel
theorem dX10_skip_32 : decode cX10_skip 32 = .ok (.iconst 1, 1) := by decide +kernel
theorem dX10_skip_33 : decode cX10_skip 33 = .ok (.ireturn, 1) := by decide +kernel
theorem dX10_number_0 : decode cX10_number 0 = .ok (.iconst (-1), 1) := by decide +kernel
theorem dX10_number_1 : decode cX10_number 1 = .ok (.istore_n 2, 1) := by decide +kernel
theorem dX10_number_2 : decode cX10_number 2 = .ok (.iconst 0, 1) := by decide +kernel
theorem dX10_number_3 : decode cX10_number 3 = .ok (.istore_n 3, 1) := by decide +kernel
theorem dX10_number_4 : decode cX10_number 4 = .ok (.iload_n 3, 1) := by decide +kernel
theorem dX10_number_5 : decode cX10_number 5 = .ok (.iload_n 1, 1) := by decide +kernel
theorem dX10_number_6 : decode cX10_number 6 = .ok (.if_icmp .ge 48, 3) := by decide +kernel
theorem dX10_number_9 : decode cX10_number 9 = .ok (.aload_n 0, 1) := by decide +kernel
theorem dX10_number_10 : decode cX10_number 10 = .ok (.invokevirtual 29, 3) := by decide +kernel
theorem dX10_number_13 : decode cX10_number 13 = .ok (.ifCond .eq 41, 3) := by decide +kernel
theorem dX10_number_16 : decode cX10_number 16 = .ok (.iconst 0, 1) := by decide +kernel
theorem dX10_number_17 : decode cX10_number 17 = .ok (.iload_n 2, 1) := by decide +kernel
theorem dX10_number_18 : decode cX10_number 18 = .ok (.invokestatic 32, 3) := by decide +kernel
theorem dX10_number_21 : decode cX10_number 21 = .ok (.bipush 10, 2) := by decide +kernel
theorem dX10_number_23 : decode cX10_number 23 = .ok (.imul, 1) := by decide +kernel
theorem dX10_number_24 : decode cX10_number 24 = .ok (.aload_n 0, 1) := by decide +kernel
theorem dX10_number_25 : decode cX10_number 25 = .ok (.getfield 9, 3) := by decide +kernel
theorem dX10_number_28 : decode cX10_number 28 = .ok (.aload_n 0, 1) := by decide +kernel
theorem dX10_number_29 : decode cX10_number 29 = .ok (.getfield 22, 3) := by decide +kernel
theorem dX10_number_32 : decode cX10_number 32 = .ok (.caload, 1) := by decide +kernel
theorem dX10_number_33 : decode cX10_number 33 = .ok (.bipush 48, 2) := by decide +kernel
theorem dX10_number_35 : decode cX10_number 35 = .ok (.isub, 1) := by decide +kernel
theorem dX10_number_36 : decode cX10_number 36 = .ok (.iadd, 1) := by decide +kernel
theorem dX10_number_37 : decode cX10_number 37 = .ok (.istore_n 2, 1) := by decide +kernel
theorem dX10_number_38 : decode cX10_number 38 = .ok (.aload_n 0, 1) := by decide +kernel
theorem dX10_number_39 : decode cX10_number 39 = .ok (.dup, 1) := by decide +kernel
theorem dX10_number_40 : decode cX10_number 40 = .ok (.getfield 22, 3) := by decide +kernel
theorem dX10_number_43 : decode cX10_number 43 = .ok (.iconst 1, 1) := by decide +kernel
theorem dX10_number_44 : decode cX10_number 44 = .ok (.iadd, 1) := by decide +kernel
theorem dX10_number_45 : decode cX10_number 45 = .ok (.putfield 22, 3) := by decide +kernel
theorem dX10_number_48 : decode cX10_number 48 = .ok (.iinc 3 1, 3) := by decide +kernel
theorem dX10_number_51 : decode cX10_number 51 = .ok (.goto (-47), 3) := by decide +kernel
theorem dX10_number_54 : decode cX10_number 54 = .ok (.iload_n 2, 1) := by decide +kernel
theorem dX10_number_55 : decode cX10_number 55 = .ok (.ireturn, 1) := by decide +kernel
theorem dX10_isAtDigit_0 : decode cX10_isAtDigit 0 = .ok (.aload_n 0, 1) := by decide +kernel
theorem dX10_isAtDigit_1 : decode cX10_isAtDigit 1 = .ok (.getfield 22, 3) := by decide +kernel
theorem dX10_isAtDigit_4 : decode cX10_isAtDigit 4 = .ok (.aload_n 0, 1) := by decide +kernel
theorem dX10_isAtDigit_5 : decode cX10_isAtDigit 5 = .ok (.getfield 19, 3) := by decide +kernel
theorem dX10_isAtDigit_8 : decode cX10_isAtDigit 8 = .ok (.if_icmp .ge 35, 3) := by decide +kernel
theorem dX10_isAtDigit_11 : decode cX10_isAtDigit 11 = .ok (.aload_n 0, 1) := by decide +kernel
theorem dX10_isAtDigit_12 : decode cX10_isAtDigit 12 = .ok (.getfield 9, 3) := by decide +kernel
theorem dX10_isAtDigit_15 : decode cX10_isAtDigit 15 = .ok (.aload_n 0, 1) := by decide +kernel
theorem dX10_isAtDigit_16 : decode cX10_isAtDigit 16 = .ok (.getfield 22, 3) := by decide +kernel
theorem dX10_isAtDigit_19 : decode cX10_isAtDigit 19 = .ok (.caload, 1) := by decide +kernel
theorem dX10_isAtDigit_20 : decode cX10_isAtDigit 20 = .ok (.bipush 48, 2) := by decide +kernel
theorem dX10_isAtDigit_22 : decode cX10_isAtDigit 22 = .ok (.if_icmp .lt 21, 3) := by decide +kernel
theorem dX10_isAtDigit_25 : decode cX10_isAtDigit 25 = .ok (.aload_n 0, 1) := by decide +kernel
theorem dX10_isAtDigit_26 : decode cX10_isAtDigit 26 = .ok (.getfield 9, 3) := by decide +kernel
theorem dX10_isAtDigit_29 : decode cX10_isAtDigit 29 = .ok (.aload_n 0, 1) := by decide +kernel
theorem dX10_isAtDigit_30 : decode cX10_isAtDigit 30 = .ok (.getfield 22, 3) := by decide +kernel
theorem dX10_isAtDigit_33 : decode cX10_isAtDigit 33 = .ok (.caload, 1) := by decide +kernel
theorem dX10_isAtDigit_34 : decode cX10_isAtDigit 34 = .ok (.bipush 57, 2) := by decide +kernel
theorem dX10_isAtDigit_36 : decode cX10_isAtDigit 36 = .ok (.if_icmp .gt 7, 3) := by decide +kernel
theorem dX10_isAtDigit_39 : decode cX10_isAtDigit 39 = .ok (.iconst 1, 1) := by decide +kernel
theorem dX10_isAtDigit_40 : decode cX10_isAtDigit 40 = .ok (.goto 4, 3) := by decide +kernel
theorem dX10_isAtDigit_43 : decode cX10_isAtDigit 43 = .ok (.iconst 0, 1) := by decide +kernel
theorem dX10_isAtDigit_44 : decode cX10_isAtDigit 44 = .ok (.ireturn, 1) := by decide +kernel
theorem dX10_end_0 : decode cX10_end 0 = .ok (.aload_n 0, 1) := by decide +kernel
theorem dX10_end_1 : decode cX10_end 1 = .ok (.iload_n 1, 1) := by decide +kernel
theorem dX10_end_2 : decode cX10_end 2 = .ok (.ifCond .eq 7, 3) := by decide +kernel
theorem dX10_end_5 : decode cX10_end 5 = .ok (.iconst (-1), 1) := by decide +kernel
theorem dX10_end_6 : decode cX10_end 6 = .ok (.goto 7, 3) := by decide +kernel
theorem dX10_end_9 : decode cX10_end 9 = .ok (.aload_n 0, 1) := by decide +kernel
theorem dX10_end_10 : decode cX10_end 10 = .ok (.getfield 22, 3) := by decide +kernel
theorem dX10_end_13 : decode cX10_end 13 = .ok (.putfield 15, 3) := by decide +kernel
theorem dX10_end_16 : decode cX10_end 16 = .ok (.iload_n 1, 1) := by decide +kernel
theorem dX10_end_17 : decode cX10_end 17 = .ok (.ireturn, 1) := by decide +kernel
theorem dX11_init_0 : decode cX11_init 0 = .ok (.aload_n 0, 1) := by decide +kernel
theorem dX11_init_1 : decode cX11_init 1 = .ok (.invokespecial 3, 3) := by decide +kernel
theorem dX11_init_4 : decode cX11_init 4 = .ok (.aload_n 0, 1) := by decide +kernel
theorem dX11_init_5 : decode cX11_init 5 = .ok (.new 9, 3) := by decide +kernel
theorem dX11_init_8 : decode cX11_init 8 = .ok (.dup, 1) := by decide +kernel
theorem dX11_init_9 : decode cX11_init 9 = .ok (.invokespecial 11, 3) := by decide +kernel
theorem dX11_init_12 : decode cX11_init 12 = .ok (.putfield 12, 3) := by decide +kernel
theorem dX11_init_15 : decode cX11_init 15 = .ok (.aload_n 0, 1) := by decide +kernel
theorem dX11_init_16 : decode cX11_init 16 = .ok (.new 9, 3) := by decide +kernel
theorem dX11_init_19 : decode cX11_init 19 = .ok (.dup, 1) := by decide +kernel
theorem dX11_init_20 : decode cX11_init 20 = .ok (.invokespecial 11, 3) := by decide +kernel
theorem dX11_init_23 : decode cX11_init 23 = .ok (.putfield 16, 3) := by decide +kernel
theorem dX11_init_26 : decode cX11_init 26 = .ok (.aload_n 0, 1) := by decide +kernel
theorem dX11_init_27 : decode cX11_init 27 = .ok (.new 19, 3) := by decide +kernel
theorem dX11_init_30 : decode cX11_init 30 = .ok (.dup, 1) := by decide +kernel
theorem dX11_init_31 : decode cX11_init 31 = .ok (.invokespecial 21, 3) := by decide +kernel
theorem dX11_init_34 : decode cX11_init 34 = .ok (.putfield 22, 3) := by decide +kernel
theorem dX11_init_37 : decode cX11_init 37 = .ok (.aload_n 0, 1) := by decide +kernel
theorem dX11_init_38 : decode cX11_init 38 = .ok (.new 26, 3) := by decide +kernel
theorem dX11_init_41 : decode cX11_init 41 = .ok (.dup, 1) := by decide +kernel
theorem dX11_init_42 : decode cX11_init 42 = .ok (.invokespecial 28, 3) := by decide +kernel
theorem dX11_init_45 : decode cX11_init 45 = .ok (.putfield 29, 3) := by decide +kernel
theorem dX11_init_48 : decode cX11_init 48 = .ok (.aload_n 0, 1) := by decide +kernel
theorem dX11_init_49 : decode cX11_init 49 = .ok (.new 33, 3) := by decide +kernel
theorem dX11_init_52 : decode cX11_init 52 = .ok (.dup, 1) := by decide +kernel
theorem dX11_init_53 : decode cX11_init 53 = .ok (.invokespecial 35, 3) := by decide +kernel
theorem dX11_init_56 : decode cX11_init 56 = .ok (.putfield 36, 3) := by decide +kernel
theorem dX11_init_59 : decode cX11_init 59 = .ok (.aload_n 0, 1) := by decide +kernel
theorem dX11_init_60 : decode cX11_init 60 = .ok (.new 40, 3) := by decide +kernel
theorem dX11_init_63 : decode cX11_init 63 = .ok (.dup, 1) := by decide +kernel
theorem dX11_init_64 : decode cX11_init 64 = .ok (.invokespecial 42, 3) := by decide +kernel
theorem dX11_init_67 : decode cX11_init 67 = .ok (.putfield 43, 3) := by decide +kernel
theorem dX11_init_70 : decode cX11_init 70 = .ok (.aload_n 0, 1) := by decide +kernel
theorem dX11_init_71 : decode cX11_init 71 = .ok (.new 47, 3) := by decide +kernel
theorem dX11_init_74 : decode cX11_init 74 = .ok (.dup, 1) := by decide +kernel
theorem dX11_init_75 : decode cX11_init 75 = .ok (.invokespecial 49, 3) := by decide +kernel
theorem dX11_init_78 : decode cX11_init 78 = .ok (.putfield 50, 3) := by decide +kernel
theorem dX11_init_81 : decode cX11_init 81 = .ok (.aload_n 0, 1) := by decide +kernel
theorem dX11_init_82 : decode cX11_init 82 = .ok (.new 54, 3) := by decide +kernel
theorem dX11_init_85 : decode cX11_init 85 = .ok (.dup, 1) := by decide +kernel
theorem dX11_init_86 : decode cX11_init 86 = .ok (.invokespecial 56, 3) := by decide +kernel
theorem dX11_init_89 : decode cX11_init 89 = .ok (.putfield 57, 3) := by decide +kernel
theorem dX11_init_92 : decode cX11_init 92 = .ok (.return_, 1) := by decide +kernel
theorem dX11_append_0 : decode cX11_append 0 = .ok (.aload_n 0, 1) := by decide +kernel
theorem dX11_append_1 : decode cX11_append 1 = .ok (.getfield 36, 3) := by decide +kernel
theorem dX11_append_4 : decode cX11_append 4 = .ok (.iload_n 1, 1) := by decide +kernel
theorem dX11_append_5 : decode cX11_append 5 = .ok (.invokevirtual 61, 3) := by decide +kernel
theorem dX11_append_8 : decode cX11_append 8 = .ok (.ifCond .ne 13, 3) := by decide +kernel
theorem dX11_append_11 : decode cX11_append 11 = .ok (.new 65, 3) := by decide +kernel
theorem dX11_append_14 : decode cX11_append 14 = .ok (.dup, 1) := by decide +kernel
theorem dX11_append_15 : decode cX11_append 15 = .ok (.ldc 67, 2) := by decide +kernel
theorem dX11_append_17 : decode cX11_append 17 = .ok (.invokespecial 69, 3) := by decide +kernel
theorem dX11_append_20 : decode cX11_append 20 = .ok (.athrow, 1) := by decide +kernel
theorem dX11_append_21 : decode cX11_append 21 = .ok (.aload_n 0, 1) := by decide +kernel
theorem dX11_append_22 : decode cX11_append 22 = .ok (.getfield 36, 3) := by decide +kernel
theorem dX11_append_25 : decode cX11_append 25 = .ok (.getfield 72, 3) := by decide +kernel
theorem dX11_append_28 : decode cX11_append 28 = .ok (.ireturn, 1) := by decide +kernel
theorem dX11_colour_0 : decode cX11_colour 0 = .ok (.aload_n 0, 1) := by decide +kernel
theorem dX11_colour_1 : decode cX11_colour 1 = .ok (.getfield 22, 3) := by decide +kernel
theorem dX11_colour_4 : decode cX11_colour 4 = .ok (.aload_n 0, 1) := by decide +kernel
theorem dX11_colour_5 : decode cX11_colour 5 = .ok (.getfield 12, 3) := by decide +kernel
theorem dX11_colour_8 : decode cX11_colour 8 = .ok (.invokevirtual 76, 3) := by decide +kernel
theorem dX11_colour_11 : decode cX11_colour 11 = .ok (.aload_n 0, 1) := by decide +kernel
theorem dX11_colour_12 : decode cX11_colour 12 = .ok (.aload_n 0, 1) := by decide +kernel
theorem dX11_colour_13 : decode cX11_colour 13 = .ok (.getfield 12, 3) := by decide +kernel
theorem dX11_colour_16 : decode cX11_colour 16 = .ok (.getfield 80, 3) := by decide +kernel
theorem dX11_colour_19 : decode cX11_colour 19 = .ok (.iload_n 1, 1) := by decide +kernel
theorem dX11_colour_20 : decode cX11_colour 20 = .ok (.aload_n 0, 1) := by decide +kernel
theorem dX11_colour_21 : decode cX11_colour 21 = .ok (.getfield 29, 3) := by decide +kernel
theorem dX11_colour_24 : decode cX11_colour 24 = .ok (.invokevirtual 84, 3) := by decide +kernel
theorem dX11_colour_27 : decode cX11_colour 27 = .ok (.invokevirtual 90, 3) := by decide +kernel
theorem dX11_colour_30 : decode cX11_colour 30 = .ok (.ireturn, 1) := by decide +kernel
theorem dX11_part_0 : decode cX11_part 0 = .ok (.aload_n 0, 1) := by decide +kernel
theorem dX11_part_1 : decode cX11_part 1 = .ok (.getfield 22, 3) := by decide +kernel
theorem dX11_part_4 : decode cX11_part 4 = .ok (.aload_n 0, 1) := by decide +kernel
theorem dX11_part_5 : decode cX11_part 5 = .ok (.getfield 12, 3) := by decide +kernel
theorem dX11_part_8 : decode cX11_part 8 = .ok (.invokevirtual 76, 3) := by decide +kernel
theorem dX11_part_11 : decode cX11_part 11 = .ok (.aload_n 0, 1) := by decide +kernel
theorem dX11_part_12 : decode cX11_part 12 = .ok (.aload_n 0, 1) := by decide +kernel
theorem dX11_part_13 : decode cX11_part 13 = .ok (.getfield 12, 3) := by decide +kernel
theorem dX11_part_16 : decode cX11_part 16 = .ok (.getfield 80, 3) := by decide +kernel
theorem dX11_part_19 : decode cX11_part 19 = .ok (.iload_n 1, 1) := by decide +kernel
theorem dX11_part_20 : decode cX11_part 20 = .ok (.aload_n 0, 1) := by decide +kernel
theorem dX11_part_21 : decode cX11_part 21 = .ok (.getfield 29, 3) := by decide +kernel
theorem dX11_part_24 : decode cX11_part 24 = .ok (.invokevirtual 94, 3) := by decide +kernel
theorem dX11_part_27 : decode cX11_part 27 = .ok (.invokevirtual 90, 3) := by decide +kernel
theorem dX11_part_30 : decode cX11_part 30 = .ok (.ireturn, 1) := by decide +kernel
theorem dX11_family_0 : decode cX11_family 0 = .ok (.aload_n 0, 1) := by decide +kernel
theorem dX11_family_1 : decode cX11_family 1 = .ok (.getfield 43, 3) := by decide +kernel
theorem dX11_family_4 : decode cX11_family 4 = .ok (.aload_n 0, 1) := by decide +kernel
theorem dX11_family_5 : decode cX11_family 5 = .ok (.getfield 36, 3) := by decide +kernel
theorem dX11_family_8 : decode cX11_family 8 = .ok (.invokevirtual 97, 3) := by decide +kernel
theorem dX11_family_11 : decode cX11_family 11 = .ok (.istore_n 1, 1) := by decide +kernel
theorem dX11_family_12 : decode cX11_family 12 = .ok (.aload_n 0, 1) := by decide +kernel
theorem dX11_family_13 : decode cX11_family 13 = .ok (.getfield 36, 3) := by decide +kernel
theorem dX11_family_16 : decode cX11_family 16 = .ok (.invokevirtual 101, 3) := by decide +kernel
theorem dX11_family_19 : decode cX11_family 19 = .ok (.iload_n 1, 1) := by decide +kernel
theorem dX11_family_20 : decode cX11_family 20 = .ok (.ifCond .ne 13, 3) := by decide +kernel
theorem dX11_family_23 : decode cX11_family 23 = .ok (.new 104, 3) := by decide +kernel
theorem dX11_family_26 : decode cX11_family 26 = .ok (.dup, 1) := by decide +kernel
theorem dX11_family_27 : decode cX11_family 27 = .ok (.ldc 106, 2) := by decide +kernel
theorem dX11_family_29 : decode cX11_family 29 = .ok (.invokespecial 108, 3) := by decide +kernel
theorem dX11_family_32 : decode cX11_family 32 = .ok (.athrow, 1) := by decide +kernel
theorem dX11_family_33 : decode cX11_family 33 = .ok (.aload_n 0, 1) := by decide +kernel
theorem dX11_family_34 : decode cX11_family 34 = .ok (.getfield 22, 3) := by decide +kernel
theorem dX11_family_37 : decode cX11_family 37 = .ok (.aload_n 0, 1) := by decide +kernel
theorem dX11_family_38 : decode cX11_family 38 = .ok (.getfield 12, 3) := by decide +kernel
theorem dX11_family_41 : decode cX11_family 41 = .ok (.invokevirtual 76, 3) := by decide +kernel
theorem dX11_family_44 : decode cX11_family 44 = .ok (.aload_n 0, 1) := by decide +kernel
theorem dX11_family_45 : decode cX11_family 45 = .ok (.aload_n 0, 1) := by decide +kernel
theorem dX11_family_46 : decode cX11_family 46 = .ok (.getfield 12, 3) := by decide +kernel
theorem dX11_family_49 : decode cX11_family 49 = .ok (.getfield 80, 3) := by decide +kernel
theorem dX11_family_52 : decode cX11_family 52 = .ok (.aload_n 0, 1) := by decide +kernel
theorem dX11_family_53 : decode cX11_family 53 = .ok (.getfield 43, 3) := by decide +kernel
theorem dX11_family_56 : decode cX11_family 56 = .ok (.aload_n 0, 1) := by decide +kernel
theorem dX11_family_57 : decode cX11_family 57 = .ok (.getfield 29, 3) := by decide +kernel
theorem dX11_family_60 : decode cX11_family 60 = .ok (.invokevirtual 109, 3) := by decide +kernel
theorem dX11_family_63 : decode cX11_family 63 = .ok (.invokevirtual 90, 3) := by decide +kernel
theorem dX11_family_66 : decode cX11_family 66 = .ok (.ireturn, 1) := by decide +kernel
theorem dX11_program_0 : decode cX11_program 0 = .ok (.aload_n 0, 1) := by decide +kernel
theorem dX11_program_1 : decode cX11_program 1 = .ok (.getfield 50, 3) := by decide +kernel
theorem dX11_program_4 : decode cX11_program 4 = .ok (.aload_n 0, 1) := by decide +kernel
theorem dX11_program_5 : decode cX11_program 5 = .ok (.getfield 36, 3) := by decide +kernel
theorem dX11_program_8 : decode cX11_program 8 = .ok (.invokevirtual 113, 3) := by decide +kernel
theorem dX11_program_11 : decode cX11_program 11 = .ok (.istore_n 1, 1) := by decide +kernel
theorem dX11_program_12 : decode cX11_program 12 = .ok (.aload_n 0, 1) := by decide +kernel
theorem dX11_program_13 : decode cX11_program 13 = .ok (.getfield 36, 3) := by decide +kernel
theorem dX11_program_16 : decode cX11_program 16 = .ok (.invokevirtual 101, 3) := by decide +kernel
theorem dX11_program_19 : decode cX11_program 19 = .ok (.iload_n 1, 1) := by decide +kernel
theorem dX11_program_20 : decode cX11_program 20 = .ok (.ifCond .ne 13, 3) := by decide +kernel
theorem dX11_program_23 : decode cX11_program 23 = .ok (.new 104, 3) := by decide +kernel
theorem dX11_program_26 : decode cX11_program 26 = .ok (.dup, 1) := by decide +kernel
theorem dX11_program_27 : decode cX11_program 27 = .ok (.ldc 114, 2) := by decide +kernel
theorem dX11_program_29 : decode cX11_program 29 = .ok (.invokespecial 108, 3) := by decide +kernel
theorem dX11_program_32 : decode cX11_program 32 = .ok (.athrow, 1) := by decide +kernel
theorem dX11_program_33 : decode cX11_program 33 = .ok (.aload_n 0, 1) := by decide +kernel
theorem dX11_program_34 : decode cX11_program 34 = .ok (.getfield 22, 3) := by decide +kernel
theorem dX11_program_37 : decode cX11_program 37 = .ok (.aload_n 0, 1) := by decide +kernel
theorem dX11_program_38 : decode cX11_program 38 = .ok (.getfield 12, 3) := by decide +kernel
theorem dX11_program_41 : decode cX11_program 41 = .ok (.invokevirtual 76, 3) := by decide +kernel
theorem dX11_program_44 : decode cX11_program 44 = .ok (.iconst 0, 1) := by decide +kernel
theorem dX11_program_45 : decode cX11_program 45 = .ok (.istore_n 2, 1) := by decide +kernel
theorem dX11_program_46 : decode cX11_program 46 = .ok (.iload_n 2, 1) := by decide +kernel
theorem dX11_program_47 : decode cX11_program 47 = .ok (.aload_n 0, 1) := by decide +kernel
theorem dX11_program_48 : decode cX11_program 48 = .ok (.getfield 50, 3) := by decide +kernel
theorem dX11_program_51 : decode cX11_program 51 = .ok (.getfield 116, 3) := by decide +kernel
theorem dX11_program_54 : decode cX11_program 54 = .ok (.if_icmp .ge 49, 3) := by decide +kernel
theorem dX11_program_57 : decode cX11_program 57 = .ok (.aload_n 0, 1) := by decide +kernel
theorem dX11_program_58 : decode cX11_program 58 = .ok (.iload_n 2, 1) := by decide +kernel
theorem dX11_program_59 : decode cX11_program 59 = .ok (.invokevirtual 119, 3) := by decide +kernel
theorem dX11_program_62 : decode cX11_program 62 = .ok (.iconst (-1), 1) := by decide +kernel
theorem dX11_program_63 : decode cX11_program 63 = .ok (.if_icmp .ne 34, 3) := by decide +kernel
theorem dX11_program_66 : decode cX11_program 66 = .ok (.aload_n 0, 1) := by decide +kernel
theorem dX11_program_67 : decode cX11_program 67 = .ok (.getfield 29, 3) := by decide +kernel
theorem dX11_program_70 : decode cX11_program 70 = .ok (.bipush 13, 2) := by decide +kernel
theorem dX11_program_72 : decode cX11_program 72 = .ok (.iload_n 2, 1) := by decide +kernel
theorem dX11_program_73 : decode cX11_program 73 = .ok (.invokevirtual 122, 3) := by decide +kernel
theorem dX11_program_76 : decode cX11_program 76 = .ok (.aload_n 0, 1) := by decide +kernel
theorem dX11_program_77 : decode cX11_program 77 = .ok (.getfield 22, 3) := by decide +kernel
theorem dX11_program_80 : decode cX11_program 80 = .ok (.aload_n 0, 1) := by decide +kernel
theorem dX11_program_81 : decode cX11_program 81 = .ok (.getfield 12, 3) := by decide +kernel
theorem dX11_program_84 : decode cX11_program 84 = .ok (.invokevirtual 126, 3) := by decide +kernel
theorem dX11_program_87 : decode cX11_program 87 = .ok (.new 129, 3) := by decide +kernel
theorem dX11_program_90 : decode cX11_program 90 = .ok (.dup, 1) := by decide +kernel
theorem dX11_program_91 : decode cX11_program 91 = .ok (.ldc 131, 2) := by decide +kernel
theorem dX11_program_93 : decode cX11_program 93 = .ok (.invokespecial 133, 3) := by decide +kernel
theorem dX11_program_96 : decode cX11_program 96 = .ok (.athrow, 1) := by decide +kernel
theorem dX11_program_97 : decode cX11_program 97 = .ok (.iinc 2 1, 3) := by decide +kernel
theorem dX11_program_100 : decode cX11_program 100 = .ok (.goto (-54), 3) := by decide +kernel
theorem dX11_program_103 : decode cX11_program 103 = .ok (.aload_n 0, 1) := by decide +kernel
theorem dX11_program_104 : decode cX11_program 104 = .ok (.aload_n 0, 1) := by decide +kernel
theorem dX11_program_105 : decode cX11_program 105 = .ok (.getfield 50, 3) := by decide +kernel
theorem dX11_program_108 : decode cX11_program 108 = .ok (.getfield 116, 3) := by decide +kernel
theorem dX11_program_111 : decode cX11_program 111 = .ok (.invokevirtual 90, 3) := by decide +kernel
theorem dX11_program_114 : decode cX11_program 114 = .ok (.ireturn, 1) := by decide +kernel
theorem dX11_faultPosition_0 : decode cX11_faultPosition 0 = .ok (.aload_n 0, 1) := by decide +kernel
theorem dX11_faultPosition_1 : decode cX11_faultPosition 1 = .ok (.getfield 36, 3) := by decide +kernel
theorem dX11_faultPosition_4 : decode cX11_faultPosition 4 = .ok (.getfield 134, 3) := by decide +kernel
theorem dX11_faultPosition_7 : decode cX11_faultPosition 7 = .ok (.ireturn, 1) := by decide +kernel
theorem dX11_mount_0 : decode cX11_mount 0 = .ok (.aload_n 0, 1) := by decide +kernel
theorem dX11_mount_1 : decode cX11_mount 1 = .ok (.getfield 22, 3) := by decide +kernel
theorem dX11_mount_4 : decode cX11_mount 4 = .ok (.aload_n 0, 1) := by decide +kernel
theorem dX11_mount_5 : decode cX11_mount 5 = .ok (.getfield 12, 3) := by decide +kernel
theorem dX11_mount_8 : decode cX11_mount 8 = .ok (.invokevirtual 76, 3) := by decide +kernel
theorem dX11_mount_11 : decode cX11_mount 11 = .ok (.aload_n 0, 1) := by decide +kernel
theorem dX11_mount_12 : decode cX11_mount 12 = .ok (.aload_n 0, 1) := by decide +kernel
theorem dX11_mount_13 : decode cX11_mount 13 = .ok (.getfield 12, 3) := by decide +kernel
theorem dX11_mount_16 : decode cX11_mount 16 = .ok (.iload_n 1, 1) := by decide +kernel
theorem dX11_mount_17 : decode cX11_mount 17 = .ok (.aload_n 0, 1) := by decide +kernel
theorem dX11_mount_18 : decode cX11_mount 18 = .ok (.getfield 29, 3) := by decide +kernel
theorem dX11_mount_21 : decode cX11_mount 21 = .ok (.invokevirtual 137, 3) := by decide +kernel
theorem dX11_mount_24 : decode cX11_mount 24 = .ok (.invokevirtual 90, 3) := by decide +kernel
theorem dX11_mount_27 : decode cX11_mount 27 = .ok (.ireturn, 1) := by decide +kernel
theorem dX11_load_0 : decode cX11_load 0 = .ok (.aload_n 0, 1) := by decide +kernel
theorem dX11_load_1 : decode cX11_load 1 = .ok (.getfield 22, 3) := by decide +kernel
theorem dX11_load_4 : decode cX11_load 4 = .ok (.aload_n 0, 1) := by decide +kernel
theorem dX11_load_5 : decode cX11_load 5 = .ok (.getfield 12, 3) := by decide +kernel
theorem dX11_load_8 : decode cX11_load 8 = .ok (.invokevirtual 76, 3) := by decide +kernel
theorem dX11_load_11 : decode cX11_load 11 = .ok (.aload_n 0, 1) := by decide +kernel
theorem dX11_load_12 : decode cX11_load 12 = .ok (.aload_n 0, 1) := by decide +kernel
theorem dX11_load_13 : decode cX11_load 13 = .ok (.getfield 12, 3) := by decide +kernel
theorem dX11_load_16 : decode cX11_load 16 = .ok (.iload_n 1, 1) := by decide +kernel
theorem dX11_load_17 : decode cX11_load 17 = .ok (.iload_n 2, 1) := by decide +kernel
theorem dX11_load_18 : decode cX11_load 18 = .ok (.iload_n 3, 1) := by decide +kernel
theorem dX11_load_19 : decode cX11_load 19 = .ok (.aload_n 0, 1) := by decide +kernel
theorem dX11_load_20 : decode cX11_load 20 = .ok (.getfield 29, 3) := by decide +kernel
theorem dX11_load_23 : decode cX11_load 23 = .ok (.invokevirtual 140, 3) := by decide +kernel
theorem dX11_load_26 : decode cX11_load 26 = .ok (.invokevirtual 90, 3) := by decide +kernel
theorem dX11_load_29 : decode cX11_load 29 = .ok (.ireturn, 1) := by decide +kernel
theorem dX11_empty_0 : decode cX11_empty 0 = .ok (.aload_n 0, 1) := by decide +kernel
theorem dX11_empty_1 : decode cX11_empty 1 = .ok (.getfield 22, 3) := by decide +kernel
theorem dX11_empty_4 : decode cX11_empty 4 = .ok (.aload_n 0, 1) := by decide +kernel
theorem dX11_empty_5 : decode cX11_empty 5 = .ok (.getfield 12, 3) := by decide +kernel
theorem dX11_empty_8 : decode cX11_empty 8 = .ok (.invokevirtual 76, 3) := by decide +kernel
theorem dX11_empty_11 : decode cX11_empty 11 = .ok (.aload_n 0, 1) := by decide +kernel
theorem dX11_empty_12 : decode cX11_empty 12 = .ok (.aload_n 0, 1) := by decide +kernel
theorem dX11_empty_13 : decode cX11_empty 13 = .ok (.getfield 12, 3) := by decide +kernel
theorem dX11_empty_16 : decode cX11_empty 16 = .ok (.getfield 144, 3) := by decide +kernel
theorem dX11_empty_19 : decode cX11_empty 19 = .ok (.iload_n 1, 1) := by decide +kernel
theorem dX11_empty_20 : decode cX11_empty 20 = .ok (.aload_n 0, 1) := by decide +kernel
theorem dX11_empty_21 : decode cX11_empty 21 = .ok (.getfield 29, 3) := by decide +kernel
theorem dX11_empty_24 : decode cX11_empty 24 = .ok (.invokevirtual 148, 3) := by decide +kernel
theorem dX11_empty_27 : decode cX11_empty 27 = .ok (.invokevirtual 90, 3) := by decide +kernel
theorem dX11_empty_30 : decode cX11_empty 30 = .ok (.ireturn, 1) := by decide +kernel
theorem dX11_pause_0 : decode cX11_pause 0 = .ok (.aload_n 0, 1) := by decide +kernel
theorem dX11_pause_1 : decode cX11_pause 1 = .ok (.getfield 22, 3) := by decide +kernel
theorem dX11_pause_4 : decode cX11_pause 4 = .ok (.aload_n 0, 1) := by decide +kernel
theorem dX11_pause_5 : decode cX11_pause 5 = .ok (.getfield 12, 3) := by decide +kernel
theorem dX11_pause_8 : decode cX11_pause 8 = .ok (.invokevirtual 76, 3) := by decide +kernel
theorem dX11_pause_11 : decode cX11_pause 11 = .ok (.aload_n 0, 1) := by decide +kernel
theorem dX11_pause_12 : decode cX11_pause 12 = .ok (.aload_n 0, 1) := by decide +kernel
theorem dX11_pause_13 : decode cX11_pause 13 = .ok (.getfield 12, 3) := by decide +kernel
theorem dX11_pause_16 : decode cX11_pause 16 = .ok (.iload_n 1, 1) := by decide +kernel
theorem dX11_pause_17 : decode cX11_pause 17 = .ok (.aload_n 0, 1) := by decide +kernel
theorem dX11_pause_18 : decode cX11_pause 18 = .ok (.getfield 29, 3) := by decide +kernel
theorem dX11_pause_21 : decode cX11_pause 21 = .ok (.invokevirtual 153, 3) := by decide +kernel
theorem dX11_pause_24 : decode cX11_pause 24 = .ok (.invokevirtual 90, 3) := by decide +kernel
theorem dX11_pause_27 : decode cX11_pause 27 = .ok (.ireturn, 1) := by decide +kernel
theorem dX11_run_0 : decode cX11_run 0 = .ok (.aload_n 0, 1) := by decide +kernel
theorem dX11_run_1 : decode cX11_run 1 = .ok (.getfield 22, 3) := by decide +kernel
theorem dX11_run_4 : decode cX11_run 4 = .ok (.aload_n 0, 1) := by decide +kernel
theorem dX11_run_5 : decode cX11_run 5 = .ok (.getfield 12, 3) := by decide +kernel
theorem dX11_run_8 : decode cX11_run 8 = .ok (.invokevirtual 76, 3) := by decide +kernel
theorem dX11_run_11 : decode cX11_run 11 = .ok (.aload_n 0, 1) := by decide +kernel
theorem dX11_run_12 : decode cX11_run 12 = .ok (.aload_n 0, 1) := by decide +kernel
theorem dX11_run_13 : decode cX11_run 13 = .ok (.getfield 12, 3) := by decide +kernel
theorem dX11_run_16 : decode cX11_run 16 = .ok (.iload_n 1, 1) := by decide +kernel
theorem dX11_run_17 : decode cX11_run 17 = .ok (.iload_n 2, 1) := by decide +kernel
theorem dX11_run_18 : decode cX11_run 18 = .ok (.aload_n 0, 1) := by decide +kernel
theorem dX11_run_19 : decode cX11_run 19 = .ok (.getfield 29, 3) := by decide +kernel
theorem dX11_run_22 : decode cX11_run 22 = .ok (.invokevirtual 156, 3) := by decide +kernel
theorem dX11_run_25 : decode cX11_run 25 = .ok (.invokevirtual 90, 3) := by decide +kernel
theorem dX11_run_28 : decode cX11_run 28 = .ok (.ireturn, 1) := by decide +kernel
theorem dX11_order_0 : decode cX11_order 0 = .ok (.aload_n 0, 1) := by decide +kernel
theorem dX11_order_1 : decode cX11_order 1 = .ok (.getfield 22, 3) := by decide +kernel
theorem dX11_order_4 : decode cX11_order 4 = .ok (.aload_n 0, 1) := by decide +kernel
theorem dX11_order_5 : decode cX11_order 5 = .ok (.getfield 12, 3) := by decide +kernel
theorem dX11_order_8 : decode cX11_order 8 = .ok (.invokevirtual 76, 3) := by decide +kernel
theorem dX11_order_11 : decode cX11_order 11 = .ok (.aload_n 0, 1) := by decide +kernel
theorem dX11_order_12 : decode cX11_order 12 = .ok (.aload_n 0, 1) := by decide +kernel
theorem dX11_order_13 : decode cX11_order 13 = .ok (.getfield 12, 3) := by decide +kernel
theorem dX11_order_16 : decode cX11_order 16 = .ok (.iload_n 1, 1) := by decide +kernel
theorem dX11_order_17 : decode cX11_order 17 = .ok (.iload_n 2, 1) := by decide +kernel
theorem dX11_order_18 : decode cX11_order 18 = .ok (.iload_n 3, 1) := by decide +kernel
theorem dX11_order_19 : decode cX11_order 19 = .ok (.iload 4, 2) := by decide +kernel
theorem dX11_order_21 : decode cX11_order 21 = .ok (.aload_n 0, 1) := by decide +kernel
theorem dX11_order_22 : decode cX11_order 22 = .ok (.getfield 29, 3) := by decide +kernel
theorem dX11_order_25 : decode cX11_order 25 = .ok (.invokevirtual 160, 3) := by decide +kernel
theorem dX11_order_28 : decode cX11_order 28 = .ok (.invokevirtual 90, 3) := by decide +kernel
theorem dX11_order_31 : decode cX11_order 31 = .ok (.ireturn, 1) := by decide +kernel
theorem dX11_callOff_0 : decode cX11_callOff 0 = .ok (.aload_n 0, 1) := by decide +kernel
theorem dX11_callOff_1 : decode cX11_callOff 1 = .ok (.getfield 22, 3) := by decide +kernel
theorem dX11_callOff_4 : decode cX11_callOff 4 = .ok (.aload_n 0, 1) := by decide +kernel
theorem dX11_callOff_5 : decode cX11_callOff 5 = .ok (.getfield 12, 3) := by decide +kernel
theorem dX11_callOff_8 : decode cX11_callOff 8 = .ok (.invokevirtual 76, 3) := by decide +kernel
theorem dX11_callOff_11 : decode cX11_callOff 11 = .ok (.aload_n 0, 1) := by decide +kernel
theorem dX11_callOff_12 : decode cX11_callOff 12 = .ok (.aload_n 0, 1) := by decide +kernel
theorem dX11_callOff_13 : decode cX11_callOff 13 = .ok (.getfield 12, 3) := by decide +kernel
theorem dX11_callOff_16 : decode cX11_callOff 16 = .ok (.getfield 164, 3) := by decide +kernel
theorem dX11_callOff_19 : decode cX11_callOff 19 = .ok (.iload_n 1, 1) := by decide +kernel
theorem dX11_callOff_20 : decode cX11_callOff 20 = .ok (.aload_n 0, 1) := by decide +kernel
theorem dX11_callOff_21 : decode cX11_callOff 21 = .ok (.getfield 29, 3) := by decide +kernel
theorem dX11_callOff_24 : decode cX11_callOff 24 = .ok (.invokevirtual 168, 3) := by decide +kernel
theorem dX11_callOff_27 : decode cX11_callOff 27 = .ok (.invokevirtual 90, 3) := by decide +kernel
theorem dX11_callOff_30 : decode cX11_callOff 30 = .ok (.ireturn, 1) := by decide +kernel
theorem dX11_set_0 : decode cX11_set 0 = .ok (.aload_n 0, 1) := by decide +kernel
theorem dX11_set_1 : decode cX11_set 1 = .ok (.getfield 22, 3) := by decide +kernel
theorem dX11_set_4 : decode cX11_set 4 = .ok (.aload_n 0, 1) := by decide +kernel
theorem dX11_set_5 : decode cX11_set 5 = .ok (.getfield 12, 3) := by decide +kernel
theorem dX11_set_8 : decode cX11_set 8 = .ok (.invokevirtual 76, 3) := by decide +kernel
theorem dX11_set_11 : decode cX11_set 11 = .ok (.aload_n 0, 1) := by decide +kernel
theorem dX11_set_12 : decode cX11_set 12 = .ok (.aload_n 0, 1) := by decide +kernel
theorem dX11_set_13 : decode cX11_set 13 = .ok (.getfield 12, 3) := by decide +kernel
theorem dX11_set_16 : decode cX11_set 16 = .ok (.getfield 80, 3) := by decide +kernel
theorem dX11_set_19 : decode cX11_set 19 = .ok (.iload_n 1, 1) := by decide +kernel
theorem dX11_set_20 : decode cX11_set 20 = .ok (.iload_n 2, 1) := by decide +kernel
theorem dX11_set_21 : decode cX11_set 21 = .ok (.aload_n 0, 1) := by decide +kernel
theorem dX11_set_22 : decode cX11_set 22 = .ok (.getfield 29, 3) := by decide +kernel
theorem dX11_set_25 : decode cX11_set 25 = .ok (.invokevirtual 173, 3) := by decide +kernel
theorem dX11_set_28 : decode cX11_set 28 = .ok (.invokevirtual 90, 3) := by decide +kernel
theorem dX11_set_31 : decode cX11_set 31 = .ok (.ireturn, 1) := by decide +kernel
theorem dX11_purge_0 : decode cX11_purge 0 = .ok (.aload_n 0, 1) := by decide +kernel
theorem dX11_purge_1 : decode cX11_purge 1 = .ok (.getfield 12, 3) := by decide +kernel
theorem dX11_purge_4 : decode cX11_purge 4 = .ok (.getfield 80, 3) := by decide +kernel
theorem dX11_purge_7 : decode cX11_purge 7 = .ok (.iload_n 1, 1) := by decide +kernel
theorem dX11_purge_8 : decode cX11_purge 8 = .ok (.invokevirtual 176, 3) := by decide +kernel
theorem dX11_purge_11 : decode cX11_purge 11 = .ok (.ifCond .eq 17, 3) := by decide +kernel
theorem dX11_purge_14 : decode cX11_purge 14 = .ok (.aload_n 0, 1) := by decide +kernel
theorem dX11_purge_15 : decode cX11_purge 15 = .ok (.getfield 12, 3) := by decide +kernel
theorem dX11_purge_18 : decode cX11_purge 18 = .ok (.getfield 80, 3) := by decide +kernel
theorem dX11_purge_21 : decode cX11_purge 21 = .ok (.iload_n 2, 1) := by decide +kernel
theorem dX11_purge_22 : decode cX11_purge 22 = .ok (.invokevirtual 176, 3) := by decide +kernel
theorem dX11_purge_25 : decode cX11_purge 25 = .ok (.ifCond .ne 13, 3) := by decide +kernel
theorem dX11_purge_28 : decode cX11_purge 28 = .ok (.new 180, 3) := by decide +kernel
theorem dX11_purge_31 : decode cX11_purge 31 = .ok (.dup, 1) := by decide +kernel
theorem dX11_purge_32 : decode cX11_purge 32 = .ok (.ldc 182, 2) := by decide +kernel
theorem dX11_purge_34 : decode cX11_purge 34 = .ok (.invokespecial 184, 3) := by decide +kernel
theorem dX11_purge_37 : decode cX11_purge 37 = .ok (.athrow, 1) := by decide +kernel
theorem dX11_purge_38 : decode cX11_purge 38 = .ok (.aload_n 0, 1) := by decide +kernel
theorem dX11_purge_39 : decode cX11_purge 39 = .ok (.getfield 12, 3) := by decide +kernel
theorem dX11_purge_42 : decode cX11_purge 42 = .ok (.getfield 80, 3) := by decide +kernel
theorem dX11_purge_45 : decode cX11_purge 45 = .ok (.iload_n 1, 1) := by decide +kernel
theorem dX11_purge_46 : decode cX11_purge 46 = .ok (.iload_n 2, 1) := by decide +kernel
theorem dX11_purge_47 : decode cX11_purge 47 = .ok (.invokevirtual 185, 3) := by decide +kernel
theorem dX11_purge_50 : decode cX11_purge 50 = .ok (.ireturn, 1) := by decide +kernel
theorem dX11_minutes_0 : decode cX11_minutes 0 = .ok (.aload_n 0, 1) := by decide +kernel
theorem dX11_minutes_1 : decode cX11_minutes 1 = .ok (.getfield 12, 3) := by decide +kernel
theorem dX11_minutes_4 : decode cX11_minutes 4 = .ok (.getfield 80, 3) := by decide +kernel
theorem dX11_minutes_7 : decode cX11_minutes 7 = .ok (.iload_n 1, 1) := by decide +kernel
theorem dX11_minutes_8 : decode cX11_minutes 8 = .ok (.invokevirtual 176, 3) := by decide +kernel
theorem dX11_minutes_11 : decode cX11_minutes 11 = .ok (.ifCond .ne 13, 3) := by decide +kernel
theorem dX11_minutes_14 : decode cX11_minutes 14 = .ok (.new 180, 3) := by decide +kernel
theorem dX11_minutes_17 : decode cX11_minutes 17 = .ok (.dup, 1) := by decide +kernel
theorem dX11_minutes_18 : decode cX11_minutes 18 = .ok (.ldc 182, 2) := by decide +kernel
theorem dX11_minutes_20 : decode cX11_minutes 20 = .ok (.invokespecial 184, 3) := by decide +kernel
theorem dX11_minutes_23 : decode cX11_minutes 23 = .ok (.athrow, 1) := by decide +kernel
theorem dX11_minutes_24 : decode cX11_minutes 24 = .ok (.iload_n 2, 1) := by decide +kernel
theorem dX11_minutes_25 : decode cX11_minutes 25 = .ok (.iconst 1, 1) := by decide +kernel
theorem dX11_minutes_26 : decode cX11_minutes 26 = .ok (.sipush 200, 3) := by decide +kernel
theorem dX11_minutes_29 : decode cX11_minutes 29 = .ok (.invokestatic 189, 3) := by decide +kernel
theorem dX11_minutes_32 : decode cX11_minutes 32 = .ok (.ifCond .ne 13, 3) := by decide +kernel
theorem dX11_minutes_35 : decode cX11_minutes 35 = .ok (.new 104, 3) := by decide +kernel
theorem dX11_minutes_38 : decode cX11_minutes 38 = .ok (.dup, 1) := by decide +kernel
theorem dX11_minutes_39 : decode cX11_minutes 39 = .ok (.ldc 193, 2) := by decide +kernel
theorem dX11_minutes_41 : decode cX11_minutes 41 = .ok (.invokespecial 108, 3) := by decide +kernel
theorem dX11_minutes_44 : decode cX11_minutes 44 = .ok (.athrow, 1) := by decide +kernel
theorem dX11_minutes_45 : decode cX11_minutes 45 = .ok (.aload_n 0, 1) := by decide +kernel
theorem dX11_minutes_46 : decode cX11_minutes 46 = .ok (.getfield 12, 3) := by decide +kernel
theorem dX11_minutes_49 : decode cX11_minutes 49 = .ok (.getfield 80, 3) := by decide +kernel
theorem dX11_minutes_52 : decode cX11_minutes 52 = .ok (.aload_n 0, 1) := by decide +kernel
theorem dX11_minutes_53 : decode cX11_minutes 53 = .ok (.getfield 12, 3) := by decide +kernel
theorem dX11_minutes_56 : decode cX11_minutes 56 = .ok (.getfield 195, 3) := by decide +kernel
theorem dX11_minutes_59 : decode cX11_minutes 59 = .ok (.invokevirtual 198, 3) := by decide +kernel
theorem dX11_minutes_62 : decode cX11_minutes 62 = .ok (.ifCond .ne 13, 3) := by decide +kernel
theorem dX11_minutes_65 : decode cX11_minutes 65 = .ok (.new 65, 3) := by decide +kernel
theorem dX11_minutes_68 : decode cX11_minutes 68 = .ok (.dup, 1) := by decide +kernel
theorem dX11_minutes_69 : decode cX11_minutes 69 = .ok (.ldc 201, 2) := by decide +kernel
theorem dX11_minutes_71 : decode cX11_minutes 71 = .ok (.invokespecial 69, 3) := by decide +kernel
theorem dX11_minutes_74 : decode cX11_minutes 74 = .ok (.athrow, 1) := by decide +kernel
theorem dX11_minutes_75 : decode cX11_minutes 75 = .ok (.aload_n 0, 1) := by decide +kernel
theorem dX11_minutes_76 : decode cX11_minutes 76 = .ok (.getfield 12, 3) := by decide +kernel
theorem dX11_minutes_79 : decode cX11_minutes 79 = .ok (.getfield 80, 3) := by decide +kernel
theorem dX11_minutes_82 : decode cX11_minutes 82 = .ok (.aload_n 0, 1) := by decide +kernel
theorem dX11_minutes_83 : decode cX11_minutes 83 = .ok (.getfield 12, 3) := by decide +kernel
theorem dX11_minutes_86 : decode cX11_minutes 86 = .ok (.getfield 203, 3) := by decide +kernel
theorem dX11_minutes_89 : decode cX11_minutes 89 = .ok (.iload_n 1, 1) := by decide +kernel
theorem dX11_minutes_90 : decode cX11_minutes 90 = .ok (.invokevirtual 185, 3) := by decide +kernel
theorem dX11_minutes_93 : decode cX11_minutes 93 = .ok (.iload_n 2, 1) := by decide +kernel
theorem dX11_minutes_94 : decode cX11_minutes 94 = .ok (.iadd, 1) := by decide +kernel
theorem dX11_minutes_95 : decode cX11_minutes 95 = .ok (.aload_n 0, 1) := by decide +kernel
theorem dX11_minutes_96 : decode cX11_minutes 96 = .ok (.getfield 12, 3) := by decide +kernel
theorem dX11_minutes_99 : decode cX11_minutes 99 = .ok (.getfield 80, 3) := by decide +kernel
theorem dX11_minutes_102 : decode cX11_minutes 102 = .ok (.getfield 206, 3) := by decide +kernel
theorem dX11_minutes_105 : decode cX11_minutes 105 = .ok (.aload_n 0, 1) := by decide +kernel
theorem dX11_minutes_106 : decode cX11_minutes 106 = .ok (.getfield 12, 3) := by decide +kernel
theorem dX11_minutes_109 : decode cX11_minutes 109 = .ok (.getfield 195, 3) := by decide +kernel
theorem dX11_minutes_112 : decode cX11_minutes 112 = .ok (.iaload, 1) := by decide +kernel
theorem dX11_minutes_113 : decode cX11_minutes 113 = .ok (.imul, 1) := by decide +kernel
theorem dX11_minutes_114 : decode cX11_minutes 114 = .ok (.ireturn, 1) := by decide +kernel
theorem dX11_best_0 : decode cX11_best 0 = .ok (.aload_n 0, 1) := by decide +kernel
theorem dX11_best_1 : decode cX11_best 1 = .ok (.iload_n 1, 1) := by decide +kernel
theorem dX11_best_2 : decode cX11_best 2 = .ok (.invokevirtual 210, 3) := by decide +kernel
theorem dX11_best_5 : decode cX11_best 5 = .ok (.aload_n 0, 1) := by decide +kernel
theorem dX11_best_6 : decode cX11_best 6 = .ok (.getfield 57, 3) := by decide +kernel
theorem dX11_best_9 : decode cX11_best 9 = .ok (.aload_n 0, 1) := by decide +kernel
theorem dX11_best_10 : decode cX11_best 10 = .ok (.getfield 12, 3) := by decide +kernel
theorem dX11_best_13 : decode cX11_best 13 = .ok (.iload_n 1, 1) := by decide +kernel
theorem dX11_best_14 : decode cX11_best 14 = .ok (.invokevirtual 214, 3) := by decide +kernel
theorem dX11_best_17 : decode cX11_best 17 = .ok (.ireturn, 1) := by decide +kernel
theorem dX11_bestColour_0 : decode cX11_bestColour 0 = .ok (.aload_n 0, 1) := by decide +kernel
theorem dX11_bestColour_1 : decode cX11_bestColour 1 = .ok (.iload_n 1, 1) := by decide +kernel
theorem dX11_bestColour_2 : decode cX11_bestColour 2 = .ok (.invokevirtual 210, 3) := by decide +kernel
theorem dX11_bestColour_5 : decode cX11_bestColour 5 = .ok (.iload_n 2, 1) := by decide +kernel
theorem dX11_bestColour_6 : decode cX11_bestColour 6 = .ok (.iconst 0, 1) := by decide +kernel
theorem dX11_bestColour_7 : decode cX11_bestColour 7 = .ok (.iload_n 1, 1) := by decide +kernel
theorem dX11_bestColour_8 : decode cX11_bestColour 8 = .ok (.invokestatic 221, 3) := by decide +kernel
theorem dX11_bestColour_11 : decode cX11_bestColour 11 = .ok (.iconst 1, 1) := by decide +kernel
theorem dX11_bestColour_12 : decode cX11_bestColour 12 = .ok (.isub, 1) := by decide +kernel
theorem dX11_bestColour_13 : decode cX11_bestColour 13 = .ok (.invokestatic 189, 3) := by decide +kernel
theorem dX11_bestColour_16 : decode cX11_bestColour 16 = .ok (.ifCond .ne 13, 3) := by decide +kernel
theorem dX11_bestColour_19 : decode cX11_bestColour 19 = .ok (.new 226, 3) := by decide +kernel
theorem dX11_bestColour_22 : decode cX11_bestColour 22 = .ok (.dup, 1) := by decide +kernel
theorem dX11_bestColour_23 : decode cX11_bestColour 23 = .ok (.ldc 228, 2) := by decide +kernel
theorem dX11_bestColour_25 : decode cX11_bestColour 25 = .ok (.invokespecial 230, 3) := by decide +kernel
theorem dX11_bestColour_28 : decode cX11_bestColour 28 = .ok (.athrow, 1) := by decide +kernel
theorem dX11_bestColour_29 : decode cX11_bestColour 29 = .ok (.aload_n 0, 1) := by decide +kernel
theorem dX11_bestColour_30 : decode cX11_bestColour 30 = .ok (.getfield 57, 3) := by decide +kernel
theorem dX11_bestColour_33 : decode cX11_bestColour 33 = .ok (.aload_n 0, 1) := by decide +kernel
theorem dX11_bestColour_34 : decode cX11_bestColour 34 = .ok (.getfield 12, 3) := by decide +kernel
theorem dX11_bestColour_37 : decode cX11_bestColour 37 = .ok (.iload_n 1, 1) := by decide +kernel
theorem dX11_bestColour_38 : decode cX11_bestColour 38 = .ok (.iload_n 2, 1) := by decide +kernel
theorem dX11_bestColour_39 : decode cX11_bestColour 39 = .ok (.invokevirtual 231, 3) := by decide +kernel
theorem dX11_bestColour_42 : decode cX11_bestColour 42 = .ok (.ireturn, 1) := by decide +kernel
theorem dX11_familyOf_0 : decode cX11_familyOf 0 = .ok (.aload_n 0, 1) := by decide +kernel
theorem dX11_familyOf_1 : decode cX11_familyOf 1 = .ok (.getfield 12, 3) := by decide +kernel
theorem dX11_familyOf_4 : decode cX11_familyOf 4 = .ok (.getfield 80, 3) := by decide +kernel
theorem dX11_familyOf_7 : decode cX11_familyOf 7 = .ok (.iload_n 1, 1) := by decide +kernel
theorem dX11_familyOf_8 : decode cX11_familyOf 8 = .ok (.invokevirtual 198, 3) := by decide +kernel
theorem dX11_familyOf_11 : decode cX11_familyOf 11 = .ok (.ifCond .ne 13, 3) := by decide +kernel
theorem dX11_familyOf_14 : decode cX11_familyOf 14 = .ok (.new 180, 3) := by decide +kernel
theorem dX11_familyOf_17 : decode cX11_familyOf 17 = .ok (.dup, 1) := by decide +kernel
theorem dX11_familyOf_18 : decode cX11_familyOf 18 = .ok (.ldc 235, 2) := by decide +kernel
theorem dX11_familyOf_20 : decode cX11_familyOf 20 = .ok (.invokespecial 184, 3) := by decide +kernel
theorem dX11_familyOf_23 : decode cX11_familyOf 23 = .ok (.athrow, 1) := by decide +kernel
theorem dX11_familyOf_24 : decode cX11_familyOf 24 = .ok (.iload_n 2, 1) := by decide +kernel
theorem dX11_familyOf_25 : decode cX11_familyOf 25 = .ok (.tableswitch 102 0 4 #[35, 48, 61, 73, 85], 35) := by decide +kernel
theorem dX11_familyOf_60 : decode cX11_familyOf 60 = .ok (.aload_n 0, 1) := by decide +kernel
theorem dX11_familyOf_61 : decode cX11_familyOf 61 = .ok (.getfield 12, 3) := by decide +kernel
theorem dX11_familyOf_64 : decode cX11_familyOf 64 = .ok (.getfield 80, 3) := by decide +kernel
theorem dX11_familyOf_67 : decode cX11_familyOf 67 = .ok (.getfield 206, 3) := by decide +kernel
theorem dX11_familyOf_70 : decode cX11_familyOf 70 = .ok (.iload_n 1, 1) := by decide +kernel
theorem dX11_familyOf_71 : decode cX11_familyOf 71 = .ok (.iaload, 1) := by decide +kernel
theorem dX11_familyOf_72 : decode cX11_familyOf 72 = .ok (.ireturn, 1) := by decide +kernel
theorem dX11_familyOf_73 : decode cX11_familyOf 73 = .ok (.aload_n 0, 1) := by decide +kernel
theorem dX11_familyOf_74 : decode cX11_familyOf 74 = .ok (.getfield 12, 3) := by decide +kernel
theorem dX11_familyOf_77 : decode cX11_familyOf 77 = .ok (.getfield 80, 3) := by decide +kernel
theorem dX11_familyOf_80 : decode cX11_familyOf 80 = .ok (.getfield 237, 3) := by decide +kernel
theorem dX11_familyOf_83 : decode cX11_familyOf 83 = .ok (.iload_n 1, 1) := by decide +kernel
theorem dX11_familyOf_84 : decode cX11_familyOf 84 = .ok (.iaload, 1) := by decide +kernel
theorem dX11_familyOf_85 : decode cX11_familyOf 85 = .ok (.ireturn, 1) := by decide +kernel
theorem dX11_familyOf_86 : decode cX11_familyOf 86 = .ok (.aload_n 0, 1) := by decide +kernel
theorem dX11_familyOf_87 : decode cX11_familyOf 87 = .ok (.getfield 12, 3) := by decide +kernel
theorem dX11_familyOf_90 : decode cX11_familyOf 90 = .ok (.getfield 80, 3) := by decide +kernel
theorem dX11_familyOf_93 : decode cX11_familyOf 93 = .ok (.iload_n 1, 1) := by decide +kernel
theorem dX11_familyOf_94 : decode cX11_familyOf 94 = .ok (.invokevirtual 240, 3) := by decide +kernel
theorem dX11_familyOf_97 : decode cX11_familyOf 97 = .ok (.ireturn, 1) := by decide +kernel
theorem dX11_familyOf_98 : decode cX11_familyOf 98 = .ok (.aload_n 0, 1) := by decide +kernel
theorem dX11_familyOf_99 : decode cX11_familyOf 99 = .ok (.getfield 12, 3) := by decide +kernel
theorem dX11_familyOf_102 : decode cX11_familyOf 102 = .ok (.getfield 80, 3) := by decide +kernel
theorem dX11_familyOf_105 : decode cX11_familyOf 105 = .ok (.iload_n 1, 1) := by decide +kernel
theorem dX11_familyOf_106 : decode cX11_familyOf 106 = .ok (.invokevirtual 243, 3) := by decide +kernel
theorem dX11_familyOf_109 : decode cX11_familyOf 109 = .ok (.ireturn, 1) := by decide +kernel
theorem dX11_familyOf_110 : decode cX11_familyOf 110 = .ok (.aload_n 0, 1) := by decide +kernel
theorem dX11_familyOf_111 : decode cX11_familyOf 111 = .ok (.getfield 12, 3) := by decide +kernel
theorem dX11_familyOf_114 : decode cX11_familyOf 114 = .ok (.getfield 195, 3) := by decide +kernel
theorem dX11_familyOf_117 : decode cX11_familyOf 117 = .ok (.iload_n 1, 1) := by decide +kernel
theorem dX11_familyOf_118 : decode cX11_familyOf 118 = .ok (.if_icmp .ne 7, 3) := by decide +kernel
theorem dX11_familyOf_121 : decode cX11_familyOf 121 = .ok (.iconst 1, 1) := by decide +kernel
theorem dX11_familyOf_122 : decode cX11_familyOf 122 = .ok (.goto 4, 3) := by decide +kernel
theorem dX11_familyOf_125 : decode cX11_familyOf 125 = .ok (.iconst 0, 1) := by decide +kernel
theorem dX11_familyOf_126 : decode cX11_familyOf 126 = .ok (.ireturn, 1) := by decide +kernel
theorem dX11_familyOf_127 : decode cX11_familyOf 127 = .ok (.new 104, 3) := by decide +kernel
theorem dX11_familyOf_130 : decode cX11_familyOf 130 = .ok (.dup, 1) := by decide +kernel
theorem dX11_familyOf_131 : decode cX11_familyOf 131 = .ok (.ldc 246, 2) := by decide +kernel
theorem dX11_familyOf_133 : decode cX11_familyOf 133 = .ok (.invokespecial 108, 3) := by decide +kernel
theorem dX11_familyOf_136 : decode cX11_familyOf 136 = .ok (.athrow, 1) := by decide +kernel
theorem dX11_pieces_0 : decode cX11_pieces 0 = .ok (.aload_n 0, 1) := by decide +kernel
theorem dX11_pieces_1 : decode cX11_pieces 1 = .ok (.getfield 12, 3) := by decide +kernel
theorem dX11_pieces_4 : decode cX11_pieces 4 = .ok (.getfield 80, 3) := by decide +kernel
theorem dX11_pieces_7 : decode cX11_pieces 7 = .ok (.iload_n 1, 1) := by decide +kernel
theorem dX11_pieces_8 : decode cX11_pieces 8 = .ok (.invokevirtual 198, 3) := by decide +kernel
theorem dX11_pieces_11 : decode cX11_pieces 11 = .ok (.ifCond .eq 17, 3) := by decide +kernel
theorem dX11_pieces_14 : decode cX11_pieces 14 = .ok (.aload_n 0, 1) := by decide +kernel
theorem dX11_pieces_15 : decode cX11_pieces 15 = .ok (.getfield 12, 3) := by decide +kernel
theorem dX11_pieces_18 : decode cX11_pieces 18 = .ok (.getfield 80, 3) := by decide +kernel
theorem dX11_pieces_21 : decode cX11_pieces 21 = .ok (.iload_n 2, 1) := by decide +kernel
theorem dX11_pieces_22 : decode cX11_pieces 22 = .ok (.invokevirtual 248, 3) := by decide +kernel
theorem dX11_pieces_25 : decode cX11_pieces 25 = .ok (.ifCond .ne 13, 3) := by decide +kernel
theorem dX11_pieces_28 : decode cX11_pieces 28 = .ok (.new 180, 3) := by decide +kernel
theorem dX11_pieces_31 : decode cX11_pieces 31 = .ok (.dup, 1) := by decide +kernel
theorem dX11_pieces_32 : decode cX11_pieces 32 = .ok (.ldc 251, 2) := by decide +kernel
theorem dX11_pieces_34 : decode cX11_pieces 34 = .ok (.invokespecial 184, 3) := by decide +kernel
theorem dX11_pieces_37 : decode cX11_pieces 37 = .ok (.athrow, 1) := by decide +kernel
theorem dX11_pieces_38 : decode cX11_pieces 38 = .ok (.aload_n 0, 1) := by decide +kernel
theorem dX11_pieces_39 : decode cX11_pieces 39 = .ok (.getfield 12, 3) := by decide +kernel
theorem dX11_pieces_42 : decode cX11_pieces 42 = .ok (.getfield 80, 3) := by decide +kernel
theorem dX11_pieces_45 : decode cX11_pieces 45 = .ok (.iload_n 1, 1) := by decide +kernel
theorem dX11_pieces_46 : decode cX11_pieces 46 = .ok (.iload_n 2, 1) := by decide +kernel
theorem dX11_pieces_47 : decode cX11_pieces 47 = .ok (.invokevirtual 253, 3) := by decide +kernel
theorem dX11_pieces_50 : decode cX11_pieces 50 = .ok (.ireturn, 1) := by decide +kernel
theorem dX11_families_0 : decode cX11_families 0 = .ok (.aload_n 0, 1) := by decide +kernel
theorem dX11_families_1 : decode cX11_families 1 = .ok (.getfield 12, 3) := by decide +kernel
theorem dX11_families_4 : decode cX11_families 4 = .ok (.getfield 80, 3) := by decide +kernel
theorem dX11_families_7 : decode cX11_families 7 = .ok (.iload_n 1, 1) := by decide +kernel
theorem dX11_families_8 : decode cX11_families 8 = .ok (.invokevirtual 248, 3) := by decide +kernel
theorem dX11_families_11 : decode cX11_families 11 = .ok (.ifCond .ne 14, 3) := by decide +kernel
theorem dX11_families_14 : decode cX11_families 14 = .ok (.new 180, 3) := by decide +kernel
theorem dX11_families_17 : decode cX11_families 17 = .ok (.dup, 1) := by decide +kernel
theorem dX11_families_18 : decode cX11_families 18 = .ok (.ldc_w 256, 3) := by decide +kernel
theorem dX11_families_21 : decode cX11_families 21 = .ok (.invokespecial 184, 3) := by decide +kernel
theorem dX11_families_24 : decode cX11_families 24 = .ok (.athrow, 1) := by decide +kernel
theorem dX11_families_25 : decode cX11_families 25 = .ok (.aload_n 0, 1) := by decide +kernel
theorem dX11_families_26 : decode cX11_families 26 = .ok (.getfield 12, 3) := by decide +kernel
theorem dX11_families_29 : decode cX11_families 29 = .ok (.getfield 80, 3) := by decide +kernel
theorem dX11_families_32 : decode cX11_families 32 = .ok (.iload_n 1, 1) := by decide +kernel
theorem dX11_families_33 : decode cX11_families 33 = .ok (.invokevirtual 258, 3) := by decide +kernel
theorem dX11_families_36 : decode cX11_families 36 = .ok (.ireturn, 1) := by decide +kernel
theorem dX11_dryer_0 : decode cX11_dryer 0 = .ok (.iload_n 1, 1) := by decide +kernel
theorem dX11_dryer_1 : decode cX11_dryer 1 = .ok (.iconst 0, 1) := by decide +kernel
theorem dX11_dryer_2 : decode cX11_dryer 2 = .ok (.iconst 2, 1) := by decide +kernel
theorem dX11_dryer_3 : decode cX11_dryer 3 = .ok (.invokestatic 189, 3) := by decide +kernel
theorem dX11_dryer_6 : decode cX11_dryer 6 = .ok (.ifCond .ne 14, 3) := by decide +kernel
theorem dX11_dryer_9 : decode cX11_dryer 9 = .ok (.new 180, 3) := by decide +kernel
theorem dX11_dryer_12 : decode cX11_dryer 12 = .ok (.dup, 1) := by decide +kernel
theorem dX11_dryer_13 : decode cX11_dryer 13 = .ok (.ldc_w 261, 3) := by decide +kernel
theorem dX11_dryer_16 : decode cX11_dryer 16 = .ok (.invokespecial 184, 3) := by decide +kernel
theorem dX11_dryer_19 : decode cX11_dryer 19 = .ok (.athrow, 1) := by decide +kernel
theorem dX11_dryer_20 : decode cX11_dryer 20 = .ok (.iload_n 2, 1) := by decide +kernel
theorem dX11_dryer_21 : decode cX11_dryer 21 = .ok (.tableswitch 94 0 3 #[31, 44, 57, 70], 31) := by decide +kernel
theorem dX11_dryer_52 : decode cX11_dryer 52 = .ok (.aload_n 0, 1) := by decide +kernel
theorem dX11_dryer_53 : decode cX11_dryer 53 = .ok (.getfield 12, 3) := by decide +kernel
theorem dX11_dryer_56 : decode cX11_dryer 56 = .ok (.getfield 144, 3) := by decide +kernel
theorem dX11_dryer_59 : decode cX11_dryer 59 = .ok (.getfield 263, 3) := by decide +kernel
theorem dX11_dryer_62 : decode cX11_dryer 62 = .ok (.iload_n 1, 1) := by decide +kernel
theorem dX11_dryer_63 : decode cX11_dryer 63 = .ok (.iaload, 1) := by decide +kernel
theorem dX11_dryer_64 : decode cX11_dryer 64 = .ok (.ireturn, 1) := by decide +kernel
theorem dX11_dryer_65 : decode cX11_dryer 65 = .ok (.aload_n 0, 1) := by decide +kernel
theorem dX11_dryer_66 : decode cX11_dryer 66 = .ok (.getfield 12, 3) := by decide +kernel
theorem dX11_dryer_69 : decode cX11_dryer 69 = .ok (.getfield 144, 3) := by decide +kernel
theorem dX11_dryer_72 : decode cX11_dryer 72 = .ok (.getfield 266, 3) := by decide +kernel
theorem dX11_dryer_75 : decode cX11_dryer 75 = .ok (.iload_n 1, 1) := by decide +kernel
theorem dX11_dryer_76 : decode cX11_dryer 76 = .ok (.iaload, 1) := by decide +kernel
theorem dX11_dryer_77 : decode cX11_dryer 77 = .ok (.ireturn, 1) := by decide +kernel
theorem dX11_dryer_78 : decode cX11_dryer 78 = .ok (.aload_n 0, 1) := by decide +kernel
theorem dX11_dryer_79 : decode cX11_dryer 79 = .ok (.getfield 12, 3) := by decide +kernel
theorem dX11_dryer_82 : decode cX11_dryer 82 = .ok (.getfield 144, 3) := by decide +kernel
theorem dX11_dryer_85 : decode cX11_dryer 85 = .ok (.getfield 269, 3) := by decide +kernel
theorem dX11_dryer_88 : decode cX11_dryer 88 = .ok (.iload_n 1, 1) := by decide +kernel
theorem dX11_dryer_89 : decode cX11_dryer 89 = .ok (.iaload, 1) := by decide +kernel
theorem dX11_dryer_90 : decode cX11_dryer 90 = .ok (.ireturn, 1) := by decide +kernel
theorem dX11_dryer_91 : decode cX11_dryer 91 = .ok (.aload_n 0, 1) := by decide +kernel
theorem dX11_dryer_92 : decode cX11_dryer 92 = .ok (.getfield 12, 3) := by decide +kernel
theorem dX11_dryer_95 : decode cX11_dryer 95 = .ok (.getfield 144, 3) := by decide +kernel
theorem dX11_dryer_98 : decode cX11_dryer 98 = .ok (.iload_n 1, 1) := by decide +kernel
theorem dX11_dryer_99 : decode cX11_dryer 99 = .ok (.aload_n 0, 1) := by decide +kernel
theorem dX11_dryer_100 : decode cX11_dryer 100 = .ok (.getfield 12, 3) := by decide +kernel
theorem dX11_dryer_103 : decode cX11_dryer 103 = .ok (.getfield 80, 3) := by decide +kernel
theorem dX11_dryer_106 : decode cX11_dryer 106 = .ok (.getfield 272, 3) := by decide +kernel
theorem dX11_dryer_109 : decode cX11_dryer 109 = .ok (.iconst 1, 1) := by decide +kernel
theorem dX11_dryer_110 : decode cX11_dryer 110 = .ok (.iaload, 1) := by decide +kernel
theorem dX11_dryer_111 : decode cX11_dryer 111 = .ok (.invokevirtual 275, 3) := by decide +kernel
theorem dX11_dryer_114 : decode cX11_dryer 114 = .ok (.ireturn, 1) := by decide +kernel
theorem dX11_dryer_115 : decode cX11_dryer 115 = .ok (.new 104, 3) := by decide +kernel
theorem dX11_dryer_118 : decode cX11_dryer 118 = .ok (.dup, 1) := by decide +kernel
theorem dX11_dryer_119 : decode cX11_dryer 119 = .ok (.ldc_w 278, 3) := by decide +kernel
theorem dX11_dryer_122 : decode cX11_dryer 122 = .ok (.invokespecial 108, 3) := by decide +kernel
theorem dX11_dryer_125 : decode cX11_dryer 125 = .ok (.athrow, 1) := by decide +kernel
theorem dX11_stock_0 : decode cX11_stock 0 = .ok (.aload_n 0, 1) := by decide +kernel
theorem dX11_stock_1 : decode cX11_stock 1 = .ok (.getfield 12, 3) := by decide +kernel
theorem dX11_stock_4 : decode cX11_stock 4 = .ok (.getfield 80, 3) := by decide +kernel
theorem dX11_stock_7 : decode cX11_stock 7 = .ok (.iload_n 1, 1) := by decide +kernel
theorem dX11_stock_8 : decode cX11_stock 8 = .ok (.invokevirtual 248, 3) := by decide +kernel
theorem dX11_stock_11 : decode cX11_stock 11 = .ok (.ifCond .eq 17, 3) := by decide +kernel
theorem dX11_stock_14 : decode cX11_stock 14 = .ok (.aload_n 0, 1) := by decide +kernel
theorem dX11_stock_15 : decode cX11_stock 15 = .ok (.getfield 12, 3) := by decide +kernel
theorem dX11_stock_18 : decode cX11_stock 18 = .ok (.getfield 80, 3) := by decide +kernel
theorem dX11_stock_21 : decode cX11_stock 21 = .ok (.iload_n 2, 1) := by decide +kernel
theorem dX11_stock_22 : decode cX11_stock 22 = .ok (.invokevirtual 176, 3) := by decide +kernel
theorem dX11_stock_25 : decode cX11_stock 25 = .ok (.ifCond .ne 14, 3) := by decide +kernel
theorem dX11_stock_28 : decode cX11_stock 28 = .ok (.new 180, 3) := by decide +kernel
theorem dX11_stock_31 : decode cX11_stock 31 = .ok (.dup, 1) := by decide +kernel
theorem dX11_stock_32 : decode cX11_stock 32 = .ok (.ldc_w 280, 3) := by decide +kernel
theorem dX11_stock_35 : decode cX11_stock 35 = .ok (.invokespecial 184, 3) := by decide +kernel
theorem dX11_stock_38 : decode cX11_stock 38 = .ok (.athrow, 1) := by decide +kernel
theorem dX11_stock_39 : decode cX11_stock 39 = .ok (.iload_n 1, 1) := by decide +kernel
theorem dX11_stock_40 : decode cX11_stock 40 = .ok (.bipush 6, 2) := by decide +kernel
theorem dX11_stock_42 : decode cX11_stock 42 = .ok (.imul, 1) := by decide +kernel
theorem dX11_stock_43 : decode cX11_stock 43 = .ok (.iload_n 2, 1) := by decide +kernel
theorem dX11_stock_44 : decode cX11_stock 44 = .ok (.iadd, 1) := by decide +kernel
theorem dX11_stock_45 : decode cX11_stock 45 = .ok (.istore 4, 2) := by decide +kernel
theorem dX11_stock_47 : decode cX11_stock 47 = .ok (.iload_n 3, 1) := by decide +kernel
theorem dX11_stock_48 : decode cX11_stock 48 = .ok (.tableswitch 70 0 2 #[28, 42, 56], 28) := by decide +kernel
theorem dX11_stock_76 : decode cX11_stock 76 = .ok (.aload_n 0, 1) := by decide +kernel
theorem dX11_stock_77 : decode cX11_stock 77 = .ok (.getfield 12, 3) := by decide +kernel
theorem dX11_stock_80 : decode cX11_stock 80 = .ok (.getfield 282, 3) := by decide +kernel
theorem dX11_stock_83 : decode cX11_stock 83 = .ok (.getfield 286, 3) := by decide +kernel
theorem dX11_stock_86 : decode cX11_stock 86 = .ok (.iload 4, 2) := by decide +kernel
theorem dX11_stock_88 : decode cX11_stock 88 = .ok (.iaload, 1) := by decide +kernel
theorem dX11_stock_89 : decode cX11_stock 89 = .ok (.ireturn, 1) := by decide +kernel
theorem dX11_stock_90 : decode cX11_stock 90 = .ok (.aload_n 0, 1) := by decide +kernel
theorem dX11_stock_91 : decode cX11_stock 91 = .ok (.getfield 12, 3) := by decide +kernel
theorem dX11_stock_94 : decode cX11_stock 94 = .ok (.getfield 282, 3) := by decide +kernel
theorem dX11_stock_97 : decode cX11_stock 97 = .ok (.getfield 291, 3) := by decide +kernel
theorem dX11_stock_100 : decode cX11_stock 100 = .ok (.iload 4, 2) := by decide +kernel
theorem dX11_stock_102 : decode cX11_stock 102 = .ok (.iaload, 1) := by decide +kernel
theorem dX11_stock_103 : decode cX11_stock 103 = .ok (.ireturn, 1) := by decide +kernel
theorem dX11_stock_104 : decode cX11_stock 104 = .ok (.aload_n 0, 1) := by decide +kernel
theorem dX11_stock_105 : decode cX11_stock 105 = .ok (.getfield 12, 3) := by decide +kernel
theorem dX11_stock_108 : decode cX11_stock 108 = .ok (.getfield 282, 3) := by decide +kernel
theorem dX11_stock_111 : decode cX11_stock 111 = .ok (.getfield 294, 3) := by decide +kernel
theorem dX11_stock_114 : decode cX11_stock 114 = .ok (.iload 4, 2) := by decide +kernel
theorem dX11_stock_116 : decode cX11_stock 116 = .ok (.iaload, 1) := by decide +kernel
theorem dX11_stock_117 : decode cX11_stock 117 = .ok (.ireturn, 1) := by decide +kernel
theorem dX11_stock_118 : decode cX11_stock 118 = .ok (.new 104, 3) := by decide +kernel
theorem dX11_stock_121 : decode cX11_stock 121 = .ok (.dup, 1) := by decide +kernel
theorem dX11_stock_122 : decode cX11_stock 122 = .ok (.ldc_w 297, 3) := by decide +kernel
theorem dX11_stock_125 : decode cX11_stock 125 = .ok (.invokespecial 108, 3) := by decide +kernel
theorem dX11_stock_128 : decode cX11_stock 128 = .ok (.athrow, 1) := by decide +kernel
theorem dX11_made_0 : decode cX11_made 0 = .ok (.aload_n 0, 1) := by decide +kernel
theorem dX11_made_1 : decode cX11_made 1 = .ok (.getfield 12, 3) := by decide +kernel
theorem dX11_made_4 : decode cX11_made 4 = .ok (.getfield 80, 3) := by decide +kernel
theorem dX11_made_7 : decode cX11_made 7 = .ok (.iload_n 1, 1) := by decide +kernel
theorem dX11_made_8 : decode cX11_made 8 = .ok (.invokevirtual 248, 3) := by decide +kernel
theorem dX11_made_11 : decode cX11_made 11 = .ok (.ifCond .ne 14, 3) := by decide +kernel
theorem dX11_made_14 : decode cX11_made 14 = .ok (.new 180, 3) := by decide +kernel
theorem dX11_made_17 : decode cX11_made 17 = .ok (.dup, 1) := by decide +kernel
theorem dX11_made_18 : decode cX11_made 18 = .ok (.ldc_w 256, 3) := by decide +kernel
theorem dX11_made_21 : decode cX11_made 21 = .ok (.invokespecial 184, 3) := by decide +kernel
theorem dX11_made_24 : decode cX11_made 24 = .ok (.athrow, 1) := by decide +kernel
theorem dX11_made_25 : decode cX11_made 25 = .ok (.iload_n 2, 1) := by decide +kernel
theorem dX11_made_26 : decode cX11_made 26 = .ok (.tableswitch 93 0 3 #[30, 43, 68, 80], 30) := by decide +kernel
theorem dX11_made_56 : decode cX11_made 56 = .ok (.aload_n 0, 1) := by decide +kernel
theorem dX11_made_57 : decode cX11_made 57 = .ok (.getfield 12, 3) := by decide +kernel
theorem dX11_made_60 : decode cX11_made 60 = .ok (.getfield 282, 3) := by decide +kernel
theorem dX11_made_63 : decode cX11_made 63 = .ok (.getfield 299, 3) := by decide +kernel
theorem dX11_made_66 : decode cX11_made 66 = .ok (.iload_n 1, 1) := by decide +kernel
theorem dX11_made_67 : decode cX11_made 67 = .ok (.iaload, 1) := by decide +kernel
theorem dX11_made_68 : decode cX11_made 68 = .ok (.ireturn, 1) := by decide +kernel
theorem dX11_made_69 : decode cX11_made 69 = .ok (.aload_n 0, 1) := by decide +kernel
theorem dX11_made_70 : decode cX11_made 70 = .ok (.getfield 12, 3) := by decide +kernel
theorem dX11_made_73 : decode cX11_made 73 = .ok (.getfield 282, 3) := by decide +kernel
theorem dX11_made_76 : decode cX11_made 76 = .ok (.iload_n 1, 1) := by decide +kernel
theorem dX11_made_77 : decode cX11_made 77 = .ok (.invokevirtual 302, 3) := by decide +kernel
theorem dX11_made_80 : decode cX11_made 80 = .ok (.aload_n 0, 1) := by decide +kernel
theorem dX11_made_81 : decode cX11_made 81 = .ok (.getfield 12, 3) := by decide +kernel
theorem dX11_made_84 : decode cX11_made 84 = .ok (.getfield 80, 3) := by decide +kernel
theorem dX11_made_87 : decode cX11_made 87 = .ok (.getfield 305, 3) := by decide +kernel
theorem dX11_made_90 : decode cX11_made 90 = .ok (.iload_n 1, 1) := by decide +kernel
theorem dX11_made_91 : decode cX11_made 91 = .ok (.iaload, 1) := by decide +kernel
theorem dX11_made_92 : decode cX11_made 92 = .ok (.imul, 1) := by decide +kernel
theorem dX11_made_93 : decode cX11_made 93 = .ok (.ireturn, 1) := by decide +kernel
theorem dX11_made_94 : decode cX11_made 94 = .ok (.aload_n 0, 1) := by decide +kernel
theorem dX11_made_95 : decode cX11_made 95 = .ok (.getfield 12, 3) := by decide +kernel
theorem dX11_made_98 : decode cX11_made 98 = .ok (.getfield 282, 3) := by decide +kernel
theorem dX11_made_101 : decode cX11_made 101 = .ok (.iload_n 1, 1) := by decide +kernel
theorem dX11_made_102 : decode cX11_made 102 = .ok (.invokevirtual 308, 3) := by decide +kernel
theorem dX11_made_105 : decode cX11_made 105 = .ok (.ireturn, 1) := by decide +kernel
theorem dX11_made_106 : decode cX11_made 106 = .ok (.aload_n 0, 1) := by decide +kernel
theorem dX11_made_107 : decode cX11_made 107 = .ok (.getfield 12, 3) := by decide +kernel
theorem dX11_made_110 : decode cX11_made 110 = .ok (.getfield 282, 3) := by decide +kernel
theorem dX11_made_113 : decode cX11_made 113 = .ok (.getfield 311, 3) := by decide +kernel
theorem dX11_made_116 : decode cX11_made 116 = .ok (.iload_n 1, 1) := by decide +kernel
theorem dX11_made_117 : decode cX11_made 117 = .ok (.iaload, 1) := by decide +kernel
theorem dX11_made_118 : decode cX11_made 118 = .ok (.ireturn, 1) := by decide +kernel
theorem dX11_made_119 : decode cX11_made 119 = .ok (.new 104, 3) := by decide +kernel
theorem dX11_made_122 : decode cX11_made 122 = .ok (.dup, 1) := by decide +kernel
theorem dX11_made_123 : decode cX11_made 123 = .ok (.ldc_w 314, 3) := by decide +kernel
theorem dX11_made_126 : decode cX11_made 126 = .ok (.invokespecial 108, 3) := by decide +kernel
theorem dX11_made_129 : decode cX11_made 129 = .ok (.athrow, 1) := by decide +kernel
theorem dX11_orderOf_0 : decode cX11_orderOf 0 = .ok (.aload_n 0, 1) := by decide +kernel
theorem dX11_orderOf_1 : decode cX11_orderOf 1 = .ok (.iload_n 1, 1) := by decide +kernel
theorem dX11_orderOf_2 : decode cX11_orderOf 2 = .ok (.invokevirtual 316, 3) := by decide +kernel
theorem dX11_orderOf_5 : decode cX11_orderOf 5 = .ok (.iload_n 2, 1) := by decide +kernel
theorem dX11_orderOf_6 : decode cX11_orderOf 6 = .ok (.tableswitch 116 0 5 #[38, 51, 64, 77, 90, 103], 38) := by decide +kernel
theorem dX11_orderOf_44 : decode cX11_orderOf 44 = .ok (.aload_n 0, 1) := by decide +kernel
theorem dX11_orderOf_45 : decode cX11_orderOf 45 = .ok (.getfield 12, 3) := by decide +kernel
theorem dX11_orderOf_48 : decode cX11_orderOf 48 = .ok (.getfield 164, 3) := by decide +kernel
theorem dX11_orderOf_51 : decode cX11_orderOf 51 = .ok (.getfield 319, 3) := by decide +kernel
theorem dX11_orderOf_54 : decode cX11_orderOf 54 = .ok (.iload_n 1, 1) := by decide +kernel
theorem dX11_orderOf_55 : decode cX11_orderOf 55 = .ok (.iaload, 1) := by decide +kernel
theorem dX11_orderOf_56 : decode cX11_orderOf 56 = .ok (.ireturn, 1) := by decide +kernel
theorem dX11_orderOf_57 : decode cX11_orderOf 57 = .ok (.aload_n 0, 1) := by decide +kernel
theorem dX11_orderOf_58 : decode cX11_orderOf 58 = .ok (.getfield 12, 3) := by decide +kernel
theorem dX11_orderOf_61 : decode cX11_orderOf 61 = .ok (.getfield 164, 3) := by decide +kernel
theorem dX11_orderOf_64 : decode cX11_orderOf 64 = .ok (.getfield 322, 3) := by decide +kernel
theorem dX11_orderOf_67 : decode cX11_orderOf 67 = .ok (.iload_n 1, 1) := by decide +kernel
theorem dX11_orderOf_68 : decode cX11_orderOf 68 = .ok (.iaload, 1) := by decide +kernel
theorem dX11_orderOf_69 : decode cX11_orderOf 69 = .ok (.ireturn, 1) := by decide +kernel
theorem dX11_orderOf_70 : decode cX11_orderOf 70 = .ok (.aload_n 0, 1) := by decide +kernel
theorem dX11_orderOf_71 : decode cX11_orderOf 71 = .ok (.getfield 12, 3) := by decide +kernel
theorem dX11_orderOf_74 : decode cX11_orderOf 74 = .ok (.getfield 164, 3) := by decide +kernel
theorem dX11_orderOf_77 : decode cX11_orderOf 77 = .ok (.getfield 323, 3) := by decide +kernel
theorem dX11_orderOf_80 : decode cX11_orderOf 80 = .ok (.iload_n 1, 1) := by decide +kernel
theorem dX11_orderOf_81 : decode cX11_orderOf 81 = .ok (.iaload, 1) := by decide +kernel
theorem dX11_orderOf_82 : decode cX11_orderOf 82 = .ok (.ireturn, 1) := by decide +kernel
theorem dX11_orderOf_83 : decode cX11_orderOf 83 = .ok (.aload_n 0, 1) := by decide +kernel
theorem dX11_orderOf_84 : decode cX11_orderOf 84 = .ok (.getfield 12, 3) := by decide +kernel
theorem dX11_orderOf_87 : decode cX11_orderOf 87 = .ok (.getfield 164, 3) := by decide +kernel
theorem dX11_orderOf_90 : decode cX11_orderOf 90 = .ok (.getfield 326, 3) := by decide +kernel
theorem dX11_orderOf_93 : decode cX11_orderOf 93 = .ok (.iload_n 1, 1) := by decide +kernel
theorem dX11_orderOf_94 : decode cX11_orderOf 94 = .ok (.iaload, 1) := by decide +kernel
theorem dX11_orderOf_95 : decode cX11_orderOf 95 = .ok (.ireturn, 1) := by decide +kernel
theorem dX11_orderOf_96 : decode cX11_orderOf 96 = .ok (.aload_n 0, 1) := by decide +kernel
theorem dX11_orderOf_97 : decode cX11_orderOf 97 = .ok (.getfield 12, 3) := by decide +kernel
theorem dX11_orderOf_100 : decode cX11_orderOf 100 = .ok (.getfield 164, 3) := by decide +kernel
theorem dX11_orderOf_103 : decode cX11_orderOf 103 = .ok (.getfield 329, 3) := by decide +kernel
theorem dX11_orderOf_106 : decode cX11_orderOf 106 = .ok (.iload_n 1, 1) := by decide +kernel
theorem dX11_orderOf_107 : decode cX11_orderOf 107 = .ok (.iaload, 1) := by decide +kernel
theorem dX11_orderOf_108 : decode cX11_orderOf 108 = .ok (.ireturn, 1) := by decide +kernel
theorem dX11_orderOf_109 : decode cX11_orderOf 109 = .ok (.aload_n 0, 1) := by decide +kernel
theorem dX11_orderOf_110 : decode cX11_orderOf 110 = .ok (.getfield 12, 3) := by decide +kernel
theorem dX11_orderOf_113 : decode cX11_orderOf 113 = .ok (.getfield 164, 3) := by decide +kernel
theorem dX11_orderOf_116 : decode cX11_orderOf 116 = .ok (.getfield 332, 3) := by decide +kernel
theorem dX11_orderOf_119 : decode cX11_orderOf 119 = .ok (.iload_n 1, 1) := by decide +kernel
theorem dX11_orderOf_120 : decode cX11_orderOf 120 = .ok (.iaload, 1) := by decide +kernel
theorem dX11_orderOf_121 : decode cX11_orderOf 121 = .ok (.ireturn, 1) := by decide +kernel
theorem dX11_orderOf_122 : decode cX11_orderOf 122 = .ok (.new 104, 3) := by decide +kernel
theorem dX11_orderOf_125 : decode cX11_orderOf 125 = .ok (.dup, 1) := by decide +kernel
theorem dX11_orderOf_126 : decode cX11_orderOf 126 = .ok (.ldc_w 335, 3) := by decide +kernel
theorem dX11_orderOf_129 : decode cX11_orderOf 129 = .ok (.invokespecial 108, 3) := by decide +kernel
theorem dX11_orderOf_132 : decode cX11_orderOf 132 = .ok (.athrow, 1) := by decide +kernel
theorem dX11_shots_0 : decode cX11_shots 0 = .ok (.aload_n 0, 1) := by decide +kernel
theorem dX11_shots_1 : decode cX11_shots 1 = .ok (.iload_n 1, 1) := by decide +kernel
theorem dX11_shots_2 : decode cX11_shots 2 = .ok (.invokevirtual 316, 3) := by decide +kernel
theorem dX11_shots_5 : decode cX11_shots 5 = .ok (.aload_n 0, 1) := by decide +kernel
theorem dX11_shots_6 : decode cX11_shots 6 = .ok (.getfield 12, 3) := by decide +kernel
theorem dX11_shots_9 : decode cX11_shots 9 = .ok (.iload_n 1, 1) := by decide +kernel
theorem dX11_shots_10 : decode cX11_shots 10 = .ok (.invokevirtual 337, 3) := by decide +kernel
theorem dX11_shots_13 : decode cX11_shots 13 = .ok (.istore_n 2, 1) := by decide +kernel
theorem dX11_shots_14 : decode cX11_shots 14 = .ok (.aload_n 0, 1) := by decide +kernel
theorem dX11_shots_15 : decode cX11_shots 15 = .ok (.getfield 12, 3) := by decide +kernel
theorem dX11_shots_18 : decode cX11_shots 18 = .ok (.getfield 164, 3) := by decide +kernel
theorem dX11_shots_21 : decode cX11_shots 21 = .ok (.iload_n 1, 1) := by decide +kernel
theorem dX11_shots_22 : decode cX11_shots 22 = .ok (.invokevirtual 340, 3) := by decide +kernel
theorem dX11_shots_25 : decode cX11_shots 25 = .ok (.ifCond .eq 7, 3) := by decide +kernel
theorem dX11_shots_28 : decode cX11_shots 28 = .ok (.iload_n 2, 1) := by decide +kernel
theorem dX11_shots_29 : decode cX11_shots 29 = .ok (.ifCond .gt 14, 3) := by decide +kernel
theorem dX11_shots_32 : decode cX11_shots 32 = .ok (.new 226, 3) := by decide +kernel
theorem dX11_shots_35 : decode cX11_shots 35 = .ok (.dup, 1) := by decide +kernel
theorem dX11_shots_36 : decode cX11_shots 36 = .ok (.ldc_w 343, 3) := by decide +kernel
theorem dX11_shots_39 : decode cX11_shots 39 = .ok (.invokespecial 230, 3) := by decide +kernel
theorem dX11_shots_42 : decode cX11_shots 42 = .ok (.athrow, 1) := by decide +kernel
theorem dX11_shots_43 : decode cX11_shots 43 = .ok (.aload_n 0, 1) := by decide +kernel
theorem dX11_shots_44 : decode cX11_shots 44 = .ok (.getfield 12, 3) := by decide +kernel
theorem dX11_shots_47 : decode cX11_shots 47 = .ok (.iload_n 1, 1) := by decide +kernel
theorem dX11_shots_48 : decode cX11_shots 48 = .ok (.invokevirtual 345, 3) := by decide +kernel
theorem dX11_shots_51 : decode cX11_shots 51 = .ok (.istore_n 3, 1) := by decide +kernel
theorem dX11_shots_52 : decode cX11_shots 52 = .ok (.iload_n 3, 1) := by decide +kernel
theorem dX11_shots_53 : decode cX11_shots 53 = .ok (.iload_n 2, 1) := by decide +kernel
theorem dX11_shots_54 : decode cX11_shots 54 = .ok (.iadd, 1) := by decide +kernel
theorem dX11_shots_55 : decode cX11_shots 55 = .ok (.iconst 1, 1) := by decide +kernel
theorem dX11_shots_56 : decode cX11_shots 56 = .ok (.isub, 1) := by decide +kernel
theorem dX11_shots_57 : decode cX11_shots 57 = .ok (.iload_n 2, 1) := by decide +kernel
theorem dX11_shots_58 : decode cX11_shots 58 = .ok (.idiv, 1) := by decide +kernel
theorem dX11_shots_59 : decode cX11_shots 59 = .ok (.ireturn, 1) := by decide +kernel
theorem dX11_letter_0 : decode cX11_letter 0 = .ok (.aload_n 0, 1) := by decide +kernel
theorem dX11_letter_1 : decode cX11_letter 1 = .ok (.iload_n 1, 1) := by decide +kernel
theorem dX11_letter_2 : decode cX11_letter 2 = .ok (.invokevirtual 316, 3) := by decide +kernel
theorem dX11_letter_5 : decode cX11_letter 5 = .ok (.aload_n 0, 1) := by decide +kernel
theorem dX11_letter_6 : decode cX11_letter 6 = .ok (.getfield 12, 3) := by decide +kernel
theorem dX11_letter_9 : decode cX11_letter 9 = .ok (.getfield 164, 3) := by decide +kernel
theorem dX11_letter_12 : decode cX11_letter 12 = .ok (.getfield 329, 3) := by decide +kernel
theorem dX11_letter_15 : decode cX11_letter 15 = .ok (.iload_n 1, 1) := by decide +kernel
theorem dX11_letter_16 : decode cX11_letter 16 = .ok (.iaload, 1) := by decide +kernel
theorem dX11_letter_17 : decode cX11_letter 17 = .ok (.lookupswitch 33 #[(1, 27), (2, 30)], 27) := by decide +kernel
theorem dX11_letter_44 : decode cX11_letter 44 = .ok (.bipush 100, 2) := by decide +kernel
theorem dX11_letter_46 : decode cX11_letter 46 = .ok (.ireturn, 1) := by decide +kernel
theorem dX11_letter_47 : decode cX11_letter 47 = .ok (.bipush 99, 2) := by decide +kernel
theorem dX11_letter_49 : decode cX11_letter 49 = .ok (.ireturn, 1) := by decide +kernel
theorem dX11_letter_50 : decode cX11_letter 50 = .ok (.aload_n 0, 1) := by decide +kernel
theorem dX11_letter_51 : decode cX11_letter 51 = .ok (.getfield 12, 3) := by decide +kernel
theorem dX11_letter_54 : decode cX11_letter 54 = .ok (.getfield 164, 3) := by decide +kernel
theorem dX11_letter_57 : decode cX11_letter 57 = .ok (.getfield 332, 3) := by decide +kernel
theorem dX11_letter_60 : decode cX11_letter 60 = .ok (.iload_n 1, 1) := by decide +kernel
theorem dX11_letter_61 : decode cX11_letter 61 = .ok (.iaload, 1) := by decide +kernel
theorem dX11_letter_62 : decode cX11_letter 62 = .ok (.ifCond .le 8, 3) := by decide +kernel
theorem dX11_letter_65 : decode cX11_letter 65 = .ok (.bipush 108, 2) := by decide +kernel
theorem dX11_letter_67 : decode cX11_letter 67 = .ok (.goto 5, 3) := by decide +kernel
theorem dX11_letter_70 : decode cX11_letter 70 = .ok (.bipush 111, 2) := by decide +kernel
theorem dX11_letter_72 : decode cX11_letter 72 = .ok (.ireturn, 1) := by decide +kernel
theorem dX11_due_0 : decode cX11_due 0 = .ok (.iload_n 1, 1) := by decide +kernel
theorem dX11_due_1 : decode cX11_due 1 = .ok (.ifCond .ge 14, 3) := by decide +kernel
theorem dX11_due_4 : decode cX11_due 4 = .ok (.new 104, 3) := by decide +kernel
theorem dX11_due_7 : decode cX11_due 7 = .ok (.dup, 1) := by decide +kernel
theorem dX11_due_8 : decode cX11_due 8 = .ok (.ldc_w 348, 3) := by decide +kernel
theorem dX11_due_11 : decode cX11_due 11 = .ok (.invokespecial 108, 3) := by decide +kernel
theorem dX11_due_14 : decode cX11_due 14 = .ok (.athrow, 1) := by decide +kernel
theorem dX11_due_15 : decode cX11_due 15 = .ok (.aload_n 0, 1) := by decide +kernel
theorem dX11_due_16 : decode cX11_due 16 = .ok (.getfield 12, 3) := by decide +kernel
theorem dX11_due_19 : decode cX11_due 19 = .ok (.getfield 164, 3) := by decide +kernel
theorem dX11_due_22 : decode cX11_due 22 = .ok (.iload_n 1, 1) := by decide +kernel
theorem dX11_due_23 : decode cX11_due 23 = .ok (.invokevirtual 350, 3) := by decide +kernel
theorem dX11_due_26 : decode cX11_due 26 = .ok (.ireturn, 1) := by decide +kernel
theorem dX11_reason_0 : decode cX11_reason 0 = .ok (.iload_n 1, 1) := by decide +kernel
theorem dX11_reason_1 : decode cX11_reason 1 = .ok (.ifCond .ge 14, 3) := by decide +kernel
theorem dX11_reason_4 : decode cX11_reason 4 = .ok (.new 104, 3) := by decide +kernel
theorem dX11_reason_7 : decode cX11_reason 7 = .ok (.dup, 1) := by decide +kernel
theorem dX11_reason_8 : decode cX11_reason 8 = .ok (.ldc_w 353, 3) := by decide +kernel
theorem dX11_reason_11 : decode cX11_reason 11 = .ok (.invokespecial 108, 3) := by decide +kernel
theorem dX11_reason_14 : decode cX11_reason 14 = .ok (.athrow, 1) := by decide +kernel
theorem dX11_reason_15 : decode cX11_reason 15 = .ok (.iload_n 1, 1) := by decide +kernel
theorem dX11_reason_16 : decode cX11_reason 16 = .ok (.iconst 0, 1) := by decide +kernel
theorem dX11_reason_17 : decode cX11_reason 17 = .ok (.aload_n 0, 1) := by decide +kernel
theorem dX11_reason_18 : decode cX11_reason 18 = .ok (.getfield 29, 3) := by decide +kernel
theorem dX11_reason_21 : decode cX11_reason 21 = .ok (.getfield 355, 3) := by decide +kernel
theorem dX11_reason_24 : decode cX11_reason 24 = .ok (.iconst 1, 1) := by decide +kernel
theorem dX11_reason_25 : decode cX11_reason 25 = .ok (.isub, 1) := by decide +kernel
theorem dX11_reason_26 : decode cX11_reason 26 = .ok (.invokestatic 189, 3) := by decide +kernel
theorem dX11_reason_29 : decode cX11_reason 29 = .ok (.ifCond .ne 14, 3) := by decide +kernel
theorem dX11_reason_32 : decode cX11_reason 32 = .ok (.new 226, 3) := by decide +kernel
theorem dX11_reason_35 : decode cX11_reason 35 = .ok (.dup, 1) := by decide +kernel
theorem dX11_reason_36 : decode cX11_reason 36 = .ok (.ldc_w 356, 3) := by decide +kernel
theorem dX11_reason_39 : decode cX11_reason 39 = .ok (.invokespecial 230, 3) := by decide +kernel
theorem dX11_reason_42 : decode cX11_reason 42 = .ok (.athrow, 1) := by decide +kernel
theorem dX11_reason_43 : decode cX11_reason 43 = .ok (.iload_n 2, 1) := by decide +kernel
theorem dX11_reason_44 : decode cX11_reason 44 = .ok (.ifCond .eq 15, 3) := by decide +kernel
theorem dX11_reason_47 : decode cX11_reason 47 = .ok (.aload_n 0, 1) := by decide +kernel
theorem dX11_reason_48 : decode cX11_reason 48 = .ok (.getfield 29, 3) := by decide +kernel
theorem dX11_reason_51 : decode cX11_reason 51 = .ok (.getfield 358, 3) := by decide +kernel
theorem dX11_reason_54 : decode cX11_reason 54 = .ok (.iload_n 1, 1) := by decide +kernel
theorem dX11_reason_55 : decode cX11_reason 55 = .ok (.iaload, 1) := by decide +kernel
theorem dX11_reason_56 : decode cX11_reason 56 = .ok (.goto 12, 3) := by decide +kernel
theorem dX11_reason_59 : decode cX11_reason 59 = .ok (.aload_n 0, 1) := by decide +kernel
theorem dX11_reason_60 : decode cX11_reason 60 = .ok (.getfield 29, 3) := by decide +kernel
theorem dX11_reason_63 : decode cX11_reason 63 = .ok (.getfield 361, 3) := by decide +kernel
theorem dX11_reason_66 : decode cX11_reason 66 = .ok (.iload_n 1, 1) := by decide +kernel
theorem dX11_reason_67 : decode cX11_reason 67 = .ok (.iaload, 1) := by decide +kernel
theorem dX11_reason_68 : decode cX11_reason 68 = .ok (.ireturn, 1) := by decide +kernel
theorem dX11_scrap_0 : decode cX11_scrap 0 = .ok (.aload_n 0, 1) := by decide +kernel
theorem dX11_scrap_1 : decode cX11_scrap 1 = .ok (.getfield 12, 3) := by decide +kernel
theorem dX11_scrap_4 : decode cX11_scrap 4 = .ok (.getfield 282, 3) := by decide +kernel
theorem dX11_scrap_7 : decode cX11_scrap 7 = .ok (.aload_n 0, 1) := by decide +kernel
theorem dX11_scrap_8 : decode cX11_scrap 8 = .ok (.getfield 12, 3) := by decide +kernel
theorem dX11_scrap_11 : decode cX11_scrap 11 = .ok (.getfield 282, 3) := by decide +kernel
theorem dX11_scrap_14 : decode cX11_scrap 14 = .ok (.getfield 299, 3) := by decide +kernel
theorem dX11_scrap_17 : decode cX11_scrap 17 = .ok (.invokevirtual 364, 3) := by decide +kernel
theorem dX11_scrap_20 : decode cX11_scrap 20 = .ok (.istore_n 1, 1) := by decide +kernel
theorem dX11_scrap_21 : decode cX11_scrap 21 = .ok (.iload_n 1, 1) := by decide +kernel
theorem dX11_scrap_22 : decode cX11_scrap 22 = .ok (.ifCond .gt 14, 3) := by decide +kernel
theorem dX11_scrap_25 : decode cX11_scrap 25 = .ok (.new 368, 3) := by decide +kernel
theorem dX11_scrap_28 : decode cX11_scrap 28 = .ok (.dup, 1) := by decide +kernel
theorem dX11_scrap_29 : decode cX11_scrap 29 = .ok (.ldc_w 370, 3) := by decide +kernel
theorem dX11_scrap_32 : decode cX11_scrap 32 = .ok (.invokespecial 372, 3) := by decide +kernel
theorem dX11_scrap_35 : decode cX11_scrap 35 = .ok (.athrow, 1) := by decide +kernel
theorem dX11_scrap_36 : decode cX11_scrap 36 = .ok (.aload_n 0, 1) := by decide +kernel
theorem dX11_scrap_37 : decode cX11_scrap 37 = .ok (.getfield 12, 3) := by decide +kernel
theorem dX11_scrap_40 : decode cX11_scrap 40 = .ok (.getfield 282, 3) := by decide +kernel
theorem dX11_scrap_43 : decode cX11_scrap 43 = .ok (.aload_n 0, 1) := by decide +kernel
theorem dX11_scrap_44 : decode cX11_scrap 44 = .ok (.getfield 12, 3) := by decide +kernel
theorem dX11_scrap_47 : decode cX11_scrap 47 = .ok (.getfield 282, 3) := by decide +kernel
theorem dX11_scrap_50 : decode cX11_scrap 50 = .ok (.getfield 311, 3) := by decide +kernel
theorem dX11_scrap_53 : decode cX11_scrap 53 = .ok (.invokevirtual 364, 3) := by decide +kernel
theorem dX11_scrap_56 : decode cX11_scrap 56 = .ok (.i2f, 1) := by decide +kernel
theorem dX11_scrap_57 : decode cX11_scrap 57 = .ok (.iload_n 1, 1) := by decide +kernel
theorem dX11_scrap_58 : decode cX11_scrap 58 = .ok (.i2f, 1) := by decide +kernel
theorem dX11_scrap_59 : decode cX11_scrap 59 = .ok (.fdiv, 1) := by decide +kernel
theorem dX11_scrap_60 : decode cX11_scrap 60 = .ok (.freturn, 1) := by decide +kernel
theorem dX11_lateness_0 : decode cX11_lateness 0 = .ok (.aload_n 0, 1) := by decide +kernel
theorem dX11_lateness_1 : decode cX11_lateness 1 = .ok (.getfield 12, 3) := by decide +kernel
theorem dX11_lateness_4 : decode cX11_lateness 4 = .ok (.getfield 164, 3) := by decide +kernel
theorem dX11_lateness_7 : decode cX11_lateness 7 = .ok (.iconst 1, 1) := by decide +kernel
theorem dX11_lateness_8 : decode cX11_lateness 8 = .ok (.invokevirtual 373, 3) := by decide +kernel
theorem dX11_lateness_11 : decode cX11_lateness 11 = .ok (.istore_n 1, 1) := by decide +kernel
theorem dX11_lateness_12 : decode cX11_lateness 12 = .ok (.iload_n 1, 1) := by decide +kernel
theorem dX11_lateness_13 : decode cX11_lateness 13 = .ok (.ifCond .gt 14, 3) := by decide +kernel
theorem dX11_lateness_16 : decode cX11_lateness 16 = .ok (.new 368, 3) := by decide +kernel
theorem dX11_lateness_19 : decode cX11_lateness 19 = .ok (.dup, 1) := by decide +kernel
theorem dX11_lateness_20 : decode cX11_lateness 20 = .ok (.ldc_w 376, 3) := by decide +kernel
theorem dX11_lateness_23 : decode cX11_lateness 23 = .ok (.invokespecial 372, 3) := by decide +kernel
theorem dX11_lateness_26 : decode cX11_lateness 26 = .ok (.athrow, 1) := by decide +kernel
theorem dX11_lateness_27 : decode cX11_lateness 27 = .ok (.aload_n 0, 1) := by decide +kernel
theorem dX11_lateness_28 : decode cX11_lateness 28 = .ok (.getfield 12, 3) := by decide +kernel
theorem dX11_lateness_31 : decode cX11_lateness 31 = .ok (.getfield 164, 3) := by decide +kernel
theorem dX11_lateness_34 : decode cX11_lateness 34 = .ok (.invokevirtual 378, 3) := by decide +kernel
theorem dX11_lateness_37 : decode cX11_lateness 37 = .ok (.i2d, 1) := by decide +kernel
theorem dX11_lateness_38 : decode cX11_lateness 38 = .ok (.iload_n 1, 1) := by decide +kernel
theorem dX11_lateness_39 : decode cX11_lateness 39 = .ok (.i2d, 1) := by decide +kernel
theorem dX11_lateness_40 : decode cX11_lateness 40 = .ok (.ddiv, 1) := by decide +kernel
theorem dX11_lateness_41 : decode cX11_lateness 41 = .ok (.dreturn, 1) := by decide +kernel
theorem dX11_account_0 : decode cX11_account 0 = .ok (.iload_n 1, 1) := by decide +kernel
theorem dX11_account_1 : decode cX11_account 1 = .ok (.tableswitch 282 0 18 #[91, 102, 113, 124, 135, 147, 155, 163, 171, 179, 190, 198, 206, 214, 222, 230, 243, 256, 269], 91) := by decide +kernel
theorem dX11_account_92 : decode cX11_account 92 = .ok (.aload_n 0, 1) := by decide +kernel
theorem dX11_account_93 : decode cX11_account 93 = .ok (.getfield 12, 3) := by decide +kernel
theorem dX11_account_96 : decode cX11_account 96 = .ok (.getfield 80, 3) := by decide +kernel
theorem dX11_account_99 : decode cX11_account 99 = .ok (.getfield 382, 3) := by decide +kernel
theorem dX11_account_102 : decode cX11_account 102 = .ok (.ireturn, 1) := by decide +kernel
theorem dX11_account_103 : decode cX11_account 103 = .ok (.aload_n 0, 1) := by decide +kernel
theorem dX11_account_104 : decode cX11_account 104 = .ok (.getfield 12, 3) := by decide +kernel
theorem dX11_account_107 : decode cX11_account 107 = .ok (.getfield 80, 3) := by decide +kernel
theorem dX11_account_110 : decode cX11_account 110 = .ok (.getfield 385, 3) := by decide +kernel
theorem dX11_account_113 : decode cX11_account 113 = .ok (.ireturn, 1) := by decide +kernel
theorem dX11_account_114 : decode cX11_account 114 = .ok (.aload_n 0, 1) := by decide +kernel
theorem dX11_account_115 : decode cX11_account 115 = .ok (.getfield 12, 3) := by decide +kernel
theorem dX11_account_118 : decode cX11_account 118 = .ok (.getfield 80, 3) := by decide +kernel
theorem dX11_account_121 : decode cX11_account 121 = .ok (.getfield 388, 3) := by decide +kernel
theorem dX11_account_124 : decode cX11_account 124 = .ok (.ireturn, 1) := by decide +kernel
theorem dX11_account_125 : decode cX11_account 125 = .ok (.aload_n 0, 1) := by decide +kernel
theorem dX11_account_126 : decode cX11_account 126 = .ok (.getfield 12, 3) := by decide +kernel
theorem dX11_account_129 : decode cX11_account 129 = .ok (.getfield 164, 3) := by decide +kernel
theorem dX11_account_132 : decode cX11_account 132 = .ok (.getfield 391, 3) := by decide +kernel
theorem dX11_account_135 : decode cX11_account 135 = .ok (.ireturn, 1) := by decide +kernel
theorem dX11_account_136 : decode cX11_account 136 = .ok (.aload_n 0, 1) := by decide +kernel
theorem dX11_account_137 : decode cX11_account 137 = .ok (.getfield 12, 3) := by decide +kernel
theorem dX11_account_140 : decode cX11_account 140 = .ok (.getfield 164, 3) := by decide +kernel
theorem dX11_account_143 : decode cX11_account 143 = .ok (.iconst 0, 1) := by decide +kernel
theorem dX11_account_144 : decode cX11_account 144 = .ok (.invokevirtual 373, 3) := by decide +kernel
theorem dX11_account_147 : decode cX11_account 147 = .ok (.ireturn, 1) := by decide +kernel
theorem dX11_account_148 : decode cX11_account 148 = .ok (.aload_n 0, 1) := by decide +kernel
theorem dX11_account_149 : decode cX11_account 149 = .ok (.getfield 12, 3) := by decide +kernel
theorem dX11_account_152 : decode cX11_account 152 = .ok (.getfield 392, 3) := by decide +kernel
theorem dX11_account_155 : decode cX11_account 155 = .ok (.ireturn, 1) := by decide +kernel
theorem dX11_account_156 : decode cX11_account 156 = .ok (.aload_n 0, 1) := by decide +kernel
theorem dX11_account_157 : decode cX11_account 157 = .ok (.getfield 12, 3) := by decide +kernel
theorem dX11_account_160 : decode cX11_account 160 = .ok (.getfield 395, 3) := by decide +kernel
theorem dX11_account_163 : decode cX11_account 163 = .ok (.ireturn, 1) := by decide +kernel
theorem dX11_account_164 : decode cX11_account 164 = .ok (.aload_n 0, 1) := by decide +kernel
theorem dX11_account_165 : decode cX11_account 165 = .ok (.getfield 12, 3) := by decide +kernel
theorem dX11_account_168 : decode cX11_account 168 = .ok (.getfield 203, 3) := by decide +kernel
theorem dX11_account_171 : decode cX11_account 171 = .ok (.ireturn, 1) := by decide +kernel
theorem dX11_account_172 : decode cX11_account 172 = .ok (.aload_n 0, 1) := by decide +kernel
theorem dX11_account_173 : decode cX11_account 173 = .ok (.getfield 12, 3) := by decide +kernel
theorem dX11_account_176 : decode cX11_account 176 = .ok (.getfield 195, 3) := by decide +kernel
theorem dX11_account_179 : decode cX11_account 179 = .ok (.ireturn, 1) := by decide +kernel
theorem dX11_account_180 : decode cX11_account 180 = .ok (.aload_n 0, 1) := by decide +kernel
theorem dX11_account_181 : decode cX11_account 181 = .ok (.getfield 12, 3) := by decide +kernel
theorem dX11_account_184 : decode cX11_account 184 = .ok (.getfield 144, 3) := by decide +kernel
theorem dX11_account_187 : decode cX11_account 187 = .ok (.invokevirtual 398, 3) := by decide +kernel
theorem dX11_account_190 : decode cX11_account 190 = .ok (.ireturn, 1) := by decide +kernel
theorem dX11_account_191 : decode cX11_account 191 = .ok (.aload_n 0, 1) := by decide +kernel
theorem dX11_account_192 : decode cX11_account 192 = .ok (.getfield 12, 3) := by decide +kernel
theorem dX11_account_195 : decode cX11_account 195 = .ok (.getfield 401, 3) := by decide +kernel
theorem dX11_account_198 : decode cX11_account 198 = .ok (.ireturn, 1) := by decide +kernel
theorem dX11_account_199 : decode cX11_account 199 = .ok (.aload_n 0, 1) := by decide +kernel
theorem dX11_account_200 : decode cX11_account 200 = .ok (.getfield 12, 3) := by decide +kernel
theorem dX11_account_203 : decode cX11_account 203 = .ok (.getfield 404, 3) := by decide +kernel
theorem dX11_account_206 : decode cX11_account 206 = .ok (.ireturn, 1) := by decide +kernel
theorem dX11_account_207 : decode cX11_account 207 = .ok (.aload_n 0, 1) := by decide +kernel
theorem dX11_account_208 : decode cX11_account 208 = .ok (.getfield 12, 3) := by decide +kernel
theorem dX11_account_211 : decode cX11_account 211 = .ok (.getfield 407, 3) := by decide +kernel
theorem dX11_account_214 : decode cX11_account 214 = .ok (.ireturn, 1) := by decide +kernel
theorem dX11_account_215 : decode cX11_account 215 = .ok (.aload_n 0, 1) := by decide +kernel
theorem dX11_account_216 : decode cX11_account 216 = .ok (.getfield 22, 3) := by decide +kernel
theorem dX11_account_219 : decode cX11_account 219 = .ok (.getfield 410, 3) := by decide +kernel
theorem dX11_account_222 : decode cX11_account 222 = .ok (.ireturn, 1) := by decide +kernel
theorem dX11_account_223 : decode cX11_account 223 = .ok (.aload_n 0, 1) := by decide +kernel
theorem dX11_account_224 : decode cX11_account 224 = .ok (.getfield 36, 3) := by decide +kernel
theorem dX11_account_227 : decode cX11_account 227 = .ok (.getfield 72, 3) := by decide +kernel
theorem dX11_account_230 : decode cX11_account 230 = .ok (.ireturn, 1) := by decide +kernel
theorem dX11_account_231 : decode cX11_account 231 = .ok (.aload_n 0, 1) := by decide +kernel
theorem dX11_account_232 : decode cX11_account 232 = .ok (.getfield 12, 3) := by decide +kernel
theorem dX11_account_235 : decode cX11_account 235 = .ok (.getfield 80, 3) := by decide +kernel
theorem dX11_account_238 : decode cX11_account 238 = .ok (.getfield 272, 3) := by decide +kernel
theorem dX11_account_241 : decode cX11_account 241 = .ok (.iconst 0, 1) := by decide +kernel
theorem dX11_account_242 : decode cX11_account 242 = .ok (.iaload, 1) := by decide +kernel
theorem dX11_account_243 : decode cX11_account 243 = .ok (.ireturn, 1) := by decide +kernel
theorem dX11_account_244 : decode cX11_account 244 = .ok (.aload_n 0, 1) := by decide +kernel
theorem dX11_account_245 : decode cX11_account 245 = .ok (.getfield 12, 3) := by decide +kernel
theorem dX11_account_248 : decode cX11_account 248 = .ok (.getfield 80, 3) := by decide +kernel
theorem dX11_account_251 : decode cX11_account 251 = .ok (.getfield 272, 3) := by decide +kernel
theorem dX11_account_254 : decode cX11_account 254 = .ok (.iconst 1, 1) := by decide +kernel
theorem dX11_account_255 : decode cX11_account 255 = .ok (.iaload, 1) := by decide +kernel
theorem dX11_account_256 : decode cX11_account 256 = .ok (.ireturn, 1) := by decide +kernel
theorem dX11_account_257 : decode cX11_account 257 = .ok (.aload_n 0, 1) := by decide +kernel
theorem dX11_account_258 : decode cX11_account 258 = .ok (.getfield 12, 3) := by decide +kernel
theorem dX11_account_261 : decode cX11_account 261 = .ok (.getfield 80, 3) := by decide +kernel
theorem dX11_account_264 : decode cX11_account 264 = .ok (.getfield 272, 3) := by decide +kernel
theorem dX11_account_267 : decode cX11_account 267 = .ok (.iconst 2, 1) := by decide +kernel
theorem dX11_account_268 : decode cX11_account 268 = .ok (.iaload, 1) := by decide +kernel
theorem dX11_account_269 : decode cX11_account 269 = .ok (.ireturn, 1) := by decide +kernel
theorem dX11_account_270 : decode cX11_account 270 = .ok (.aload_n 0, 1) := by decide +kernel
theorem dX11_account_271 : decode cX11_account 271 = .ok (.getfield 12, 3) := by decide +kernel
theorem dX11_account_274 : decode cX11_account 274 = .ok (.getfield 80, 3) := by decide +kernel
theorem dX11_account_277 : decode cX11_account 277 = .ok (.getfield 272, 3) := by decide +kernel
theorem dX11_account_280 : decode cX11_account 280 = .ok (.iconst 3, 1) := by decide +kernel
theorem dX11_account_281 : decode cX11_account 281 = .ok (.iaload, 1) := by decide +kernel
theorem dX11_account_282 : decode cX11_account 282 = .ok (.ireturn, 1) := by decide +kernel
theorem dX11_account_283 : decode cX11_account 283 = .ok (.new 104, 3) := by decide +kernel
theorem dX11_account_286 : decode cX11_account 286 = .ok (.dup, 1) := by decide +kernel
theorem dX11_account_287 : decode cX11_account 287 = .ok (.ldc_w 411, 3) := by decide +kernel
theorem dX11_account_290 : decode cX11_account 290 = .ok (.invokespecial 108, 3) := by decide +kernel
theorem dX11_account_293 : decode cX11_account 293 = .ok (.athrow, 1) := by decide +kernel
theorem dX11_undo_0 : decode cX11_undo 0 = .ok (.aload_n 0, 1) := by decide +kernel
theorem dX11_undo_1 : decode cX11_undo 1 = .ok (.getfield 22, 3) := by decide +kernel
theorem dX11_undo_4 : decode cX11_undo 4 = .ok (.getfield 410, 3) := by decide +kernel
theorem dX11_undo_7 : decode cX11_undo 7 = .ok (.ifCond .gt 14, 3) := by decide +kernel
theorem dX11_undo_10 : decode cX11_undo 10 = .ok (.new 65, 3) := by decide +kernel
theorem dX11_undo_13 : decode cX11_undo 13 = .ok (.dup, 1) := by decide +kernel
theorem dX11_undo_14 : decode cX11_undo 14 = .ok (.ldc_w 413, 3) := by decide +kernel
theorem dX11_undo_17 : decode cX11_undo 17 = .ok (.invokespecial 69, 3) := by decide +kernel
theorem dX11_undo_20 : decode cX11_undo 20 = .ok (.athrow, 1) := by decide +kernel
theorem dX11_undo_21 : decode cX11_undo 21 = .ok (.aload_n 0, 1) := by decide +kernel
theorem dX11_undo_22 : decode cX11_undo 22 = .ok (.getfield 22, 3) := by decide +kernel
theorem dX11_undo_25 : decode cX11_undo 25 = .ok (.aload_n 0, 1) := by decide +kernel
theorem dX11_undo_26 : decode cX11_undo 26 = .ok (.getfield 12, 3) := by decide +kernel
theorem dX11_undo_29 : decode cX11_undo 29 = .ok (.invokevirtual 415, 3) := by decide +kernel
theorem dX11_undo_32 : decode cX11_undo 32 = .ok (.aload_n 0, 1) := by decide +kernel
theorem dX11_undo_33 : decode cX11_undo 33 = .ok (.getfield 22, 3) := by decide +kernel
theorem dX11_undo_36 : decode cX11_undo 36 = .ok (.getfield 410, 3) := by decide +kernel
theorem dX11_undo_39 : decode cX11_undo 39 = .ok (.ireturn, 1) := by decide +kernel
theorem dX11_save_0 : decode cX11_save 0 = .ok (.aload_n 0, 1) := by decide +kernel
theorem dX11_save_1 : decode cX11_save 1 = .ok (.getfield 16, 3) := by decide +kernel
theorem dX11_save_4 : decode cX11_save 4 = .ok (.aload_n 0, 1) := by decide +kernel
theorem dX11_save_5 : decode cX11_save 5 = .ok (.getfield 12, 3) := by decide +kernel
theorem dX11_save_8 : decode cX11_save 8 = .ok (.invokevirtual 418, 3) := by decide +kernel
theorem dX11_save_11 : decode cX11_save 11 = .ok (.aload_n 0, 1) := by decide +kernel
theorem dX11_save_12 : decode cX11_save 12 = .ok (.iconst 1, 1) := by decide +kernel
theorem dX11_save_13 : decode cX11_save 13 = .ok (.putfield 421, 3) := by decide +kernel
theorem dX11_save_16 : decode cX11_save 16 = .ok (.aload_n 0, 1) := by decide +kernel
theorem dX11_save_17 : decode cX11_save 17 = .ok (.getfield 12, 3) := by decide +kernel
theorem dX11_save_20 : decode cX11_save 20 = .ok (.getfield 164, 3) := by decide +kernel
theorem dX11_save_23 : decode cX11_save 23 = .ok (.getfield 391, 3) := by decide +kernel
theorem dX11_save_26 : decode cX11_save 26 = .ok (.ireturn, 1) := by decide +kernel
theorem dX11_restore_0 : decode cX11_restore 0 = .ok (.aload_n 0, 1) := by decide +kernel
theorem dX11_restore_1 : decode cX11_restore 1 = .ok (.getfield 421, 3) := by decide +kernel
theorem dX11_restore_4 : decode cX11_restore 4 = .ok (.ifCond .ne 14, 3) := by decide +kernel
theorem dX11_restore_7 : decode cX11_restore 7 = .ok (.new 65, 3) := by decide +kernel
theorem dX11_restore_10 : decode cX11_restore 10 = .ok (.dup, 1) := by decide +kernel
theorem dX11_restore_11 : decode cX11_restore 11 = .ok (.ldc_w 425, 3) := by decide +kernel
theorem dX11_restore_14 : decode cX11_restore 14 = .ok (.invokespecial 69, 3) := by decide +kernel
theorem dX11_restore_17 : decode cX11_restore 17 = .ok (.athrow, 1) := by decide +kernel
theorem dX11_restore_18 : decode cX11_restore 18 = .ok (.aload_n 0, 1) := by decide +kernel
theorem dX11_restore_19 : decode cX11_restore 19 = .ok (.getfield 12, 3) := by decide +kernel
theorem dX11_restore_22 : decode cX11_restore 22 = .ok (.aload_n 0, 1) := by decide +kernel
theorem dX11_restore_23 : decode cX11_restore 23 = .ok (.getfield 16, 3) := by decide +kernel
theorem dX11_restore_26 : decode cX11_restore 26 = .ok (.invokevirtual 418, 3) := by decide +kernel
theorem dX11_restore_29 : decode cX11_restore 29 = .ok (.aload_n 0, 1) := by decide +kernel
theorem dX11_restore_30 : decode cX11_restore 30 = .ok (.getfield 22, 3) := by decide +kernel
theorem dX11_restore_33 : decode cX11_restore 33 = .ok (.invokevirtual 427, 3) := by decide +kernel
theorem dX11_restore_36 : decode cX11_restore 36 = .ok (.aload_n 0, 1) := by decide +kernel
theorem dX11_restore_37 : decode cX11_restore 37 = .ok (.getfield 12, 3) := by decide +kernel
theorem dX11_restore_40 : decode cX11_restore 40 = .ok (.getfield 164, 3) := by decide +kernel
theorem dX11_restore_43 : decode cX11_restore 43 = .ok (.getfield 391, 3) := by decide +kernel
theorem dX11_restore_46 : decode cX11_restore 46 = .ok (.ireturn, 1) := by decide +kernel
theorem dX11_settled_0 : decode cX11_settled 0 = .ok (.iload_n 1, 1) := by decide +kernel
theorem dX11_settled_1 : decode cX11_settled 1 = .ok (.iconst (-1), 1) := by decide +kernel
theorem dX11_settled_2 : decode cX11_settled 2 = .ok (.if_icmp .ne 14, 3) := by decide +kernel
theorem dX11_settled_5 : decode cX11_settled 5 = .ok (.new 129, 3) := by decide +kernel
theorem dX11_settled_8 : decode cX11_settled 8 = .ok (.dup, 1) := by decide +kernel
theorem dX11_settled_9 : decode cX11_settled 9 = .ok (.ldc_w 430, 3) := by decide +kernel
theorem dX11_settled_12 : decode cX11_settled 12 = .ok (.invokespecial 133, 3) := by decide +kernel
theorem dX11_settled_15 : decode cX11_settled 15 = .ok (.athrow, 1) := by decide +kernel
theorem dX11_settled_16 : decode cX11_settled 16 = .ok (.aload_n 0, 1) := by decide +kernel
theorem dX11_settled_17 : decode cX11_settled 17 = .ok (.getfield 22, 3) := by decide +kernel
theorem dX11_settled_20 : decode cX11_settled 20 = .ok (.invokevirtual 432, 3) := by decide +kernel
theorem dX11_settled_23 : decode cX11_settled 23 = .ok (.iload_n 1, 1) := by decide +kernel
theorem dX11_settled_24 : decode cX11_settled 24 = .ok (.ireturn, 1) := by decide +kernel
theorem dX11_commandCarriedOut_0 : decode cX11_commandCarriedOut 0 = .ok (.aload_n 0, 1) := by decide +kernel
theorem dX11_commandCarriedOut_1 : decode cX11_commandCarriedOut 1 = .ok (.getfield 50, 3) := by decide +kernel
theorem dX11_commandCarriedOut_4 : decode cX11_commandCarriedOut 4 = .ok (.iload_n 1, 1) := by decide +kernel
theorem dX11_commandCarriedOut_5 : decode cX11_commandCarriedOut 5 = .ok (.iconst 0, 1) := by decide +kernel
theorem dX11_commandCarriedOut_6 : decode cX11_commandCarriedOut 6 = .ok (.invokevirtual 435, 3) := by decide +kernel
theorem dX11_commandCarriedOut_9 : decode cX11_commandCarriedOut 9 = .ok (.istore_n 2, 1) := by decide +kernel
theorem dX11_commandCarriedOut_10 : decode cX11_commandCarriedOut 10 = .ok (.aload_n 0, 1) := by decide +kernel
theorem dX11_commandCarriedOut_11 : decode cX11_commandCarriedOut 11 = .ok (.getfield 50, 3) := by decide +kernel
theorem dX11_commandCarriedOut_14 : decode cX11_commandCarriedOut 14 = .ok (.iload_n 1, 1) := by decide +kernel
theorem dX11_commandCarriedOut_15 : decode cX11_commandCarriedOut 15 = .ok (.iconst 1, 1) := by decide +kernel
theorem dX11_commandCarriedOut_16 : decode cX11_commandCarriedOut 16 = .ok (.invokevirtual 435, 3) := by decide +kernel
theorem dX11_commandCarriedOut_19 : decode cX11_commandCarriedOut 19 = .ok (.istore_n 3, 1) := by decide +kernel
theorem dX11_commandCarriedOut_20 : decode cX11_commandCarriedOut 20 = .ok (.aload_n 0, 1) := by decide +kernel
theorem dX11_commandCarriedOut_21 : decode cX11_commandCarriedOut 21 = .ok (.getfield 50, 3) := by decide +kernel
theorem dX11_commandCarriedOut_24 : decode cX11_commandCarriedOut 24 = .ok (.iload_n 1, 1) := by decide +kernel
theorem dX11_commandCarriedOut_25 : decode cX11_commandCarriedOut 25 = .ok (.invokevirtual 438, 3) := by decide +kernel
theorem dX11_commandCarriedOut_28 : decode cX11_commandCarriedOut 28 = .ok (.tableswitch 68 0 2 #[28, 41, 55], 28) := by decide +kernel
theorem dX11_commandCarriedOut_56 : decode cX11_commandCarriedOut 56 = .ok (.aload_n 0, 1) := by decide +kernel
theorem dX11_commandCarriedOut_57 : decode cX11_commandCarriedOut 57 = .ok (.getfield 12, 3) := by decide +kernel
theorem dX11_commandCarriedOut_60 : decode cX11_commandCarriedOut 60 = .ok (.iload_n 2, 1) := by decide +kernel
theorem dX11_commandCarriedOut_61 : decode cX11_commandCarriedOut 61 = .ok (.aload_n 0, 1) := by decide +kernel
theorem dX11_commandCarriedOut_62 : decode cX11_commandCarriedOut 62 = .ok (.getfield 29, 3) := by decide +kernel
theorem dX11_commandCarriedOut_65 : decode cX11_commandCarriedOut 65 = .ok (.invokevirtual 137, 3) := by decide +kernel
theorem dX11_commandCarriedOut_68 : decode cX11_commandCarriedOut 68 = .ok (.ireturn, 1) := by decide +kernel
theorem dX11_commandCarriedOut_69 : decode cX11_commandCarriedOut 69 = .ok (.aload_n 0, 1) := by decide +kernel
theorem dX11_commandCarriedOut_70 : decode cX11_commandCarriedOut 70 = .ok (.getfield 12, 3) := by decide +kernel
theorem dX11_commandCarriedOut_73 : decode cX11_commandCarriedOut 73 = .ok (.iload_n 2, 1) := by decide +kernel
theorem dX11_commandCarriedOut_74 : decode cX11_commandCarriedOut 74 = .ok (.iload_n 3, 1) := by decide +kernel
theorem dX11_commandCarriedOut_75 : decode cX11_commandCarriedOut 75 = .ok (.aload_n 0, 1) := by decide +kernel
theorem dX11_commandCarriedOut_76 : decode cX11_commandCarriedOut 76 = .ok (.getfield 29, 3) := by decide +kernel
theorem dX11_commandCarriedOut_79 : decode cX11_commandCarriedOut 79 = .ok (.invokevirtual 156, 3) := by decide +kernel
theorem dX11_commandCarriedOut_82 : decode cX11_commandCarriedOut 82 = .ok (.ireturn, 1) := by decide +kernel
theorem dX11_commandCarriedOut_83 : decode cX11_commandCarriedOut 83 = .ok (.aload_n 0, 1) := by decide +kernel
theorem dX11_commandCarriedOut_84 : decode cX11_commandCarriedOut 84 = .ok (.getfield 12, 3) := by decide +kernel
theorem dX11_commandCarriedOut_87 : decode cX11_commandCarriedOut 87 = .ok (.iload_n 2, 1) := by decide +kernel
theorem dX11_commandCarriedOut_88 : decode cX11_commandCarriedOut 88 = .ok (.aload_n 0, 1) := by decide +kernel
theorem dX11_commandCarriedOut_89 : decode cX11_commandCarriedOut 89 = .ok (.getfield 29, 3) := by decide +kernel
theorem dX11_commandCarriedOut_92 : decode cX11_commandCarriedOut 92 = .ok (.invokevirtual 153, 3) := by decide +kernel
theorem dX11_commandCarriedOut_95 : decode cX11_commandCarriedOut 95 = .ok (.ireturn, 1) := by decide +kernel
theorem dX11_commandCarriedOut_96 : decode cX11_commandCarriedOut 96 = .ok (.aload_n 0, 1) := by decide +kernel
theorem dX11_commandCarriedOut_97 : decode cX11_commandCarriedOut 97 = .ok (.getfield 12, 3) := by decide +kernel
theorem dX11_commandCarriedOut_100 : decode cX11_commandCarriedOut 100 = .ok (.iload_n 2, 1) := by decide +kernel
theorem dX11_commandCarriedOut_101 : decode cX11_commandCarriedOut 101 = .ok (.iload_n 3, 1) := by decide +kernel
theorem dX11_commandCarriedOut_102 : decode cX11_commandCarriedOut 102 = .ok (.aload_n 0, 1) := by decide +kernel
theorem dX11_commandCarriedOut_103 : decode cX11_commandCarriedOut 103 = .ok (.getfield 50, 3) := by decide +kernel
theorem dX11_commandCarriedOut_106 : decode cX11_commandCarriedOut 106 = .ok (.iload_n 1, 1) := by decide +kernel
theorem dX11_commandCarriedOut_107 : decode cX11_commandCarriedOut 107 = .ok (.iconst 2, 1) := by decide +kernel
theorem dX11_commandCarriedOut_108 : decode cX11_commandCarriedOut 108 = .ok (.invokevirtual 435, 3) := by decide +kernel
theorem dX11_commandCarriedOut_111 : decode cX11_commandCarriedOut 111 = .ok (.aload_n 0, 1) := by decide +kernel
theorem dX11_commandCarriedOut_112 : decode cX11_commandCarriedOut 112 = .ok (.getfield 29, 3) := by decide +kernel
theorem dX11_commandCarriedOut_115 : decode cX11_commandCarriedOut 115 = .ok (.invokevirtual 140, 3) := by decide +kernel
theorem dX11_commandCarriedOut_118 : decode cX11_commandCarriedOut 118 = .ok (.ireturn, 1) := by decide +kernel
theorem dX11_checkColours_0 : decode cX11_checkColours 0 = .ok (.iload_n 1, 1) := by decide +kernel
theorem dX11_checkColours_1 : decode cX11_checkColours 1 = .ok (.ifCond .lt 18, 3) := by decide +kernel
theorem dX11_checkColours_4 : decode cX11_checkColours 4 = .ok (.iload_n 1, 1) := by decide +kernel
theorem dX11_checkColours_5 : decode cX11_checkColours 5 = .ok (.aload_n 0, 1) := by decide +kernel
theorem dX11_checkColours_6 : decode cX11_checkColours 6 = .ok (.getfield 12, 3) := by decide +kernel
theorem dX11_checkColours_9 : decode cX11_checkColours 9 = .ok (.getfield 80, 3) := by decide +kernel
theorem dX11_checkColours_12 : decode cX11_checkColours 12 = .ok (.getfield 382, 3) := by decide +kernel
theorem dX11_checkColours_15 : decode cX11_checkColours 15 = .ok (.ishr, 1) := by decide +kernel
theorem dX11_checkColours_16 : decode cX11_checkColours 16 = .ok (.ifCond .eq 14, 3) := by decide +kernel
theorem dX11_checkColours_19 : decode cX11_checkColours 19 = .ok (.new 104, 3) := by decide +kernel
theorem dX11_checkColours_22 : decode cX11_checkColours 22 = .ok (.dup, 1) := by decide +kernel
theorem dX11_checkColours_23 : decode cX11_checkColours 23 = .ok (.ldc_w 441, 3) := by decide +kernel
theorem dX11_checkColours_26 : decode cX11_checkColours 26 = .ok (.invokespecial 108, 3) := by decide +kernel
theorem dX11_checkColours_29 : decode cX11_checkColours 29 = .ok (.athrow, 1) := by decide +kernel
theorem dX11_checkColours_30 : decode cX11_checkColours 30 = .ok (.return_, 1) := by decide +kernel
theorem dX11_checkOrder_0 : decode cX11_checkOrder 0 = .ok (.aload_n 0, 1) := by decide +kernel
theorem dX11_checkOrder_1 : decode cX11_checkOrder 1 = .ok (.getfield 12, 3) := by decide +kernel
theorem dX11_checkOrder_4 : decode cX11_checkOrder 4 = .ok (.getfield 164, 3) := by decide +kernel
theorem dX11_checkOrder_7 : decode cX11_checkOrder 7 = .ok (.iload_n 1, 1) := by decide +kernel
theorem dX11_checkOrder_8 : decode cX11_checkOrder 8 = .ok (.invokevirtual 443, 3) := by decide +kernel
theorem dX11_checkOrder_11 : decode cX11_checkOrder 11 = .ok (.ifCond .ne 14, 3) := by decide +kernel
theorem dX11_checkOrder_14 : decode cX11_checkOrder 14 = .ok (.new 180, 3) := by decide +kernel
theorem dX11_checkOrder_17 : decode cX11_checkOrder 17 = .ok (.dup, 1) := by decide +kernel
theorem dX11_checkOrder_18 : decode cX11_checkOrder 18 = .ok (.ldc_w 446, 3) := by decide +kernel
theorem dX11_checkOrder_21 : decode cX11_checkOrder 21 = .ok (.invokespecial 184, 3) := by decide +kernel
theorem dX11_checkOrder_24 : decode cX11_checkOrder 24 = .ok (.athrow, 1) := by decide +kernel
theorem dX11_checkOrder_25 : decode cX11_checkOrder 25 = .ok (.return_, 1) := by decide +kernel
theorem dX11_isWithin_0 : decode cX11_isWithin 0 = .ok (.iload_n 0, 1) := by decide +kernel
theorem dX11_isWithin_1 : decode cX11_isWithin 1 = .ok (.iload_n 1, 1) := by decide +kernel
theorem dX11_isWithin_2 : decode cX11_isWithin 2 = .ok (.if_icmp .lt 12, 3) := by decide +kernel
theorem dX11_isWithin_5 : decode cX11_isWithin 5 = .ok (.iload_n 0, 1) := by decide +kernel
theorem dX11_isWithin_6 : decode cX11_isWithin 6 = .ok (.iload_n 2, 1) := by decide +kernel
theorem dX11_isWithin_7 : decode cX11_isWithin 7 = .ok (.if_icmp .gt 7, 3) := by decide +kernel
theorem dX11_isWithin_10 : decode cX11_isWithin 10 = .ok (.iconst 1, 1) := by decide +kernel
theorem dX11_isWithin_11 : decode cX11_isWithin 11 = .ok (.goto 4, 3) := by decide +kernel
theorem dX11_isWithin_14 : decode cX11_isWithin 14 = .ok (.iconst 0, 1) := by decide +kernel
theorem dX11_isWithin_15 : decode cX11_isWithin 15 = .ok (.ireturn, 1) := by decide +kernel
theorem dX11_copyRow_0 : decode cX11_copyRow 0 = .ok (.aload_n 0, 1) := by decide +kernel
theorem dX11_copyRow_1 : decode cX11_copyRow 1 = .ok (.iconst 0, 1) := by decide +kernel
theorem dX11_copyRow_2 : decode cX11_copyRow 2 = .ok (.aload_n 1, 1) := by decide +kernel
theorem dX11_copyRow_3 : decode cX11_copyRow 3 = .ok (.iconst 0, 1) := by decide +kernel
theorem dX11_copyRow_4 : decode cX11_copyRow 4 = .ok (.aload_n 0, 1) := by decide +kernel
theorem dX11_copyRow_5 : decode cX11_copyRow 5 = .ok (.arraylength, 1) := by decide +kernel
theorem dX11_copyRow_6 : decode cX11_copyRow 6 = .ok (.aload_n 1, 1) := by decide +kernel
theorem dX11_copyRow_7 : decode cX11_copyRow 7 = .ok (.arraylength, 1) := by decide +kernel
theorem dX11_copyRow_8 : decode cX11_copyRow 8 = .ok (.invokestatic 448, 3) := by decide +kernel
theorem dX11_copyRow_11 : decode cX11_copyRow 11 = .ok (.invokestatic 453, 3) := by decide +kernel
theorem dX11_copyRow_14 : decode cX11_copyRow 14 = .ok (.return_, 1) := by decide +kernel
theorem dJ6_getChars_ba4f3_0 : decode cJ6_getChars_ba4f3 0 = .ok (.iload_n 1, 1) := by decide +kernel
theorem dJ6_getChars_ba4f3_1 : decode cJ6_getChars_ba4f3 1 = .ok (.istore 5, 2) := by decide +kernel
theorem dJ6_getChars_ba4f3_3 : decode cJ6_getChars_ba4f3 3 = .ok (.iload_n 0, 1) := by decide +kernel
theorem dJ6_getChars_ba4f3_4 : decode cJ6_getChars_ba4f3 4 = .ok (.ifCond .ge 7, 3) := by decide +kernel
theorem dJ6_getChars_ba4f3_7 : decode cJ6_getChars_ba4f3 7 = .ok (.iconst 1, 1) := by decide +kernel
theorem dJ6_getChars_ba4f3_8 : decode cJ6_getChars_ba4f3 8 = .ok (.goto 4, 3) := by decide +kernel
theorem dJ6_getChars_ba4f3_11 : decode cJ6_getChars_ba4f3 11 = .ok (.iconst 0, 1) := by decide +kernel
theorem dJ6_getChars_ba4f3_12 : decode cJ6_getChars_ba4f3 12 = .ok (.istore 6, 2) := by decide +kernel
theorem dJ6_getChars_ba4f3_14 : decode cJ6_getChars_ba4f3 14 = .ok (.iload 6, 2) := by decide +kernel
theorem dJ6_getChars_ba4f3_16 : decode cJ6_getChars_ba4f3 16 = .ok (.ifCond .ne 6, 3) := by decide +kernel
theorem dJ6_getChars_ba4f3_19 : decode cJ6_getChars_ba4f3 19 = .ok (.iload_n 0, 1) := by decide +kernel
theorem dJ6_getChars_ba4f3_20 : decode cJ6_getChars_ba4f3 20 = .ok (.ineg, 1) := by decide +kernel
theorem dJ6_getChars_ba4f3_21 : decode cJ6_getChars_ba4f3 21 = .ok (.istore_n 0, 1) := by decide +kernel
theorem dJ6_getChars_ba4f3_22 : decode cJ6_getChars_ba4f3 22 = .ok (.iload_n 0, 1) := by decide +kernel
theorem dJ6_getChars_ba4f3_23 : decode cJ6_getChars_ba4f3 23 = .ok (.bipush (-100), 2) := by decide +kernel
theorem dJ6_getChars_ba4f3_25 : decode cJ6_getChars_ba4f3 25 = .ok (.if_icmp .gt 47, 3) := by decide +kernel
theorem dJ6_getChars_ba4f3_28 : decode cJ6_getChars_ba4f3 28 = .ok (.iload_n 0, 1) := by decide +kernel
theorem dJ6_getChars_ba4f3_29 : decode cJ6_getChars_ba4f3 29 = .ok (.bipush 100, 2) := by decide +kernel
theorem dJ6_getChars_ba4f3_31 : decode cJ6_getChars_ba4f3 31 = .ok (.idiv, 1) := by decide +kernel
theorem dJ6_getChars_ba4f3_32 : decode cJ6_getChars_ba4f3 32 = .ok (.istore_n 3, 1) := by decide +kernel
theorem dJ6_getChars_ba4f3_33 : decode cJ6_getChars_ba4f3 33 = .ok (.iload_n 3, 1) := by decide +kernel
theorem dJ6_getChars_ba4f3_34 : decode cJ6_getChars_ba4f3 34 = .ok (.bipush 100, 2) := by decide +kernel
theorem dJ6_getChars_ba4f3_36 : decode cJ6_getChars_ba4f3 36 = .ok (.imul, 1) := by decide +kernel
theorem dJ6_getChars_ba4f3_37 : decode cJ6_getChars_ba4f3 37 = .ok (.iload_n 0, 1) := by decide +kernel
theorem dJ6_getChars_ba4f3_38 : decode cJ6_getChars_ba4f3 38 = .ok (.isub, 1) := by decide +kernel
theorem dJ6_getChars_ba4f3_39 : decode cJ6_getChars_ba4f3 39 = .ok (.istore 4, 2) := by decide +kernel
theorem dJ6_getChars_ba4f3_41 : decode cJ6_getChars_ba4f3 41 = .ok (.iload_n 3, 1) := by decide +kernel
theorem dJ6_getChars_ba4f3_42 : decode cJ6_getChars_ba4f3 42 = .ok (.istore_n 0, 1) := by decide +kernel
theorem dJ6_getChars_ba4f3_43 : decode cJ6_getChars_ba4f3 43 = .ok (.aload_n 2, 1) := by decide +kernel
theorem dJ6_getChars_ba4f3_44 : decode cJ6_getChars_ba4f3 44 = .ok (.iinc 5 (-1), 3) := by decide +kernel
theorem dJ6_getChars_ba4f3_47 : decode cJ6_getChars_ba4f3 47 = .ok (.iload 5, 2) := by decide +kernel
theorem dJ6_getChars_ba4f3_49 : decode cJ6_getChars_ba4f3 49 = .ok (.getstatic 83, 3) := by decide +kernel
theorem dJ6_getChars_ba4f3_52 : decode cJ6_getChars_ba4f3 52 = .ok (.iload 4, 2) := by decide +kernel
theorem dJ6_getChars_ba4f3_54 : decode cJ6_getChars_ba4f3 54 = .ok (.baload, 1) := by decide +kernel
theorem dJ6_getChars_ba4f3_55 : decode cJ6_getChars_ba4f3 55 = .ok (.bastore, 1) := by decide +kernel
theorem dJ6_getChars_ba4f3_56 : decode cJ6_getChars_ba4f3 56 = .ok (.aload_n 2, 1) := by decide +kernel
theorem dJ6_getChars_ba4f3_57 : decode cJ6_getChars_ba4f3 57 = .ok (.iinc 5 (-1), 3) := by decide +kernel
theorem dJ6_getChars_ba4f3_60 : decode cJ6_getChars_ba4f3 60 = .ok (.iload 5, 2) := by decide +kernel
theorem dJ6_getChars_ba4f3_62 : decode cJ6_getChars_ba4f3 62 = .ok (.getstatic 87, 3) := by decide +kernel
theorem dJ6_getChars_ba4f3_65 : decode cJ6_getChars_ba4f3 65 = .ok (.iload 4, 2) := by decide +kernel
theorem dJ6_getChars_ba4f3_67 : decode cJ6_getChars_ba4f3 67 = .ok (.baload, 1) := by decide +kernel
theorem dJ6_getChars_ba4f3_68 : decode cJ6_getChars_ba4f3 68 = .ok (.bastore, 1) := by decide +kernel
theorem dJ6_getChars_ba4f3_69 : decode cJ6_getChars_ba4f3 69 = .ok (.goto (-47), 3) := by decide +kernel
theorem dJ6_getChars_ba4f3_72 : decode cJ6_getChars_ba4f3 72 = .ok (.aload_n 2, 1) := by decide +kernel
theorem dJ6_getChars_ba4f3_73 : decode cJ6_getChars_ba4f3 73 = .ok (.iinc 5 (-1), 3) := by decide +kernel
theorem dJ6_getChars_ba4f3_76 : decode cJ6_getChars_ba4f3 76 = .ok (.iload 5, 2) := by decide +kernel
theorem dJ6_getChars_ba4f3_78 : decode cJ6_getChars_ba4f3 78 = .ok (.getstatic 83, 3) := by decide +kernel
theorem dJ6_getChars_ba4f3_81 : decode cJ6_getChars_ba4f3 81 = .ok (.iload_n 0, 1) := by decide +kernel
theorem dJ6_getChars_ba4f3_82 : decode cJ6_getChars_ba4f3 82 = .ok (.ineg, 1) := by decide +kernel
theorem dJ6_getChars_ba4f3_83 : decode cJ6_getChars_ba4f3 83 = .ok (.baload, 1) := by decide +kernel
theorem dJ6_getChars_ba4f3_84 : decode cJ6_getChars_ba4f3 84 = .ok (.bastore, 1) := by decide +kernel
theorem dJ6_getChars_ba4f3_85 : decode cJ6_getChars_ba4f3 85 = .ok (.iload_n 0, 1) := by decide +kernel
theorem dJ6_getChars_ba4f3_86 : decode cJ6_getChars_ba4f3 86 = .ok (.bipush (-9), 2) := by decide +kernel
theorem dJ6_getChars_ba4f3_88 : decode cJ6_getChars_ba4f3 88 = .ok (.if_icmp .ge 16, 3) := by decide +kernel
theorem dJ6_getChars_ba4f3_91 : decode cJ6_getChars_ba4f3 91 = .ok (.aload_n 2, 1) := by decide +kernel
theorem dJ6_getChars_ba4f3_92 : decode cJ6_getChars_ba4f3 92 = .ok (.iinc 5 (-1), 3) := by decide +kernel
theorem dJ6_getChars_ba4f3_95 : decode cJ6_getChars_ba4f3 95 = .ok (.iload 5, 2) := by decide +kernel
theorem dJ6_getChars_ba4f3_97 : decode cJ6_getChars_ba4f3 97 = .ok (.getstatic 87, 3) := by decide +kernel
theorem dJ6_getChars_ba4f3_100 : decode cJ6_getChars_ba4f3 100 = .ok (.iload_n 0, 1) := by decide +kernel
theorem dJ6_getChars_ba4f3_101 : decode cJ6_getChars_ba4f3 101 = .ok (.ineg, 1) := by decide +kernel
theorem dJ6_getChars_ba4f3_102 : decode cJ6_getChars_ba4f3 102 = .ok (.baload, 1) := by decide +kernel
theorem dJ6_getChars_ba4f3_103 : decode cJ6_getChars_ba4f3 103 = .ok (.bastore, 1) := by decide +kernel
theorem dJ6_getChars_ba4f3_104 : decode cJ6_getChars_ba4f3 104 = .ok (.iload 6, 2) := by decide +kernel
theorem dJ6_getChars_ba4f3_106 : decode cJ6_getChars_ba4f3 106 = .ok (.ifCond .eq 12, 3) := by decide +kernel
theorem dJ6_getChars_ba4f3_109 : decode cJ6_getChars_ba4f3 109 = .ok (.aload_n 2, 1) := by decide +kernel
theorem dJ6_getChars_ba4f3_110 : decode cJ6_getChars_ba4f3 110 = .ok (.iinc 5 (-1), 3) := by decide +kernel
theorem dJ6_getChars_ba4f3_113 : decode cJ6_getChars_ba4f3 113 = .ok (.iload 5, 2) := by decide +kernel
theorem dJ6_getChars_ba4f3_115 : decode cJ6_getChars_ba4f3 115 = .ok (.bipush 45, 2) := by decide +kernel
theorem dJ6_getChars_ba4f3_117 : decode cJ6_getChars_ba4f3 117 = .ok (.bastore, 1) := by decide +kernel
theorem dJ6_getChars_ba4f3_118 : decode cJ6_getChars_ba4f3 118 = .ok (.iload 5, 2) := by decide +kernel
theorem dJ6_getChars_ba4f3_120 : decode cJ6_getChars_ba4f3 120 = .ok (.ireturn, 1) := by decide +kernel
theorem dJ6_stringSize_0f7a4_0 : decode cJ6_stringSize_0f7a4 0 = .ok (.iconst 1, 1) := by decide +kernel
theorem dJ6_stringSize_0f7a4_1 : decode cJ6_stringSize_0f7a4 1 = .ok (.istore_n 1, 1) := by decide +kernel
theorem dJ6_stringSize_0f7a4_2 : decode cJ6_stringSize_0f7a4 2 = .ok (.iload_n 0, 1) := by decide +kernel
theorem dJ6_stringSize_0f7a4_3 : decode cJ6_stringSize_0f7a4 3 = .ok (.ifCond .lt 8, 3) := by decide +kernel
theorem dJ6_stringSize_0f7a4_6 : decode cJ6_stringSize_0f7a4 6 = .ok (.iconst 0, 1) := by decide +kernel
theorem dJ6_stringSize_0f7a4_7 : decode cJ6_stringSize_0f7a4 7 = .ok (.istore_n 1, 1) := by decide +kernel
theorem dJ6_stringSize_0f7a4_8 : decode cJ6_stringSize_0f7a4 8 = .ok (.iload_n 0, 1) := by decide +kernel
theorem dJ6_stringSize_0f7a4_9 : decode cJ6_stringSize_0f7a4 9 = .ok (.ineg, 1) := by decide +kernel
theorem dJ6_stringSize_0f7a4_10 : decode cJ6_stringSize_0f7a4 10 = .ok (.istore_n 0, 1) := by decide +kernel
theorem dJ6_stringSize_0f7a4_11 : decode cJ6_stringSize_0f7a4 11 = .ok (.bipush (-10), 2) := by decide +kernel
theorem dJ6_stringSize_0f7a4_13 : decode cJ6_stringSize_0f7a4 13 = .ok (.istore_n 2, 1) := by decide +kernel
theorem dJ6_stringSize_0f7a4_14 : decode cJ6_stringSize_0f7a4 14 = .ok (.iconst 1, 1) := by decide +kernel
theorem dJ6_stringSize_0f7a4_15 : decode cJ6_stringSize_0f7a4 15 = .ok (.istore_n 3, 1) := by decide +kernel
theorem dJ6_stringSize_0f7a4_16 : decode cJ6_stringSize_0f7a4 16 = .ok (.iload_n 3, 1) := by decide +kernel
theorem dJ6_stringSize_0f7a4_17 : decode cJ6_stringSize_0f7a4 17 = .ok (.bipush 10, 2) := by decide +kernel
theorem dJ6_stringSize_0f7a4_19 : decode cJ6_stringSize_0f7a4 19 = .ok (.if_icmp .ge 23, 3) := by decide +kernel
theorem dJ6_stringSize_0f7a4_22 : decode cJ6_stringSize_0f7a4 22 = .ok (.iload_n 0, 1) := by decide +kernel
theorem dJ6_stringSize_0f7a4_23 : decode cJ6_stringSize_0f7a4 23 = .ok (.iload_n 2, 1) := by decide +kernel
theorem dJ6_stringSize_0f7a4_24 : decode cJ6_stringSize_0f7a4 24 = .ok (.if_icmp .le 7, 3) := by decide +kernel
theorem dJ6_stringSize_0f7a4_27 : decode cJ6_stringSize_0f7a4 27 = .ok (.iload_n 3, 1) := by decide +kernel
theorem dJ6_stringSize_0f7a4_28 : decode cJ6_stringSize_0f7a4 28 = .ok (.iload_n 1, 1) := by decide +kernel
theorem dJ6_stringSize_0f7a4_29 : decode cJ6_stringSize_0f7a4 29 = .ok (.iadd, 1) := by decide +kernel
theorem dJ6_stringSize_0f7a4_30 : decode cJ6_stringSize_0f7a4 30 = .ok (.ireturn, 1) := by decide +kernel
theorem dJ6_stringSize_0f7a4_31 : decode cJ6_stringSize_0f7a4 31 = .ok (.bipush 10, 2) := by decide +kernel
theorem dJ6_stringSize_0f7a4_33 : decode cJ6_stringSize_0f7a4 33 = .ok (.iload_n 2, 1) := by decide +kernel
theorem dJ6_stringSize_0f7a4_34 : decode cJ6_stringSize_0f7a4 34 = .ok (.imul, 1) := by decide +kernel
theorem dJ6_stringSize_0f7a4_35 : decode cJ6_stringSize_0f7a4 35 = .ok (.istore_n 2, 1) := by decide +kernel
theorem dJ6_stringSize_0f7a4_36 : decode cJ6_stringSize_0f7a4 36 = .ok (.iinc 3 1, 3) := by decide +kernel
theorem dJ6_stringSize_0f7a4_39 : decode cJ6_stringSize_0f7a4 39 = .ok (.goto (-23), 3) := by decide +kernel
theorem dJ6_stringSize_0f7a4_42 : decode cJ6_stringSize_0f7a4 42 = .ok (.bipush 10, 2) := by decide +kernel
theorem dJ6_stringSize_0f7a4_44 : decode cJ6_stringSize_0f7a4 44 = .ok (.iload_n 1, 1) := by decide +kernel
theorem dJ6_stringSize_0f7a4_45 : decode cJ6_stringSize_0f7a4 45 = .ok (.iadd, 1) := by decide +kernel
theorem dJ6_stringSize_0f7a4_46 : decode cJ6_stringSize_0f7a4 46 = .ok (.ireturn, 1) := by decide +kernel
theorem dJ6_bitCount_0f7a4_0 : decode cJ6_bitCount_0f7a4 0 = .ok (.iload_n 0, 1) := by decide +kernel
theorem dJ6_bitCount_0f7a4_1 : decode cJ6_bitCount_0f7a4 1 = .ok (.iload_n 0, 1) := by decide +kernel
theorem dJ6_bitCount_0f7a4_2 : decode cJ6_bitCount_0f7a4 2 = .ok (.iconst 1, 1) := by decide +kernel
theorem dJ6_bitCount_0f7a4_3 : decode cJ6_bitCount_0f7a4 3 = .ok (.iushr, 1) := by decide +kernel
theorem dJ6_bitCount_0f7a4_4 : decode cJ6_bitCount_0f7a4 4 = .ok (.ldc_w 265, 3) := by decide +kernel
theorem dJ6_bitCount_0f7a4_7 : decode cJ6_bitCount_0f7a4 7 = .ok (.iand, 1) := by decide +kernel
theorem dJ6_bitCount_0f7a4_8 : decode cJ6_bitCount_0f7a4 8 = .ok (.isub, 1) := by decide +kernel
theorem dJ6_bitCount_0f7a4_9 : decode cJ6_bitCount_0f7a4 9 = .ok (.istore_n 0, 1) := by decide +kernel
theorem dJ6_bitCount_0f7a4_10 : decode cJ6_bitCount_0f7a4 10 = .ok (.iload_n 0, 1) := by decide +kernel
theorem dJ6_bitCount_0f7a4_11 : decode cJ6_bitCount_0f7a4 11 = .ok (.ldc_w 266, 3) := by decide +kernel
theorem dJ6_bitCount_0f7a4_14 : decode cJ6_bitCount_0f7a4 14 = .ok (.iand, 1) := by decide +kernel
theorem dJ6_bitCount_0f7a4_15 : decode cJ6_bitCount_0f7a4 15 = .ok (.iload_n 0, 1) := by decide +kernel
theorem dJ6_bitCount_0f7a4_16 : decode cJ6_bitCount_0f7a4 16 = .ok (.iconst 2, 1) := by decide +kernel
theorem dJ6_bitCount_0f7a4_17 : decode cJ6_bitCount_0f7a4 17 = .ok (.iushr, 1) := by decide +kernel
theorem dJ6_bitCount_0f7a4_18 : decode cJ6_bitCount_0f7a4 18 = .ok (.ldc_w 266, 3) := by decide +kernel
theorem dJ6_bitCount_0f7a4_21 : decode cJ6_bitCount_0f7a4 21 = .ok (.iand, 1) := by decide +kernel
theorem dJ6_bitCount_0f7a4_22 : decode cJ6_bitCount_0f7a4 22 = .ok (.iadd, 1) := by decide +kernel
theorem dJ6_bitCount_0f7a4_23 : decode cJ6_bitCount_0f7a4 23 = .ok (.istore_n 0, 1) := by decide +kernel
theorem dJ6_bitCount_0f7a4_24 : decode cJ6_bitCount_0f7a4 24 = .ok (.iload_n 0, 1) := by decide +kernel
theorem dJ6_bitCount_0f7a4_25 : decode cJ6_bitCount_0f7a4 25 = .ok (.iload_n 0, 1) := by decide +kernel
theorem dJ6_bitCount_0f7a4_26 : decode cJ6_bitCount_0f7a4 26 = .ok (.iconst 4, 1) := by decide +kernel
theorem dJ6_bitCount_0f7a4_27 : decode cJ6_bitCount_0f7a4 27 = .ok (.iushr, 1) := by decide +kernel
theorem dJ6_bitCount_0f7a4_28 : decode cJ6_bitCount_0f7a4 28 = .ok (.iadd, 1) := by decide +kernel
theorem dJ6_bitCount_0f7a4_29 : decode cJ6_bitCount_0f7a4 29 = .ok (.ldc_w 267, 3) := by decide +kernel
theorem dJ6_bitCount_0f7a4_32 : decode cJ6_bitCount_0f7a4 32 = .ok (.iand, 1) := by decide +kernel
theorem dJ6_bitCount_0f7a4_33 : decode cJ6_bitCount_0f7a4 33 = .ok (.istore_n 0, 1) := by decide +kernel
theorem dJ6_bitCount_0f7a4_34 : decode cJ6_bitCount_0f7a4 34 = .ok (.iload_n 0, 1) := by decide +kernel
theorem dJ6_bitCount_0f7a4_35 : decode cJ6_bitCount_0f7a4 35 = .ok (.iload_n 0, 1) := by decide +kernel
theorem dJ6_bitCount_0f7a4_36 : decode cJ6_bitCount_0f7a4 36 = .ok (.bipush 8, 2) := by decide +kernel
theorem dJ6_bitCount_0f7a4_38 : decode cJ6_bitCount_0f7a4 38 = .ok (.iushr, 1) := by decide +kernel
theorem dJ6_bitCount_0f7a4_39 : decode cJ6_bitCount_0f7a4 39 = .ok (.iadd, 1) := by decide +kernel
theorem dJ6_bitCount_0f7a4_40 : decode cJ6_bitCount_0f7a4 40 = .ok (.istore_n 0, 1) := by decide +kernel
theorem dJ6_bitCount_0f7a4_41 : decode cJ6_bitCount_0f7a4 41 = .ok (.iload_n 0, 1) := by decide +kernel
theorem dJ6_bitCount_0f7a4_42 : decode cJ6_bitCount_0f7a4 42 = .ok (.iload_n 0, 1) := by decide +kernel
theorem dJ6_bitCount_0f7a4_43 : decode cJ6_bitCount_0f7a4 43 = .ok (.bipush 16, 2) := by decide +kernel
theorem dJ6_bitCount_0f7a4_45 : decode cJ6_bitCount_0f7a4 45 = .ok (.iushr, 1) := by decide +kernel
theorem dJ6_bitCount_0f7a4_46 : decode cJ6_bitCount_0f7a4 46 = .ok (.iadd, 1) := by decide +kernel
theorem dJ6_bitCount_0f7a4_47 : decode cJ6_bitCount_0f7a4 47 = .ok (.istore_n 0, 1) := by decide +kernel
theorem dJ6_bitCount_0f7a4_48 : decode cJ6_bitCount_0f7a4 48 = .ok (.iload_n 0, 1) := by decide +kernel
theorem dJ6_bitCount_0f7a4_49 : decode cJ6_bitCount_0f7a4 49 = .ok (.bipush 63, 2) := by decide +kernel
theorem dJ6_bitCount_0f7a4_51 : decode cJ6_bitCount_0f7a4 51 = .ok (.iand, 1) := by decide +kernel
theorem dJ6_bitCount_0f7a4_52 : decode cJ6_bitCount_0f7a4 52 = .ok (.ireturn, 1) := by decide +kernel
theorem dJ9_max_7cf53_0 : decode cJ9_max_7cf53 0 = .ok (.iload_n 0, 1) := by decide +kernel
theorem dJ9_max_7cf53_1 : decode cJ9_max_7cf53 1 = .ok (.iload_n 1, 1) := by decide +kernel
theorem dJ9_max_7cf53_2 : decode cJ9_max_7cf53 2 = .ok (.if_icmp .lt 7, 3) := by decide +kernel
theorem dJ9_max_7cf53_5 : decode cJ9_max_7cf53 5 = .ok (.iload_n 0, 1) := by decide +kernel
theorem dJ9_max_7cf53_6 : decode cJ9_max_7cf53 6 = .ok (.goto 4, 3) := by decide +kernel
theorem dJ9_max_7cf53_9 : decode cJ9_max_7cf53 9 = .ok (.iload_n 1, 1) := by decide +kernel
theorem dJ9_max_7cf53_10 : decode cJ9_max_7cf53 10 = .ok (.ireturn, 1) := by decide +kernel
theorem dJ9_min_7cf53_0 : decode cJ9_min_7cf53 0 = .ok (.iload_n 0, 1) := by decide +kernel
theorem dJ9_min_7cf53_1 : decode cJ9_min_7cf53 1 = .ok (.iload_n 1, 1) := by decide +kernel
theorem dJ9_min_7cf53_2 : decode cJ9_min_7cf53 2 = .ok (.if_icmp .gt 7, 3) := by decide +kernel
theorem dJ9_min_7cf53_5 : decode cJ9_min_7cf53 5 = .ok (.iload_n 0, 1) := by decide +kernel
theorem dJ9_min_7cf53_6 : decode cJ9_min_7cf53 6 = .ok (.goto 4, 3) := by decide +kernel
theorem dJ9_min_7cf53_9 : decode cJ9_min_7cf53 9 = .ok (.iload_n 1, 1) := by decide +kernel
theorem dJ9_min_7cf53_10 : decode cJ9_min_7cf53 10 = .ok (.ireturn, 1) := by decide +kernel
