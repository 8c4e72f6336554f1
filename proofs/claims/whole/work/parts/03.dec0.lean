-- out of the printed names: what stands at each place of the code
theorem dX0_init_0 : decode cX0_init 0 = .ok (.aload_n 0, 1) := by decide +kernel
theorem dX0_init_1 : decode cX0_init 1 = .ok (.invokespecial 3, 3) := by decide +kernel
theorem dX0_init_4 : decode cX0_init 4 = .ok (.aload_n 0, 1) := by decide +kernel
theorem dX0_init_5 : decode cX0_init 5 = .ok (.bipush 8, 2) := by decide +kernel
theorem dX0_init_7 : decode cX0_init 7 = .ok (.anewarray 9, 3) := by decide +kernel
theorem dX0_init_10 : decode cX0_init 10 = .ok (.putfield 11, 3) := by decide +kernel
theorem dX0_init_13 : decode cX0_init 13 = .ok (.aload_n 0, 1) := by decide +kernel
theorem dX0_init_14 : decode cX0_init 14 = .ok (.iconst 2, 1) := by decide +kernel
theorem dX0_init_15 : decode cX0_init 15 = .ok (.anewarray 9, 3) := by decide +kernel
theorem dX0_init_18 : decode cX0_init 18 = .ok (.putfield 17, 3) := by decide +kernel
theorem dX0_init_21 : decode cX0_init 21 = .ok (.iconst 0, 1) := by decide +kernel
theorem dX0_init_22 : decode cX0_init 22 = .ok (.istore_n 2, 1) := by decide +kernel
theorem dX0_init_23 : decode cX0_init 23 = .ok (.iload_n 2, 1) := by decide +kernel
theorem dX0_init_24 : decode cX0_init 24 = .ok (.bipush 8, 2) := by decide +kernel
theorem dX0_init_26 : decode cX0_init 26 = .ok (.if_icmp .ge 23, 3) := by decide +kernel
theorem dX0_init_29 : decode cX0_init 29 = .ok (.aload_n 0, 1) := by decide +kernel
theorem dX0_init_30 : decode cX0_init 30 = .ok (.getfield 11, 3) := by decide +kernel
theorem dX0_init_33 : decode cX0_init 33 = .ok (.iload_n 2, 1) := by decide +kernel
theorem dX0_init_34 : decode cX0_init 34 = .ok (.new 9, 3) := by decide +kernel
theorem dX0_init_37 : decode cX0_init 37 = .ok (.dup, 1) := by decide +kernel
theorem dX0_init_38 : decode cX0_init 38 = .ok (.aload_n 1, 1) := by decide +kernel
theorem dX0_init_39 : decode cX0_init 39 = .ok (.invokespecial 20, 3) := by decide +kernel
theorem dX0_init_42 : decode cX0_init 42 = .ok (.aastore, 1) := by decide +kernel
theorem dX0_init_43 : decode cX0_init 43 = .ok (.iinc 2 1, 3) := by decide +kernel
theorem dX0_init_46 : decode cX0_init 46 = .ok (.goto (-23), 3) := by decide +kernel
theorem dX0_init_49 : decode cX0_init 49 = .ok (.iconst 0, 1) := by decide +kernel
theorem dX0_init_50 : decode cX0_init 50 = .ok (.istore_n 2, 1) := by decide +kernel
theorem dX0_init_51 : decode cX0_init 51 = .ok (.iload_n 2, 1) := by decide +kernel
theorem dX0_init_52 : decode cX0_init 52 = .ok (.iconst 2, 1) := by decide +kernel
theorem dX0_init_53 : decode cX0_init 53 = .ok (.if_icmp .ge 23, 3) := by decide +kernel
theorem dX0_init_56 : decode cX0_init 56 = .ok (.aload_n 0, 1) := by decide +kernel
theorem dX0_init_57 : decode cX0_init 57 = .ok (.getfield 17, 3) := by decide +kernel
theorem dX0_init_60 : decode cX0_init 60 = .ok (.iload_n 2, 1) := by decide +kernel
theorem dX0_init_61 : decode cX0_init 61 = .ok (.new 9, 3) := by decide +kernel
theorem dX0_init_64 : decode cX0_init 64 = .ok (.dup, 1) := by decide +kernel
theorem dX0_init_65 : decode cX0_init 65 = .ok (.aload_n 1, 1) := by decide +kernel
theorem dX0_init_66 : decode cX0_init 66 = .ok (.invokespecial 20, 3) := by decide +kernel
theorem dX0_init_69 : decode cX0_init 69 = .ok (.aastore, 1) := by decide +kernel
theorem dX0_init_70 : decode cX0_init 70 = .ok (.iinc 2 1, 3) := by decide +kernel
theorem dX0_init_73 : decode cX0_init 73 = .ok (.goto (-22), 3) := by decide +kernel
theorem dX0_init_76 : decode cX0_init 76 = .ok (.return_, 1) := by decide +kernel
theorem dX0_keep_0 : decode cX0_keep 0 = .ok (.aload_n 1, 1) := by decide +kernel
theorem dX0_keep_1 : decode cX0_keep 1 = .ok (.aload_n 0, 1) := by decide +kernel
theorem dX0_keep_2 : decode cX0_keep 2 = .ok (.getfield 11, 3) := by decide +kernel
theorem dX0_keep_5 : decode cX0_keep 5 = .ok (.aload_n 0, 1) := by decide +kernel
theorem dX0_keep_6 : decode cX0_keep 6 = .ok (.getfield 23, 3) := by decide +kernel
theorem dX0_keep_9 : decode cX0_keep 9 = .ok (.aload_n 0, 1) := by decide +kernel
theorem dX0_keep_10 : decode cX0_keep 10 = .ok (.getfield 27, 3) := by decide +kernel
theorem dX0_keep_13 : decode cX0_keep 13 = .ok (.iadd, 1) := by decide +kernel
theorem dX0_keep_14 : decode cX0_keep 14 = .ok (.bipush 7, 2) := by decide +kernel
theorem dX0_keep_16 : decode cX0_keep 16 = .ok (.iand, 1) := by decide +kernel
theorem dX0_keep_17 : decode cX0_keep 17 = .ok (.aaload, 1) := by decide +kernel
theorem dX0_keep_18 : decode cX0_keep 18 = .ok (.invokestatic 30, 3) := by decide +kernel
theorem dX0_keep_21 : decode cX0_keep 21 = .ok (.aload_n 0, 1) := by decide +kernel
theorem dX0_keep_22 : decode cX0_keep 22 = .ok (.getfield 27, 3) := by decide +kernel
theorem dX0_keep_25 : decode cX0_keep 25 = .ok (.bipush 8, 2) := by decide +kernel
theorem dX0_keep_27 : decode cX0_keep 27 = .ok (.if_icmp .ge 16, 3) := by decide +kernel
theorem dX0_keep_30 : decode cX0_keep 30 = .ok (.aload_n 0, 1) := by decide +kernel
theorem dX0_keep_31 : decode cX0_keep 31 = .ok (.dup, 1) := by decide +kernel
theorem dX0_keep_32 : decode cX0_keep 32 = .ok (.getfield 27, 3) := by decide +kernel
theorem dX0_keep_35 : decode cX0_keep 35 = .ok (.iconst 1, 1) := by decide +kernel
theorem dX0_keep_36 : decode cX0_keep 36 = .ok (.iadd, 1) := by decide +kernel
theorem dX0_keep_37 : decode cX0_keep 37 = .ok (.putfield 27, 3) := by decide +kernel
theorem dX0_keep_40 : decode cX0_keep 40 = .ok (.goto 16, 3) := by decide +kernel
theorem dX0_keep_43 : decode cX0_keep 43 = .ok (.aload_n 0, 1) := by decide +kernel
theorem dX0_keep_44 : decode cX0_keep 44 = .ok (.aload_n 0, 1) := by decide +kernel
theorem dX0_keep_45 : decode cX0_keep 45 = .ok (.getfield 23, 3) := by decide +kernel
theorem dX0_keep_48 : decode cX0_keep 48 = .ok (.iconst 1, 1) := by decide +kernel
theorem dX0_keep_49 : decode cX0_keep 49 = .ok (.iadd, 1) := by decide +kernel
theorem dX0_keep_50 : decode cX0_keep 50 = .ok (.bipush 7, 2) := by decide +kernel
theorem dX0_keep_52 : decode cX0_keep 52 = .ok (.iand, 1) := by decide +kernel
theorem dX0_keep_53 : decode cX0_keep 53 = .ok (.putfield 23, 3) := by decide +kernel
theorem dX0_keep_56 : decode cX0_keep 56 = .ok (.return_, 1) := by decide +kernel
theorem dX0_takeBack_0 : decode cX0_takeBack 0 = .ok (.aload_n 0, 1) := by decide +kernel
theorem dX0_takeBack_1 : decode cX0_takeBack 1 = .ok (.getfield 27, 3) := by decide +kernel
theorem dX0_takeBack_4 : decode cX0_takeBack 4 = .ok (.ifCond .le 34, 3) := by decide +kernel
theorem dX0_takeBack_7 : decode cX0_takeBack 7 = .ok (.aload_n 0, 1) := by decide +kernel
theorem dX0_takeBack_8 : decode cX0_takeBack 8 = .ok (.dup, 1) := by decide +kernel
theorem dX0_takeBack_9 : decode cX0_takeBack 9 = .ok (.getfield 27, 3) := by decide +kernel
theorem dX0_takeBack_12 : decode cX0_takeBack 12 = .ok (.iconst 1, 1) := by decide +kernel
theorem dX0_takeBack_13 : decode cX0_takeBack 13 = .ok (.isub, 1) := by decide +kernel
theorem dX0_takeBack_14 : decode cX0_takeBack 14 = .ok (.putfield 27, 3) := by decide +kernel
theorem dX0_takeBack_17 : decode cX0_takeBack 17 = .ok (.aload_n 0, 1) := by decide +kernel
theorem dX0_takeBack_18 : decode cX0_takeBack 18 = .ok (.getfield 11, 3) := by decide +kernel
theorem dX0_takeBack_21 : decode cX0_takeBack 21 = .ok (.aload_n 0, 1) := by decide +kernel
theorem dX0_takeBack_22 : decode cX0_takeBack 22 = .ok (.getfield 23, 3) := by decide +kernel
theorem dX0_takeBack_25 : decode cX0_takeBack 25 = .ok (.aload_n 0, 1) := by decide +kernel
theorem dX0_takeBack_26 : decode cX0_takeBack 26 = .ok (.getfield 27, 3) := by decide +kernel
theorem dX0_takeBack_29 : decode cX0_takeBack 29 = .ok (.iadd, 1) := by decide +kernel
theorem dX0_takeBack_30 : decode cX0_takeBack 30 = .ok (.bipush 7, 2) := by decide +kernel
theorem dX0_takeBack_32 : decode cX0_takeBack 32 = .ok (.iand, 1) := by decide +kernel
theorem dX0_takeBack_33 : decode cX0_takeBack 33 = .ok (.aaload, 1) := by decide +kernel
theorem dX0_takeBack_34 : decode cX0_takeBack 34 = .ok (.aload_n 1, 1) := by decide +kernel
theorem dX0_takeBack_35 : decode cX0_takeBack 35 = .ok (.invokestatic 30, 3) := by decide +kernel
theorem dX0_takeBack_38 : decode cX0_takeBack 38 = .ok (.return_, 1) := by decide +kernel
theorem dX0_dropChanges_0 : decode cX0_dropChanges 0 = .ok (.aload_n 0, 1) := by decide +kernel
theorem dX0_dropChanges_1 : decode cX0_dropChanges 1 = .ok (.iconst 0, 1) := by decide +kernel
theorem dX0_dropChanges_2 : decode cX0_dropChanges 2 = .ok (.putfield 27, 3) := by decide +kernel
theorem dX0_dropChanges_5 : decode cX0_dropChanges 5 = .ok (.return_, 1) := by decide +kernel
theorem dX0_isSaved_0 : decode cX0_isSaved 0 = .ok (.aload_n 0, 1) := by decide +kernel
theorem dX0_isSaved_1 : decode cX0_isSaved 1 = .ok (.getfield 34, 3) := by decide +kernel
theorem dX0_isSaved_4 : decode cX0_isSaved 4 = .ok (.iload_n 1, 1) := by decide +kernel
theorem dX0_isSaved_5 : decode cX0_isSaved 5 = .ok (.invokestatic 37, 3) := by decide +kernel
theorem dX0_isSaved_8 : decode cX0_isSaved 8 = .ok (.ireturn, 1) := by decide +kernel
theorem dX0_putIn_0 : decode cX0_putIn 0 = .ok (.aload_n 2, 1) := by decide +kernel
theorem dX0_putIn_1 : decode cX0_putIn 1 = .ok (.aload_n 0, 1) := by decide +kernel
theorem dX0_putIn_2 : decode cX0_putIn 2 = .ok (.getfield 17, 3) := by decide +kernel
theorem dX0_putIn_5 : decode cX0_putIn 5 = .ok (.iload_n 1, 1) := by decide +kernel
theorem dX0_putIn_6 : decode cX0_putIn 6 = .ok (.aaload, 1) := by decide +kernel
theorem dX0_putIn_7 : decode cX0_putIn 7 = .ok (.invokestatic 30, 3) := by decide +kernel
theorem dX0_putIn_10 : decode cX0_putIn 10 = .ok (.aload_n 0, 1) := by decide +kernel
theorem dX0_putIn_11 : decode cX0_putIn 11 = .ok (.dup, 1) := by decide +kernel
theorem dX0_putIn_12 : decode cX0_putIn 12 = .ok (.getfield 34, 3) := by decide +kernel
theorem dX0_putIn_15 : decode cX0_putIn 15 = .ok (.iconst 1, 1) := by decide +kernel
theorem dX0_putIn_16 : decode cX0_putIn 16 = .ok (.iload_n 1, 1) := by decide +kernel
theorem dX0_putIn_17 : decode cX0_putIn 17 = .ok (.ishl, 1) := by decide +kernel
theorem dX0_putIn_18 : decode cX0_putIn 18 = .ok (.ior, 1) := by decide +kernel
theorem dX0_putIn_19 : decode cX0_putIn 19 = .ok (.putfield 34, 3) := by decide +kernel
theorem dX0_putIn_22 : decode cX0_putIn 22 = .ok (.return_, 1) := by decide +kernel
theorem dX0_takeFrom_0 : decode cX0_takeFrom 0 = .ok (.aload_n 0, 1) := by decide +kernel
theorem dX0_takeFrom_1 : decode cX0_takeFrom 1 = .ok (.getfield 17, 3) := by decide +kernel
theorem dX0_takeFrom_4 : decode cX0_takeFrom 4 = .ok (.iload_n 1, 1) := by decide +kernel
theorem dX0_takeFrom_5 : decode cX0_takeFrom 5 = .ok (.aaload, 1) := by decide +kernel
theorem dX0_takeFrom_6 : decode cX0_takeFrom 6 = .ok (.aload_n 2, 1) := by decide +kernel
theorem dX0_takeFrom_7 : decode cX0_takeFrom 7 = .ok (.invokestatic 30, 3) := by decide +kernel
theorem dX0_takeFrom_10 : decode cX0_takeFrom 10 = .ok (.return_, 1) := by decide +kernel
theorem dX0_dropSaved_0 : decode cX0_dropSaved 0 = .ok (.aload_n 0, 1) := by decide +kernel
theorem dX0_dropSaved_1 : decode cX0_dropSaved 1 = .ok (.iconst 0, 1) := by decide +kernel
theorem dX0_dropSaved_2 : decode cX0_dropSaved 2 = .ok (.putfield 34, 3) := by decide +kernel
theorem dX0_dropSaved_5 : decode cX0_dropSaved 5 = .ok (.return_, 1) := by decide +kernel
theorem dX1_init_0 : decode cX1_init 0 = .ok (.aload_n 0, 1) := by decide +kernel
theorem dX1_init_1 : decode cX1_init 1 = .ok (.invokespecial 3, 3) := by decide +kernel
theorem dX1_init_4 : decode cX1_init 4 = .ok (.aload_n 0, 1) := by decide +kernel
theorem dX1_init_5 : decode cX1_init 5 = .ok (.bipush 12, 2) := by decide +kernel
theorem dX1_init_7 : decode cX1_init 7 = .ok (.newarray .int, 2) := by decide +kernel
theorem dX1_init_9 : decode cX1_init 9 = .ok (.putfield 9, 3) := by decide +kernel
theorem dX1_init_12 : decode cX1_init 12 = .ok (.aload_n 0, 1) := by decide +kernel
theorem dX1_init_13 : decode cX1_init 13 = .ok (.bipush 12, 2) := by decide +kernel
theorem dX1_init_15 : decode cX1_init 15 = .ok (.newarray .int, 2) := by decide +kernel
theorem dX1_init_17 : decode cX1_init 17 = .ok (.putfield 15, 3) := by decide +kernel
theorem dX1_init_20 : decode cX1_init 20 = .ok (.return_, 1) := by decide +kernel
theorem dX1_clear_0 : decode cX1_clear 0 = .ok (.aload_n 0, 1) := by decide +kernel
theorem dX1_clear_1 : decode cX1_clear 1 = .ok (.getfield 15, 3) := by decide +kernel
theorem dX1_clear_4 : decode cX1_clear 4 = .ok (.iconst (-1), 1) := by decide +kernel
theorem dX1_clear_5 : decode cX1_clear 5 = .ok (.invokestatic 18, 3) := by decide +kernel
theorem dX1_clear_8 : decode cX1_clear 8 = .ok (.aload_n 0, 1) := by decide +kernel
theorem dX1_clear_9 : decode cX1_clear 9 = .ok (.iconst 0, 1) := by decide +kernel
theorem dX1_clear_10 : decode cX1_clear 10 = .ok (.putfield 24, 3) := by decide +kernel
theorem dX1_clear_13 : decode cX1_clear 13 = .ok (.return_, 1) := by decide +kernel
theorem dX1_copyFrom_0 : decode cX1_copyFrom 0 = .ok (.aload_n 1, 1) := by decide +kernel
theorem dX1_copyFrom_1 : decode cX1_copyFrom 1 = .ok (.getfield 9, 3) := by decide +kernel
theorem dX1_copyFrom_4 : decode cX1_copyFrom 4 = .ok (.aload_n 0, 1) := by decide +kernel
theorem dX1_copyFrom_5 : decode cX1_copyFrom 5 = .ok (.getfield 9, 3) := by decide +kernel
theorem dX1_copyFrom_8 : decode cX1_copyFrom 8 = .ok (.invokestatic 28, 3) := by decide +kernel
theorem dX1_copyFrom_11 : decode cX1_copyFrom 11 = .ok (.aload_n 1, 1) := by decide +kernel
theorem dX1_copyFrom_12 : decode cX1_copyFrom 12 = .ok (.getfield 15, 3) := by decide +kernel
theorem dX1_copyFrom_15 : decode cX1_copyFrom 15 = .ok (.aload_n 0, 1) := by decide +kernel
theorem dX1_copyFrom_16 : decode cX1_copyFrom 16 = .ok (.getfield 15, 3) := by decide +kernel
theorem dX1_copyFrom_19 : decode cX1_copyFrom 19 = .ok (.invokestatic 28, 3) := by decide +kernel
theorem dX1_copyFrom_22 : decode cX1_copyFrom 22 = .ok (.aload_n 0, 1) := by decide +kernel
theorem dX1_copyFrom_23 : decode cX1_copyFrom 23 = .ok (.aload_n 1, 1) := by decide +kernel
theorem dX1_copyFrom_24 : decode cX1_copyFrom 24 = .ok (.getfield 24, 3) := by decide +kernel
theorem dX1_copyFrom_27 : decode cX1_copyFrom 27 = .ok (.putfield 24, 3) := by decide +kernel
theorem dX1_copyFrom_30 : decode cX1_copyFrom 30 = .ok (.return_, 1) := by decide +kernel
theorem dX1_addOnce_0 : decode cX1_addOnce 0 = .ok (.aload_n 0, 1) := by decide +kernel
theorem dX1_addOnce_1 : decode cX1_addOnce 1 = .ok (.getfield 15, 3) := by decide +kernel
theorem dX1_addOnce_4 : decode cX1_addOnce 4 = .ok (.iload_n 1, 1) := by decide +kernel
theorem dX1_addOnce_5 : decode cX1_addOnce 5 = .ok (.iaload, 1) := by decide +kernel
theorem dX1_addOnce_6 : decode cX1_addOnce 6 = .ok (.iconst (-1), 1) := by decide +kernel
theorem dX1_addOnce_7 : decode cX1_addOnce 7 = .ok (.if_icmp .ne 42, 3) := by decide +kernel
theorem dX1_addOnce_10 : decode cX1_addOnce 10 = .ok (.aload_n 0, 1) := by decide +kernel
theorem dX1_addOnce_11 : decode cX1_addOnce 11 = .ok (.getfield 24, 3) := by decide +kernel
theorem dX1_addOnce_14 : decode cX1_addOnce 14 = .ok (.bipush 12, 2) := by decide +kernel
theorem dX1_addOnce_16 : decode cX1_addOnce 16 = .ok (.if_icmp .ge 33, 3) := by decide +kernel
theorem dX1_addOnce_19 : decode cX1_addOnce 19 = .ok (.aload_n 0, 1) := by decide +kernel
theorem dX1_addOnce_20 : decode cX1_addOnce 20 = .ok (.getfield 9, 3) := by decide +kernel
theorem dX1_addOnce_23 : decode cX1_addOnce 23 = .ok (.aload_n 0, 1) := by decide +kernel
theorem dX1_addOnce_24 : decode cX1_addOnce 24 = .ok (.getfield 24, 3) := by decide +kernel
theorem dX1_addOnce_27 : decode cX1_addOnce 27 = .ok (.iload_n 1, 1) := by decide +kernel
theorem dX1_addOnce_28 : decode cX1_addOnce 28 = .ok (.iastore, 1) := by decide +kernel
theorem dX1_addOnce_29 : decode cX1_addOnce 29 = .ok (.aload_n 0, 1) := by decide +kernel
theorem dX1_addOnce_30 : decode cX1_addOnce 30 = .ok (.getfield 15, 3) := by decide +kernel
theorem dX1_addOnce_33 : decode cX1_addOnce 33 = .ok (.iload_n 1, 1) := by decide +kernel
theorem dX1_addOnce_34 : decode cX1_addOnce 34 = .ok (.aload_n 0, 1) := by decide +kernel
theorem dX1_addOnce_35 : decode cX1_addOnce 35 = .ok (.getfield 24, 3) := by decide +kernel
theorem dX1_addOnce_38 : decode cX1_addOnce 38 = .ok (.iastore, 1) := by decide +kernel
theorem dX1_addOnce_39 : decode cX1_addOnce 39 = .ok (.aload_n 0, 1) := by decide +kernel
theorem dX1_addOnce_40 : decode cX1_addOnce 40 = .ok (.dup, 1) := by decide +kernel
theorem dX1_addOnce_41 : decode cX1_addOnce 41 = .ok (.getfield 24, 3) := by decide +kernel
theorem dX1_addOnce_44 : decode cX1_addOnce 44 = .ok (.iconst 1, 1) := by decide +kernel
theorem dX1_addOnce_45 : decode cX1_addOnce 45 = .ok (.iadd, 1) := by decide +kernel
theorem dX1_addOnce_46 : decode cX1_addOnce 46 = .ok (.putfield 24, 3) := by decide +kernel
theorem dX1_addOnce_49 : decode cX1_addOnce 49 = .ok (.return_, 1) := by decide +kernel
theorem dX2_init_0 : decode cX2_init 0 = .ok (.aload_n 0, 1) := by decide +kernel
theorem dX2_init_1 : decode cX2_init 1 = .ok (.invokespecial 3, 3) := by decide +kernel
theorem dX2_init_4 : decode cX2_init 4 = .ok (.aload_n 0, 1) := by decide +kernel
theorem dX2_init_5 : decode cX2_init 5 = .ok (.bipush 12, 2) := by decide +kernel
theorem dX2_init_7 : decode cX2_init 7 = .ok (.newarray .int, 2) := by decide +kernel
theorem dX2_init_9 : decode cX2_init 9 = .ok (.putfield 9, 3) := by decide +kernel
theorem dX2_init_12 : decode cX2_init 12 = .ok (.aload_n 0, 1) := by decide +kernel
theorem dX2_init_13 : decode cX2_init 13 = .ok (.bipush 12, 2) := by decide +kernel
theorem dX2_init_15 : decode cX2_init 15 = .ok (.newarray .int, 2) := by decide +kernel
theorem dX2_init_17 : decode cX2_init 17 = .ok (.putfield 15, 3) := by decide +kernel
theorem dX2_init_20 : decode cX2_init 20 = .ok (.aload_n 0, 1) := by decide +kernel
theorem dX2_init_21 : decode cX2_init 21 = .ok (.bipush 12, 2) := by decide +kernel
theorem dX2_init_23 : decode cX2_init 23 = .ok (.newarray .int, 2) := by decide +kernel
theorem dX2_init_25 : decode cX2_init 25 = .ok (.putfield 18, 3) := by decide +kernel
theorem dX2_init_28 : decode cX2_init 28 = .ok (.aload_n 0, 1) := by decide +kernel
theorem dX2_init_29 : decode cX2_init 29 = .ok (.bipush 12, 2) := by decide +kernel
theorem dX2_init_31 : decode cX2_init 31 = .ok (.newarray .int, 2) := by decide +kernel
theorem dX2_init_33 : decode cX2_init 33 = .ok (.putfield 21, 3) := by decide +kernel
theorem dX2_init_36 : decode cX2_init 36 = .ok (.aload_n 0, 1) := by decide +kernel
theorem dX2_init_37 : decode cX2_init 37 = .ok (.bipush 12, 2) := by decide +kernel
theorem dX2_init_39 : decode cX2_init 39 = .ok (.newarray .int, 2) := by decide +kernel
theorem dX2_init_41 : decode cX2_init 41 = .ok (.putfield 24, 3) := by decide +kernel
theorem dX2_init_44 : decode cX2_init 44 = .ok (.aload_n 0, 1) := by decide +kernel
theorem dX2_init_45 : decode cX2_init 45 = .ok (.bipush 12, 2) := by decide +kernel
theorem dX2_init_47 : decode cX2_init 47 = .ok (.newarray .int, 2) := by decide +kernel
theorem dX2_init_49 : decode cX2_init 49 = .ok (.putfield 27, 3) := by decide +kernel
theorem dX2_init_52 : decode cX2_init 52 = .ok (.aload_n 0, 1) := by decide +kernel
theorem dX2_init_53 : decode cX2_init 53 = .ok (.aload_n 1, 1) := by decide +kernel
theorem dX2_init_54 : decode cX2_init 54 = .ok (.putfield 30, 3) := by decide +kernel
theorem dX2_init_57 : decode cX2_init 57 = .ok (.return_, 1) := by decide +kernel
theorem dX2_beginAnew_0 : decode cX2_beginAnew 0 = .ok (.aload_n 0, 1) := by decide +kernel
theorem dX2_beginAnew_1 : decode cX2_beginAnew 1 = .ok (.getfield 30, 3) := by decide +kernel
theorem dX2_beginAnew_4 : decode cX2_beginAnew 4 = .ok (.getfield 34, 3) := by decide +kernel
theorem dX2_beginAnew_7 : decode cX2_beginAnew 7 = .ok (.aload_n 0, 1) := by decide +kernel
theorem dX2_beginAnew_8 : decode cX2_beginAnew 8 = .ok (.getfield 9, 3) := by decide +kernel
theorem dX2_beginAnew_11 : decode cX2_beginAnew 11 = .ok (.invokestatic 37, 3) := by decide +kernel
theorem dX2_beginAnew_14 : decode cX2_beginAnew 14 = .ok (.aload_n 0, 1) := by decide +kernel
theorem dX2_beginAnew_15 : decode cX2_beginAnew 15 = .ok (.getfield 18, 3) := by decide +kernel
theorem dX2_beginAnew_18 : decode cX2_beginAnew 18 = .ok (.iconst 0, 1) := by decide +kernel
theorem dX2_beginAnew_19 : decode cX2_beginAnew 19 = .ok (.invokestatic 41, 3) := by decide +kernel
theorem dX2_beginAnew_22 : decode cX2_beginAnew 22 = .ok (.aload_n 0, 1) := by decide +kernel
theorem dX2_beginAnew_23 : decode cX2_beginAnew 23 = .ok (.getfield 21, 3) := by decide +kernel
theorem dX2_beginAnew_26 : decode cX2_beginAnew 26 = .ok (.iconst 0, 1) := by decide +kernel
theorem dX2_beginAnew_27 : decode cX2_beginAnew 27 = .ok (.invokestatic 41, 3) := by decide +kernel
theorem dX2_beginAnew_30 : decode cX2_beginAnew 30 = .ok (.aload_n 0, 1) := by decide +kernel
theorem dX2_beginAnew_31 : decode cX2_beginAnew 31 = .ok (.getfield 24, 3) := by decide +kernel
theorem dX2_beginAnew_34 : decode cX2_beginAnew 34 = .ok (.iconst (-1), 1) := by decide +kernel
theorem dX2_beginAnew_35 : decode cX2_beginAnew 35 = .ok (.invokestatic 41, 3) := by decide +kernel
theorem dX2_beginAnew_38 : decode cX2_beginAnew 38 = .ok (.aload_n 0, 1) := by decide +kernel
theorem dX2_beginAnew_39 : decode cX2_beginAnew 39 = .ok (.getfield 27, 3) := by decide +kernel
theorem dX2_beginAnew_42 : decode cX2_beginAnew 42 = .ok (.iconst (-1), 1) := by decide +kernel
theorem dX2_beginAnew_43 : decode cX2_beginAnew 43 = .ok (.invokestatic 41, 3) := by decide +kernel
theorem dX2_beginAnew_46 : decode cX2_beginAnew 46 = .ok (.iconst 0, 1) := by decide +kernel
theorem dX2_beginAnew_47 : decode cX2_beginAnew 47 = .ok (.istore_n 1, 1) := by decide +kernel
theorem dX2_beginAnew_48 : decode cX2_beginAnew 48 = .ok (.iload_n 1, 1) := by decide +kernel
theorem dX2_beginAnew_49 : decode cX2_beginAnew 49 = .ok (.aload_n 0, 1) := by decide +kernel
theorem dX2_beginAnew_50 : decode cX2_beginAnew 50 = .ok (.getfield 30, 3) := by decide +kernel
theorem dX2_beginAnew_53 : decode cX2_beginAnew 53 = .ok (.getfield 47, 3) := by decide +kernel
theorem dX2_beginAnew_56 : decode cX2_beginAnew 56 = .ok (.if_icmp .ge 34, 3) := by decide +kernel
theorem dX2_beginAnew_59 : decode cX2_beginAnew 59 = .ok (.aload_n 0, 1) := by decide +kernel
theorem dX2_beginAnew_60 : decode cX2_beginAnew 60 = .ok (.getfield 15, 3) := by decide +kernel
theorem dX2_beginAnew_63 : decode cX2_beginAnew 63 = .ok (.iload_n 1, 1) := by decide +kernel
theorem dX2_beginAnew_64 : decode cX2_beginAnew 64 = .ok (.aload_n 0, 1) := by decide +kernel
theorem dX2_beginAnew_65 : decode cX2_beginAnew 65 = .ok (.getfield 30, 3) := by decide +kernel
theorem dX2_beginAnew_68 : decode cX2_beginAnew 68 = .ok (.getfield 51, 3) := by decide +kernel
theorem dX2_beginAnew_71 : decode cX2_beginAnew 71 = .ok (.iload_n 1, 1) := by decide +kernel
theorem dX2_beginAnew_72 : decode cX2_beginAnew 72 = .ok (.invokestatic 54, 3) := by decide +kernel
theorem dX2_beginAnew_75 : decode cX2_beginAnew 75 = .ok (.ifCond .eq 7, 3) := by decide +kernel
theorem dX2_beginAnew_78 : decode cX2_beginAnew 78 = .ok (.iconst 0, 1) := by decide +kernel
theorem dX2_beginAnew_79 : decode cX2_beginAnew 79 = .ok (.goto 4, 3) := by decide +kernel
theorem dX2_beginAnew_82 : decode cX2_beginAnew 82 = .ok (.iconst 1, 1) := by decide +kernel
theorem dX2_beginAnew_83 : decode cX2_beginAnew 83 = .ok (.iastore, 1) := by decide +kernel
theorem dX2_beginAnew_84 : decode cX2_beginAnew 84 = .ok (.iinc 1 1, 3) := by decide +kernel
theorem dX2_beginAnew_87 : decode cX2_beginAnew 87 = .ok (.goto (-39), 3) := by decide +kernel
theorem dX2_beginAnew_90 : decode cX2_beginAnew 90 = .ok (.aload_n 0, 1) := by decide +kernel
theorem dX2_beginAnew_91 : decode cX2_beginAnew 91 = .ok (.iconst 0, 1) := by decide +kernel
theorem dX2_beginAnew_92 : decode cX2_beginAnew 92 = .ok (.putfield 58, 3) := by decide +kernel
theorem dX2_beginAnew_95 : decode cX2_beginAnew 95 = .ok (.aload_n 0, 1) := by decide +kernel
theorem dX2_beginAnew_96 : decode cX2_beginAnew 96 = .ok (.iconst 0, 1) := by decide +kernel
theorem dX2_beginAnew_97 : decode cX2_beginAnew 97 = .ok (.putfield 61, 3) := by decide +kernel
theorem dX2_beginAnew_100 : decode cX2_beginAnew 100 = .ok (.return_, 1) := by decide +kernel
theorem dX2_copyFrom_0 : decode cX2_copyFrom 0 = .ok (.aload_n 1, 1) := by decide +kernel
theorem dX2_copyFrom_1 : decode cX2_copyFrom 1 = .ok (.getfield 9, 3) := by decide +kernel
theorem dX2_copyFrom_4 : decode cX2_copyFrom 4 = .ok (.aload_n 0, 1) := by decide +kernel
theorem dX2_copyFrom_5 : decode cX2_copyFrom 5 = .ok (.getfield 9, 3) := by decide +kernel
theorem dX2_copyFrom_8 : decode cX2_copyFrom 8 = .ok (.invokestatic 37, 3) := by decide +kernel
theorem dX2_copyFrom_11 : decode cX2_copyFrom 11 = .ok (.aload_n 1, 1) := by decide +kernel
theorem dX2_copyFrom_12 : decode cX2_copyFrom 12 = .ok (.getfield 15, 3) := by decide +kernel
theorem dX2_copyFrom_15 : decode cX2_copyFrom 15 = .ok (.aload_n 0, 1) := by decide +kernel
theorem dX2_copyFrom_16 : decode cX2_copyFrom 16 = .ok (.getfield 15, 3) := by decide +kernel
theorem dX2_copyFrom_19 : decode cX2_copyFrom 19 = .ok (.invokestatic 37, 3) := by decide +kernel
theorem dX2_copyFrom_22 : decode cX2_copyFrom 22 = .ok (.aload_n 1, 1) := by decide +kernel
theorem dX2_copyFrom_23 : decode cX2_copyFrom 23 = .ok (.getfield 18, 3) := by decide +kernel
theorem dX2_copyFrom_26 : decode cX2_copyFrom 26 = .ok (.aload_n 0, 1) := by decide +kernel
theorem dX2_copyFrom_27 : decode cX2_copyFrom 27 = .ok (.getfield 18, 3) := by decide +kernel
theorem dX2_copyFrom_30 : decode cX2_copyFrom 30 = .ok (.invokestatic 37, 3) := by decide +kernel
theorem dX2_copyFrom_33 : decode cX2_copyFrom 33 = .ok (.aload_n 1, 1) := by decide +kernel
theorem dX2_copyFrom_34 : decode cX2_copyFrom 34 = .ok (.getfield 21, 3) := by decide +kernel
theorem dX2_copyFrom_37 : decode cX2_copyFrom 37 = .ok (.aload_n 0, 1) := by decide +kernel
theorem dX2_copyFrom_38 : decode cX2_copyFrom 38 = .ok (.getfield 21, 3) := by decide +kernel
theorem dX2_copyFrom_41 : decode cX2_copyFrom 41 = .ok (.invokestatic 37, 3) := by decide +kernel
theorem dX2_copyFrom_44 : decode cX2_copyFrom 44 = .ok (.aload_n 1, 1) := by decide +kernel
theorem dX2_copyFrom_45 : decode cX2_copyFrom 45 = .ok (.getfield 24, 3) := by decide +kernel
theorem dX2_copyFrom_48 : decode cX2_copyFrom 48 = .ok (.aload_n 0, 1) := by decide +kernel
theorem dX2_copyFrom_49 : decode cX2_copyFrom 49 = .ok (.getfield 24, 3) := by decide +kernel
theorem dX2_copyFrom_52 : decode cX2_copyFrom 52 = .ok (.invokestatic 37, 3) := by decide +kernel
theorem dX2_copyFrom_55 : decode cX2_copyFrom 55 = .ok (.aload_n 1, 1) := by decide +kernel
theorem dX2_copyFrom_56 : decode cX2_copyFrom 56 = .ok (.getfield 27, 3) := by decide +kernel
theorem dX2_copyFrom_59 : decode cX2_copyFrom 59 = .ok (.aload_n 0, 1) := by decide +kernel
theorem dX2_copyFrom_60 : decode cX2_copyFrom 60 = .ok (.getfield 27, 3) := by decide +kernel
theorem dX2_copyFrom_63 : decode cX2_copyFrom 63 = .ok (.invokestatic 37, 3) := by decide +kernel
theorem dX2_copyFrom_66 : decode cX2_copyFrom 66 = .ok (.aload_n 0, 1) := by decide +kernel
theorem dX2_copyFrom_67 : decode cX2_copyFrom 67 = .ok (.aload_n 1, 1) := by decide +kernel
theorem dX2_copyFrom_68 : decode cX2_copyFrom 68 = .ok (.getfield 58, 3) := by decide +kernel
theorem dX2_copyFrom_71 : decode cX2_copyFrom 71 = .ok (.putfield 58, 3) := by decide +kernel
theorem dX2_copyFrom_74 : decode cX2_copyFrom 74 = .ok (.aload_n 0, 1) := by decide +kernel
theorem dX2_copyFrom_75 : decode cX2_copyFrom 75 = .ok (.aload_n 1, 1) := by decide +kernel
theorem dX2_copyFrom_76 : decode cX2_copyFrom 76 = .ok (.getfield 61, 3) := by decide +kernel
theorem dX2_copyFrom_79 : decode cX2_copyFrom 79 = .ok (.putfield 61, 3) := by decide +kernel
theorem dX2_copyFrom_82 : decode cX2_copyFrom 82 = .ok (.return_, 1) := by decide +kernel
theorem dX2_doesWant_0 : decode cX2_doesWant 0 = .ok (.aload_n 0, 1) := by decide +kernel
theorem dX2_doesWant_1 : decode cX2_doesWant 1 = .ok (.getfield 15, 3) := by decide +kernel
theorem dX2_doesWant_4 : decode cX2_doesWant 4 = .ok (.iload_n 1, 1) := by decide +kernel
theorem dX2_doesWant_5 : decode cX2_doesWant 5 = .ok (.iaload, 1) := by decide +kernel
theorem dX2_doesWant_6 : decode cX2_doesWant 6 = .ok (.ifCond .eq 7, 3) := by decide +kernel
theorem dX2_doesWant_9 : decode cX2_doesWant 9 = .ok (.iconst 1, 1) := by decide +kernel
theorem dX2_doesWant_10 : decode cX2_doesWant 10 = .ok (.goto 4, 3) := by decide +kernel
theorem dX2_doesWant_13 : decode cX2_doesWant 13 = .ok (.iconst 0, 1) := by decide +kernel
theorem dX2_doesWant_14 : decode cX2_doesWant 14 = .ok (.ireturn, 1) := by decide +kernel
theorem dX2_inState_0 : decode cX2_inState 0 = .ok (.iconst 0, 1) := by decide +kernel
theorem dX2_inState_1 : decode cX2_inState 1 = .ok (.istore_n 2, 1) := by decide +kernel
theorem dX2_inState_2 : decode cX2_inState 2 = .ok (.iconst 0, 1) := by decide +kernel
theorem dX2_inState_3 : decode cX2_inState 3 = .ok (.istore_n 3, 1) := by decide +kernel
theorem dX2_inState_4 : decode cX2_inState 4 = .ok (.iload_n 3, 1) := by decide +kernel
theorem dX2_inState_5 : decode cX2_inState 5 = .ok (.aload_n 0, 1) := by decide +kernel
theorem dX2_inState_6 : decode cX2_inState 6 = .ok (.getfield 30, 3) := by decide +kernel
theorem dX2_inState_9 : decode cX2_inState 9 = .ok (.getfield 47, 3) := by decide +kernel
theorem dX2_inState_12 : decode cX2_inState 12 = .ok (.if_icmp .ge 25, 3) := by decide +kernel
theorem dX2_inState_15 : decode cX2_inState 15 = .ok (.aload_n 0, 1) := by decide +kernel
theorem dX2_inState_16 : decode cX2_inState 16 = .ok (.getfield 15, 3) := by decide +kernel
theorem dX2_inState_19 : decode cX2_inState 19 = .ok (.iload_n 3, 1) := by decide +kernel
theorem dX2_inState_20 : decode cX2_inState 20 = .ok (.iaload, 1) := by decide +kernel
theorem dX2_inState_21 : decode cX2_inState 21 = .ok (.iload_n 1, 1) := by decide +kernel
theorem dX2_inState_22 : decode cX2_inState 22 = .ok (.if_icmp .ne 9, 3) := by decide +kernel
theorem dX2_inState_25 : decode cX2_inState 25 = .ok (.iload_n 2, 1) := by decide +kernel
theorem dX2_inState_26 : decode cX2_inState 26 = .ok (.iconst 1, 1) := by decide +kernel
theorem dX2_inState_27 : decode cX2_inState 27 = .ok (.iload_n 3, 1) := by decide +kernel
theorem dX2_inState_28 : decode cX2_inState 28 = .ok (.ishl, 1) := by decide +kernel
theorem dX2_inState_29 : decode cX2_inState 29 = .ok (.ior, 1) := by decide +kernel
theorem dX2_inState_30 : decode cX2_inState 30 = .ok (.istore_n 2, 1) := by decide +kernel
theorem dX2_inState_31 : decode cX2_inState 31 = .ok (.iinc 3 1, 3) := by decide +kernel
theorem dX2_inState_34 : decode cX2_inState 34 = .ok (.goto (-30), 3) := by decide +kernel
theorem dX2_inState_37 : decode cX2_inState 37 = .ok (.iload_n 2, 1) := by decide +kernel
theorem dX2_inState_38 : decode cX2_inState 38 = .ok (.ireturn, 1) := by decide +kernel
theorem dX2_drawOf_0 : decode cX2_drawOf 0 = .ok (.aload_n 0, 1) := by decide +kernel
theorem dX2_drawOf_1 : decode cX2_drawOf 1 = .ok (.getfield 15, 3) := by decide +kernel
theorem dX2_drawOf_4 : decode cX2_drawOf 4 = .ok (.iload_n 1, 1) := by decide +kernel
theorem dX2_drawOf_5 : decode cX2_drawOf 5 = .ok (.iaload, 1) := by decide +kernel
theorem dX2_drawOf_6 : decode cX2_drawOf 6 = .ok (.iconst 2, 1) := by decide +kernel
theorem dX2_drawOf_7 : decode cX2_drawOf 7 = .ok (.if_icmp .ne 13, 3) := by decide +kernel
theorem dX2_drawOf_10 : decode cX2_drawOf 10 = .ok (.aload_n 0, 1) := by decide +kernel
theorem dX2_drawOf_11 : decode cX2_drawOf 11 = .ok (.getfield 30, 3) := by decide +kernel
theorem dX2_drawOf_14 : decode cX2_drawOf 14 = .ok (.getfield 64, 3) := by decide +kernel
theorem dX2_drawOf_17 : decode cX2_drawOf 17 = .ok (.iload_n 1, 1) := by decide +kernel
theorem dX2_drawOf_18 : decode cX2_drawOf 18 = .ok (.iaload, 1) := by decide +kernel
theorem dX2_drawOf_19 : decode cX2_drawOf 19 = .ok (.ireturn, 1) := by decide +kernel
theorem dX2_drawOf_20 : decode cX2_drawOf 20 = .ok (.aload_n 0, 1) := by decide +kernel
theorem dX2_drawOf_21 : decode cX2_drawOf 21 = .ok (.getfield 15, 3) := by decide +kernel
theorem dX2_drawOf_24 : decode cX2_drawOf 24 = .ok (.iload_n 1, 1) := by decide +kernel
theorem dX2_drawOf_25 : decode cX2_drawOf 25 = .ok (.iaload, 1) := by decide +kernel
theorem dX2_drawOf_26 : decode cX2_drawOf 26 = .ok (.iconst 3, 1) := by decide +kernel
theorem dX2_drawOf_27 : decode cX2_drawOf 27 = .ok (.if_icmp .ne 15, 3) := by decide +kernel
theorem dX2_drawOf_30 : decode cX2_drawOf 30 = .ok (.aload_n 0, 1) := by decide +kernel
theorem dX2_drawOf_31 : decode cX2_drawOf 31 = .ok (.getfield 30, 3) := by decide +kernel
theorem dX2_drawOf_34 : decode cX2_drawOf 34 = .ok (.getfield 67, 3) := by decide +kernel
theorem dX2_drawOf_37 : decode cX2_drawOf 37 = .ok (.iload_n 1, 1) := by decide +kernel
theorem dX2_drawOf_38 : decode cX2_drawOf 38 = .ok (.iaload, 1) := by decide +kernel
theorem dX2_drawOf_39 : decode cX2_drawOf 39 = .ok (.goto 4, 3) := by decide +kernel
theorem dX2_drawOf_42 : decode cX2_drawOf 42 = .ok (.iconst 0, 1) := by decide +kernel
theorem dX2_drawOf_43 : decode cX2_drawOf 43 = .ok (.ireturn, 1) := by decide +kernel
theorem dX2_beginToWait_0 : decode cX2_beginToWait 0 = .ok (.aload_n 0, 1) := by decide +kernel
theorem dX2_beginToWait_1 : decode cX2_beginToWait 1 = .ok (.getfield 15, 3) := by decide +kernel
theorem dX2_beginToWait_4 : decode cX2_beginToWait 4 = .ok (.iload_n 1, 1) := by decide +kernel
theorem dX2_beginToWait_5 : decode cX2_beginToWait 5 = .ok (.iconst 1, 1) := by decide +kernel
theorem dX2_beginToWait_6 : decode cX2_beginToWait 6 = .ok (.iastore, 1) := by decide +kernel
theorem dX2_beginToWait_7 : decode cX2_beginToWait 7 = .ok (.aload_n 0, 1) := by decide +kernel
theorem dX2_beginToWait_8 : decode cX2_beginToWait 8 = .ok (.getfield 18, 3) := by decide +kernel
theorem dX2_beginToWait_11 : decode cX2_beginToWait 11 = .ok (.iload_n 1, 1) := by decide +kernel
theorem dX2_beginToWait_12 : decode cX2_beginToWait 12 = .ok (.iconst 0, 1) := by decide +kernel
theorem dX2_beginToWait_13 : decode cX2_beginToWait 13 = .ok (.iastore, 1) := by decide +kernel
theorem dX2_beginToWait_14 : decode cX2_beginToWait 14 = .ok (.aload_n 0, 1) := by decide +kernel
theorem dX2_beginToWait_15 : decode cX2_beginToWait 15 = .ok (.getfield 27, 3) := by decide +kernel
theorem dX2_beginToWait_18 : decode cX2_beginToWait 18 = .ok (.iload_n 1, 1) := by decide +kernel
theorem dX2_beginToWait_19 : decode cX2_beginToWait 19 = .ok (.iconst (-1), 1) := by decide +kernel
theorem dX2_beginToWait_20 : decode cX2_beginToWait 20 = .ok (.iastore, 1) := by decide +kernel
theorem dX2_beginToWait_21 : decode cX2_beginToWait 21 = .ok (.return_, 1) := by decide +kernel
theorem dX2_becomeIdle_0 : decode cX2_becomeIdle 0 = .ok (.aload_n 0, 1) := by decide +kernel
theorem dX2_becomeIdle_1 : decode cX2_becomeIdle 1 = .ok (.getfield 15, 3) := by decide +kernel
theorem dX2_becomeIdle_4 : decode cX2_becomeIdle 4 = .ok (.iload_n 1, 1) := by decide +kernel
theorem dX2_becomeIdle_5 : decode cX2_becomeIdle 5 = .ok (.iaload, 1) := by decide +kernel
theorem dX2_becomeIdle_6 : decode cX2_becomeIdle 6 = .ok (.iconst 2, 1) := by decide +kernel
theorem dX2_becomeIdle_7 : decode cX2_becomeIdle 7 = .ok (.if_icmp .eq 13, 3) := by decide +kernel
theorem dX2_becomeIdle_10 : decode cX2_becomeIdle 10 = .ok (.aload_n 0, 1) := by decide +kernel
theorem dX2_becomeIdle_11 : decode cX2_becomeIdle 11 = .ok (.getfield 15, 3) := by decide +kernel
theorem dX2_becomeIdle_14 : decode cX2_becomeIdle 14 = .ok (.iload_n 1, 1) := by decide +kernel
theorem dX2_becomeIdle_15 : decode cX2_becomeIdle 15 = .ok (.iaload, 1) := by decide +kernel
theorem dX2_becomeIdle_16 : decode cX2_becomeIdle 16 = .ok (.iconst 3, 1) := by decide +kernel
theorem dX2_becomeIdle_17 : decode cX2_becomeIdle 17 = .ok (.if_icmp .ne 15, 3) := by decide +kernel
theorem dX2_becomeIdle_20 : decode cX2_becomeIdle 20 = .ok (.aload_n 0, 1) := by decide +kernel
theorem dX2_becomeIdle_21 : decode cX2_becomeIdle 21 = .ok (.dup, 1) := by decide +kernel
theorem dX2_becomeIdle_22 : decode cX2_becomeIdle 22 = .ok (.getfield 58, 3) := by decide +kernel
theorem dX2_becomeIdle_25 : decode cX2_becomeIdle 25 = .ok (.iconst 1, 1) := by decide +kernel
theorem dX2_becomeIdle_26 : decode cX2_becomeIdle 26 = .ok (.iload_n 1, 1) := by decide +kernel
theorem dX2_becomeIdle_27 : decode cX2_becomeIdle 27 = .ok (.ishl, 1) := by decide +kernel
theorem dX2_becomeIdle_28 : decode cX2_becomeIdle 28 = .ok (.ior, 1) := by decide +kernel
theorem dX2_becomeIdle_29 : decode cX2_becomeIdle 29 = .ok (.putfield 58, 3) := by decide +kernel
theorem dX2_becomeIdle_32 : decode cX2_becomeIdle 32 = .ok (.aload_n 0, 1) := by decide +kernel
theorem dX2_becomeIdle_33 : decode cX2_becomeIdle 33 = .ok (.getfield 15, 3) := by decide +kernel
theorem dX2_becomeIdle_36 : decode cX2_becomeIdle 36 = .ok (.iload_n 1, 1) := by decide +kernel
theorem dX2_becomeIdle_37 : decode cX2_becomeIdle 37 = .ok (.iconst 0, 1) := by decide +kernel
theorem dX2_becomeIdle_38 : decode cX2_becomeIdle 38 = .ok (.iastore, 1) := by decide +kernel
theorem dX2_becomeIdle_39 : decode cX2_becomeIdle 39 = .ok (.aload_n 0, 1) := by decide +kernel
theorem dX2_becomeIdle_40 : decode cX2_becomeIdle 40 = .ok (.getfield 18, 3) := by decide +kernel
theorem dX2_becomeIdle_43 : decode cX2_becomeIdle 43 = .ok (.iload_n 1, 1) := by decide +kernel
theorem dX2_becomeIdle_44 : decode cX2_becomeIdle 44 = .ok (.iconst 0, 1) := by decide +kernel
theorem dX2_becomeIdle_45 : decode cX2_becomeIdle 45 = .ok (.iastore, 1) := by decide +kernel
theorem dX2_becomeIdle_46 : decode cX2_becomeIdle 46 = .ok (.return_, 1) := by decide +kernel
theorem dX2_losePower_0 : decode cX2_losePower 0 = .ok (.iconst 0, 1) := by decide +kernel
theorem dX2_losePower_1 : decode cX2_losePower 1 = .ok (.istore_n 1, 1) := by decide +kernel
theorem dX2_losePower_2 : decode cX2_losePower 2 = .ok (.iload_n 1, 1) := by decide +kernel
theorem dX2_losePower_3 : decode cX2_losePower 3 = .ok (.aload_n 0, 1) := by decide +kernel
theorem dX2_losePower_4 : decode cX2_losePower 4 = .ok (.getfield 30, 3) := by decide +kernel
theorem dX2_losePower_7 : decode cX2_losePower 7 = .ok (.getfield 47, 3) := by decide +kernel
theorem dX2_losePower_10 : decode cX2_losePower 10 = .ok (.if_icmp .ge 22, 3) := by decide +kernel
theorem dX2_losePower_13 : decode cX2_losePower 13 = .ok (.aload_n 0, 1) := by decide +kernel
theorem dX2_losePower_14 : decode cX2_losePower 14 = .ok (.iload_n 1, 1) := by decide +kernel
theorem dX2_losePower_15 : decode cX2_losePower 15 = .ok (.invokevirtual 70, 3) := by decide +kernel
theorem dX2_losePower_18 : decode cX2_losePower 18 = .ok (.ifCond .eq 8, 3) := by decide +kernel
theorem dX2_losePower_21 : decode cX2_losePower 21 = .ok (.aload_n 0, 1) := by decide +kernel
theorem dX2_losePower_22 : decode cX2_losePower 22 = .ok (.iload_n 1, 1) := by decide +kernel
theorem dX2_losePower_23 : decode cX2_losePower 23 = .ok (.invokevirtual 74, 3) := by decide +kernel
theorem dX2_losePower_26 : decode cX2_losePower 26 = .ok (.iinc 1 1, 3) := by decide +kernel
theorem dX2_losePower_29 : decode cX2_losePower 29 = .ok (.goto (-27), 3) := by decide +kernel
theorem dX2_losePower_32 : decode cX2_losePower 32 = .ok (.aload_n 0, 1) := by decide +kernel
theorem dX2_losePower_33 : decode cX2_losePower 33 = .ok (.iconst 0, 1) := by decide +kernel
theorem dX2_losePower_34 : decode cX2_losePower 34 = .ok (.putfield 58, 3) := by decide +kernel
theorem dX2_losePower_37 : decode cX2_losePower 37 = .ok (.aload_n 0, 1) := by decide +kernel
theorem dX2_losePower_38 : decode cX2_losePower 38 = .ok (.iconst 0, 1) := by decide +kernel
theorem dX2_losePower_39 : decode cX2_losePower 39 = .ok (.putfield 61, 3) := by decide +kernel
theorem dX2_losePower_42 : decode cX2_losePower 42 = .ok (.return_, 1) := by decide +kernel
theorem dX2_hearGrant_0 : decode cX2_hearGrant 0 = .ok (.aload_n 0, 1) := by decide +kernel
theorem dX2_hearGrant_1 : decode cX2_hearGrant 1 = .ok (.getfield 15, 3) := by decide +kernel
theorem dX2_hearGrant_4 : decode cX2_hearGrant 4 = .ok (.iload_n 1, 1) := by decide +kernel
theorem dX2_hearGrant_5 : decode cX2_hearGrant 5 = .ok (.iaload, 1) := by decide +kernel
theorem dX2_hearGrant_6 : decode cX2_hearGrant 6 = .ok (.iconst 1, 1) := by decide +kernel
theorem dX2_hearGrant_7 : decode cX2_hearGrant 7 = .ok (.if_icmp .ne 35, 3) := by decide +kernel
theorem dX2_hearGrant_10 : decode cX2_hearGrant 10 = .ok (.aload_n 0, 1) := by decide +kernel
theorem dX2_hearGrant_11 : decode cX2_hearGrant 11 = .ok (.getfield 15, 3) := by decide +kernel
theorem dX2_hearGrant_14 : decode cX2_hearGrant 14 = .ok (.iload_n 1, 1) := by decide +kernel
theorem dX2_hearGrant_15 : decode cX2_hearGrant 15 = .ok (.iconst 2, 1) := by decide +kernel
theorem dX2_hearGrant_16 : decode cX2_hearGrant 16 = .ok (.iastore, 1) := by decide +kernel
theorem dX2_hearGrant_17 : decode cX2_hearGrant 17 = .ok (.aload_n 0, 1) := by decide +kernel
theorem dX2_hearGrant_18 : decode cX2_hearGrant 18 = .ok (.getfield 18, 3) := by decide +kernel
theorem dX2_hearGrant_21 : decode cX2_hearGrant 21 = .ok (.iload_n 1, 1) := by decide +kernel
theorem dX2_hearGrant_22 : decode cX2_hearGrant 22 = .ok (.aload_n 0, 1) := by decide +kernel
theorem dX2_hearGrant_23 : decode cX2_hearGrant 23 = .ok (.getfield 30, 3) := by decide +kernel
theorem dX2_hearGrant_26 : decode cX2_hearGrant 26 = .ok (.getfield 78, 3) := by decide +kernel
theorem dX2_hearGrant_29 : decode cX2_hearGrant 29 = .ok (.iload_n 1, 1) := by decide +kernel
theorem dX2_hearGrant_30 : decode cX2_hearGrant 30 = .ok (.iaload, 1) := by decide +kernel
theorem dX2_hearGrant_31 : decode cX2_hearGrant 31 = .ok (.iastore, 1) := by decide +kernel
theorem dX2_hearGrant_32 : decode cX2_hearGrant 32 = .ok (.aload_n 0, 1) := by decide +kernel
theorem dX2_hearGrant_33 : decode cX2_hearGrant 33 = .ok (.getfield 21, 3) := by decide +kernel
theorem dX2_hearGrant_36 : decode cX2_hearGrant 36 = .ok (.iload_n 1, 1) := by decide +kernel
theorem dX2_hearGrant_37 : decode cX2_hearGrant 37 = .ok (.dup2, 1) := by decide +kernel
theorem dX2_hearGrant_38 : decode cX2_hearGrant 38 = .ok (.iaload, 1) := by decide +kernel
theorem dX2_hearGrant_39 : decode cX2_hearGrant 39 = .ok (.iconst 1, 1) := by decide +kernel
theorem dX2_hearGrant_40 : decode cX2_hearGrant 40 = .ok (.iadd, 1) := by decide +kernel
theorem dX2_hearGrant_41 : decode cX2_hearGrant 41 = .ok (.iastore, 1) := by decide +kernel
theorem dX2_hearGrant_42 : decode cX2_hearGrant 42 = .ok (.return_, 1) := by decide +kernel
theorem dX2_hearPoll_0 : decode cX2_hearPoll 0 = .ok (.aload_n 0, 1) := by decide +kernel
theorem dX2_hearPoll_1 : decode cX2_hearPoll 1 = .ok (.dup, 1) := by decide +kernel
theorem dX2_hearPoll_2 : decode cX2_hearPoll 2 = .ok (.getfield 61, 3) := by decide +kernel
theorem dX2_hearPoll_5 : decode cX2_hearPoll 5 = .ok (.iconst 1, 1) := by decide +kernel
theorem dX2_hearPoll_6 : decode cX2_hearPoll 6 = .ok (.iload_n 1, 1) := by decide +kernel
theorem dX2_hearPoll_7 : decode cX2_hearPoll 7 = .ok (.ishl, 1) := by decide +kernel
theorem dX2_hearPoll_8 : decode cX2_hearPoll 8 = .ok (.ior, 1) := by decide +kernel
theorem dX2_hearPoll_9 : decode cX2_hearPoll 9 = .ok (.putfield 61, 3) := by decide +kernel
theorem dX2_hearPoll_12 : decode cX2_hearPoll 12 = .ok (.return_, 1) := by decide +kernel
theorem dX2_isDueToAsk_0 : decode cX2_isDueToAsk 0 = .ok (.aload_n 0, 1) := by decide +kernel
theorem dX2_isDueToAsk_1 : decode cX2_isDueToAsk 1 = .ok (.getfield 15, 3) := by decide +kernel
theorem dX2_isDueToAsk_4 : decode cX2_isDueToAsk 4 = .ok (.iload_n 1, 1) := by decide +kernel
theorem dX2_isDueToAsk_5 : decode cX2_isDueToAsk 5 = .ok (.iaload, 1) := by decide +kernel
theorem dX2_isDueToAsk_6 : decode cX2_isDueToAsk 6 = .ok (.iconst 1, 1) := by decide +kernel
theorem dX2_isDueToAsk_7 : decode cX2_isDueToAsk 7 = .ok (.if_icmp .ne 29, 3) := by decide +kernel
theorem dX2_isDueToAsk_10 : decode cX2_isDueToAsk 10 = .ok (.aload_n 0, 1) := by decide +kernel
theorem dX2_isDueToAsk_11 : decode cX2_isDueToAsk 11 = .ok (.getfield 27, 3) := by decide +kernel
theorem dX2_isDueToAsk_14 : decode cX2_isDueToAsk 14 = .ok (.iload_n 1, 1) := by decide +kernel
theorem dX2_isDueToAsk_15 : decode cX2_isDueToAsk 15 = .ok (.iaload, 1) := by decide +kernel
theorem dX2_isDueToAsk_16 : decode cX2_isDueToAsk 16 = .ok (.iconst (-1), 1) := by decide +kernel
theorem dX2_isDueToAsk_17 : decode cX2_isDueToAsk 17 = .ok (.if_icmp .eq 15, 3) := by decide +kernel
theorem dX2_isDueToAsk_20 : decode cX2_isDueToAsk 20 = .ok (.iload_n 2, 1) := by decide +kernel
theorem dX2_isDueToAsk_21 : decode cX2_isDueToAsk 21 = .ok (.aload_n 0, 1) := by decide +kernel
theorem dX2_isDueToAsk_22 : decode cX2_isDueToAsk 22 = .ok (.getfield 27, 3) := by decide +kernel
theorem dX2_isDueToAsk_25 : decode cX2_isDueToAsk 25 = .ok (.iload_n 1, 1) := by decide +kernel
theorem dX2_isDueToAsk_26 : decode cX2_isDueToAsk 26 = .ok (.iaload, 1) := by decide +kernel
theorem dX2_isDueToAsk_27 : decode cX2_isDueToAsk 27 = .ok (.isub, 1) := by decide +kernel
theorem dX2_isDueToAsk_28 : decode cX2_isDueToAsk 28 = .ok (.iload_n 3, 1) := by decide +kernel
theorem dX2_isDueToAsk_29 : decode cX2_isDueToAsk 29 = .ok (.if_icmp .lt 7, 3) := by decide +kernel
theorem dX2_isDueToAsk_32 : decode cX2_isDueToAsk 32 = .ok (.iconst 1, 1) := by decide +kernel
theorem dX2_isDueToAsk_33 : decode cX2_isDueToAsk 33 = .ok (.goto 4, 3) := by decide +kernel
theorem dX2_isDueToAsk_36 : decode cX2_isDueToAsk 36 = .ok (.iconst 0, 1) := by decide +kernel
theorem dX2_isDueToAsk_37 : decode cX2_isDueToAsk 37 = .ok (.ireturn, 1) := by decide +kernel
theorem dX2_spendTick_0 : decode cX2_spendTick 0 = .ok (.iconst 0, 1) := by decide +kernel
theorem dX2_spendTick_1 : decode cX2_spendTick 1 = .ok (.istore_n 1, 1) := by decide +kernel
theorem dX2_spendTick_2 : decode cX2_spendTick 2 = .ok (.iload_n 1, 1) := by decide +kernel
theorem dX2_spendTick_3 : decode cX2_spendTick 3 = .ok (.aload_n 0, 1) := by decide +kernel
theorem dX2_spendTick_4 : decode cX2_spendTick 4 = .ok (.getfield 30, 3) := by decide +kernel
theorem dX2_spendTick_7 : decode cX2_spendTick 7 = .ok (.getfield 47, 3) := by decide +kernel
theorem dX2_spendTick_10 : decode cX2_spendTick 10 = .ok (.if_icmp .ge 29, 3) := by decide +kernel
theorem dX2_spendTick_13 : decode cX2_spendTick 13 = .ok (.aload_n 0, 1) := by decide +kernel
theorem dX2_spendTick_14 : decode cX2_spendTick 14 = .ok (.getfield 15, 3) := by decide +kernel
theorem dX2_spendTick_17 : decode cX2_spendTick 17 = .ok (.iload_n 1, 1) := by decide +kernel
theorem dX2_spendTick_18 : decode cX2_spendTick 18 = .ok (.iaload, 1) := by decide +kernel
theorem dX2_spendTick_19 : decode cX2_spendTick 19 = .ok (.iconst 2, 1) := by decide +kernel
theorem dX2_spendTick_20 : decode cX2_spendTick 20 = .ok (.if_icmp .ne 13, 3) := by decide +kernel
theorem dX2_spendTick_23 : decode cX2_spendTick 23 = .ok (.aload_n 0, 1) := by decide +kernel
theorem dX2_spendTick_24 : decode cX2_spendTick 24 = .ok (.getfield 18, 3) := by decide +kernel
theorem dX2_spendTick_27 : decode cX2_spendTick 27 = .ok (.iload_n 1, 1) := by decide +kernel
theorem dX2_spendTick_28 : decode cX2_spendTick 28 = .ok (.dup2, 1) := by decide +kernel
theorem dX2_spendTick_29 : decode cX2_spendTick 29 = .ok (.iaload, 1) := by decide +kernel
theorem dX2_spendTick_30 : decode cX2_spendTick 30 = .ok (.iconst 1, 1) := by decide +kernel
theorem dX2_spendTick_31 : decode cX2_spendTick 31 = .ok (.isub, 1) := by decide +kernel
theorem dX2_spendTick_32 : decode cX2_spendTick 32 = .ok (.iastore, 1) := by decide +kernel
theorem dX2_spendTick_33 : decode cX2_spendTick 33 = .ok (.iinc 1 1, 3) := by decide +kernel
theorem dX2_spendTick_36 : decode cX2_spendTick 36 = .ok (.goto (-34), 3) := by decide +kernel
theorem dX2_spendTick_39 : decode cX2_spendTick 39 = .ok (.return_, 1) := by decide +kernel
theorem dX3_init_0 : decode cX3_init 0 = .ok (.aload_n 0, 1) := by decide +kernel
theorem dX3_init_1 : decode cX3_init 1 = .ok (.invokespecial 3, 3) := by decide +kernel
theorem dX3_init_4 : decode cX3_init 4 = .ok (.aload_n 0, 1) := by decide +kernel
theorem dX3_init_5 : decode cX3_init 5 = .ok (.bipush 12, 2) := by decide +kernel
theorem dX3_init_7 : decode cX3_init 7 = .ok (.newarray .int, 2) := by decide +kernel
theorem dX3_init_9 : decode cX3_init 9 = .ok (.putfield 9, 3) := by decide +kernel
theorem dX3_init_12 : decode cX3_init 12 = .ok (.aload_n 0, 1) := by decide +kernel
theorem dX3_init_13 : decode cX3_init 13 = .ok (.bipush 12, 2) := by decide +kernel
theorem dX3_init_15 : decode cX3_init 15 = .ok (.newarray .int, 2) := by decide +kernel
theorem dX3_init_17 : decode cX3_init 17 = .ok (.putfield 15, 3) := by decide +kernel
theorem dX3_init_20 : decode cX3_init 20 = .ok (.aload_n 0, 1) := by decide +kernel
theorem dX3_init_21 : decode cX3_init 21 = .ok (.bipush 12, 2) := by decide +kernel
theorem dX3_init_23 : decode cX3_init 23 = .ok (.newarray .int, 2) := by decide +kernel
theorem dX3_init_25 : decode cX3_init 25 = .ok (.putfield 18, 3) := by decide +kernel
theorem dX3_init_28 : decode cX3_init 28 = .ok (.aload_n 0, 1) := by decide +kernel
theorem dX3_init_29 : decode cX3_init 29 = .ok (.new 21, 3) := by decide +kernel
theorem dX3_init_32 : decode cX3_init 32 = .ok (.dup, 1) := by decide +kernel
theorem dX3_init_33 : decode cX3_init 33 = .ok (.invokespecial 23, 3) := by decide +kernel
theorem dX3_init_36 : decode cX3_init 36 = .ok (.putfield 24, 3) := by decide +kernel
theorem dX3_init_39 : decode cX3_init 39 = .ok (.aload_n 0, 1) := by decide +kernel
theorem dX3_init_40 : decode cX3_init 40 = .ok (.new 21, 3) := by decide +kernel
theorem dX3_init_43 : decode cX3_init 43 = .ok (.dup, 1) := by decide +kernel
theorem dX3_init_44 : decode cX3_init 44 = .ok (.invokespecial 23, 3) := by decide +kernel
theorem dX3_init_47 : decode cX3_init 47 = .ok (.putfield 28, 3) := by decide +kernel
theorem dX3_init_50 : decode cX3_init 50 = .ok (.aload_n 0, 1) := by decide +kernel
theorem dX3_init_51 : decode cX3_init 51 = .ok (.aload_n 1, 1) := by decide +kernel
theorem dX3_init_52 : decode cX3_init 52 = .ok (.putfield 31, 3) := by decide +kernel
theorem dX3_init_55 : decode cX3_init 55 = .ok (.return_, 1) := by decide +kernel
theorem dX3_beginAnew_0 : decode cX3_beginAnew 0 = .ok (.aload_n 0, 1) := by decide +kernel
theorem dX3_beginAnew_1 : decode cX3_beginAnew 1 = .ok (.invokevirtual 35, 3) := by decide +kernel
theorem dX3_beginAnew_4 : decode cX3_beginAnew 4 = .ok (.aload_n 0, 1) := by decide +kernel
theorem dX3_beginAnew_5 : decode cX3_beginAnew 5 = .ok (.iconst 0, 1) := by decide +kernel
theorem dX3_beginAnew_6 : decode cX3_beginAnew 6 = .ok (.invokevirtual 38, 3) := by decide +kernel
theorem dX3_beginAnew_9 : decode cX3_beginAnew 9 = .ok (.return_, 1) := by decide +kernel
theorem dX3_copyFrom_0 : decode cX3_copyFrom 0 = .ok (.aload_n 1, 1) := by decide +kernel
theorem dX3_copyFrom_1 : decode cX3_copyFrom 1 = .ok (.getfield 9, 3) := by decide +kernel
theorem dX3_copyFrom_4 : decode cX3_copyFrom 4 = .ok (.aload_n 0, 1) := by decide +kernel
theorem dX3_copyFrom_5 : decode cX3_copyFrom 5 = .ok (.getfield 9, 3) := by decide +kernel
theorem dX3_copyFrom_8 : decode cX3_copyFrom 8 = .ok (.invokestatic 42, 3) := by decide +kernel
theorem dX3_copyFrom_11 : decode cX3_copyFrom 11 = .ok (.aload_n 1, 1) := by decide +kernel
theorem dX3_copyFrom_12 : decode cX3_copyFrom 12 = .ok (.getfield 15, 3) := by decide +kernel
theorem dX3_copyFrom_15 : decode cX3_copyFrom 15 = .ok (.aload_n 0, 1) := by decide +kernel
theorem dX3_copyFrom_16 : decode cX3_copyFrom 16 = .ok (.getfield 15, 3) := by decide +kernel
theorem dX3_copyFrom_19 : decode cX3_copyFrom 19 = .ok (.invokestatic 42, 3) := by decide +kernel
theorem dX3_copyFrom_22 : decode cX3_copyFrom 22 = .ok (.aload_n 1, 1) := by decide +kernel
theorem dX3_copyFrom_23 : decode cX3_copyFrom 23 = .ok (.getfield 18, 3) := by decide +kernel
theorem dX3_copyFrom_26 : decode cX3_copyFrom 26 = .ok (.aload_n 0, 1) := by decide +kernel
theorem dX3_copyFrom_27 : decode cX3_copyFrom 27 = .ok (.getfield 18, 3) := by decide +kernel
theorem dX3_copyFrom_30 : decode cX3_copyFrom 30 = .ok (.invokestatic 42, 3) := by decide +kernel
theorem dX3_copyFrom_33 : decode cX3_copyFrom 33 = .ok (.aload_n 0, 1) := by decide +kernel
theorem dX3_copyFrom_34 : decode cX3_copyFrom 34 = .ok (.aload_n 1, 1) := by decide +kernel
theorem dX3_copyFrom_35 : decode cX3_copyFrom 35 = .ok (.getfield 46, 3) := by decide +kernel
theorem dX3_copyFrom_38 : decode cX3_copyFrom 38 = .ok (.putfield 46, 3) := by decide +kernel
theorem dX3_copyFrom_41 : decode cX3_copyFrom 41 = .ok (.aload_n 0, 1) := by decide +kernel
theorem dX3_copyFrom_42 : decode cX3_copyFrom 42 = .ok (.getfield 24, 3) := by decide +kernel
theorem dX3_copyFrom_45 : decode cX3_copyFrom 45 = .ok (.aload_n 1, 1) := by decide +kernel
theorem dX3_copyFrom_46 : decode cX3_copyFrom 46 = .ok (.getfield 24, 3) := by decide +kernel
theorem dX3_copyFrom_49 : decode cX3_copyFrom 49 = .ok (.invokevirtual 50, 3) := by decide +kernel
theorem dX3_copyFrom_52 : decode cX3_copyFrom 52 = .ok (.aload_n 0, 1) := by decide +kernel
theorem dX3_copyFrom_53 : decode cX3_copyFrom 53 = .ok (.getfield 28, 3) := by decide +kernel
theorem dX3_copyFrom_56 : decode cX3_copyFrom 56 = .ok (.aload_n 1, 1) := by decide +kernel
theorem dX3_copyFrom_57 : decode cX3_copyFrom 57 = .ok (.getfield 28, 3) := by decide +kernel
theorem dX3_copyFrom_60 : decode cX3_copyFrom 60 = .ok (.invokevirtual 50, 3) := by decide +kernel
theorem dX3_copyFrom_63 : decode cX3_copyFrom 63 = .ok (.return_, 1) := by decide +kernel
theorem dX3_losePower_0 : decode cX3_losePower 0 = .ok (.aload_n 0, 1) := by decide +kernel
theorem dX3_losePower_1 : decode cX3_losePower 1 = .ok (.getfield 9, 3) := by decide +kernel
theorem dX3_losePower_4 : decode cX3_losePower 4 = .ok (.iconst 0, 1) := by decide +kernel
theorem dX3_losePower_5 : decode cX3_losePower 5 = .ok (.invokestatic 54, 3) := by decide +kernel
theorem dX3_losePower_8 : decode cX3_losePower 8 = .ok (.aload_n 0, 1) := by decide +kernel
theorem dX3_losePower_9 : decode cX3_losePower 9 = .ok (.getfield 15, 3) := by decide +kernel
theorem dX3_losePower_12 : decode cX3_losePower 12 = .ok (.iload_n 1, 1) := by decide +kernel
theorem dX3_losePower_13 : decode cX3_losePower 13 = .ok (.invokestatic 54, 3) := by decide +kernel
theorem dX3_losePower_16 : decode cX3_losePower 16 = .ok (.aload_n 0, 1) := by decide +kernel
theorem dX3_losePower_17 : decode cX3_losePower 17 = .ok (.getfield 28, 3) := by decide +kernel
theorem dX3_losePower_20 : decode cX3_losePower 20 = .ok (.invokevirtual 60, 3) := by decide +kernel
theorem dX3_losePower_23 : decode cX3_losePower 23 = .ok (.return_, 1) := by decide +kernel
theorem dX3_forgetLearned_0 : decode cX3_forgetLearned 0 = .ok (.aload_n 0, 1) := by decide +kernel
theorem dX3_forgetLearned_1 : decode cX3_forgetLearned 1 = .ok (.getfield 31, 3) := by decide +kernel
theorem dX3_forgetLearned_4 : decode cX3_forgetLearned 4 = .ok (.getfield 63, 3) := by decide +kernel
theorem dX3_forgetLearned_7 : decode cX3_forgetLearned 7 = .ok (.aload_n 0, 1) := by decide +kernel
theorem dX3_forgetLearned_8 : decode cX3_forgetLearned 8 = .ok (.getfield 18, 3) := by decide +kernel
theorem dX3_forgetLearned_11 : decode cX3_forgetLearned 11 = .ok (.invokestatic 42, 3) := by decide +kernel
theorem dX3_forgetLearned_14 : decode cX3_forgetLearned 14 = .ok (.aload_n 0, 1) := by decide +kernel
theorem dX3_forgetLearned_15 : decode cX3_forgetLearned 15 = .ok (.iconst 0, 1) := by decide +kernel
theorem dX3_forgetLearned_16 : decode cX3_forgetLearned 16 = .ok (.putfield 46, 3) := by decide +kernel
theorem dX3_forgetLearned_19 : decode cX3_forgetLearned 19 = .ok (.aload_n 0, 1) := by decide +kernel
theorem dX3_forgetLearned_20 : decode cX3_forgetLearned 20 = .ok (.getfield 24, 3) := by decide +kernel
theorem dX3_forgetLearned_23 : decode cX3_forgetLearned 23 = .ok (.invokevirtual 60, 3) := by decide +kernel
theorem dX3_forgetLearned_26 : decode cX3_forgetLearned 26 = .ok (.return_, 1) := by decide +kernel
theorem dX3_reservedFor_0 : decode cX3_reservedFor 0 = .ok (.aload_n 0, 1) := by decide +kernel
theorem dX3_reservedFor_1 : decode cX3_reservedFor 1 = .ok (.getfield 9, 3) := by decide +kernel
theorem dX3_reservedFor_4 : decode cX3_reservedFor 4 = .ok (.iload_n 1, 1) := by decide +kernel
theorem dX3_reservedFor_5 : decode cX3_reservedFor 5 = .ok (.iaload, 1) := by decide +kernel
theorem dX3_reservedFor_6 : decode cX3_reservedFor 6 = .ok (.iconst 2, 1) := by decide +kernel
theorem dX3_reservedFor_7 : decode cX3_reservedFor 7 = .ok (.if_icmp .ne 10, 3) := by decide +kernel
theorem dX3_reservedFor_10 : decode cX3_reservedFor 10 = .ok (.aload_n 0, 1) := by decide +kernel
theorem dX3_reservedFor_11 : decode cX3_reservedFor 11 = .ok (.getfield 18, 3) := by decide +kernel
theorem dX3_reservedFor_14 : decode cX3_reservedFor 14 = .ok (.iload_n 1, 1) := by decide +kernel
theorem dX3_reservedFor_15 : decode cX3_reservedFor 15 = .ok (.iaload, 1) := by decide +kernel
theorem dX3_reservedFor_16 : decode cX3_reservedFor 16 = .ok (.ireturn, 1) := by decide +kernel
theorem dX3_reservedFor_17 : decode cX3_reservedFor 17 = .ok (.aload_n 0, 1) := by decide +kernel
theorem dX3_reservedFor_18 : decode cX3_reservedFor 18 = .ok (.getfield 9, 3) := by decide +kernel
theorem dX3_reservedFor_21 : decode cX3_reservedFor 21 = .ok (.iload_n 1, 1) := by decide +kernel
theorem dX3_reservedFor_22 : decode cX3_reservedFor 22 = .ok (.iaload, 1) := by decide +kernel
theorem dX3_reservedFor_23 : decode cX3_reservedFor 23 = .ok (.iconst 3, 1) := by decide +kernel
theorem dX3_reservedFor_24 : decode cX3_reservedFor 24 = .ok (.if_icmp .ne 15, 3) := by decide +kernel
theorem dX3_reservedFor_27 : decode cX3_reservedFor 27 = .ok (.aload_n 0, 1) := by decide +kernel
theorem dX3_reservedFor_28 : decode cX3_reservedFor 28 = .ok (.getfield 31, 3) := by decide +kernel
theorem dX3_reservedFor_31 : decode cX3_reservedFor 31 = .ok (.getfield 68, 3) := by decide +kernel
theorem dX3_reservedFor_34 : decode cX3_reservedFor 34 = .ok (.iload_n 1, 1) := by decide +kernel
theorem dX3_reservedFor_35 : decode cX3_reservedFor 35 = .ok (.iaload, 1) := by decide +kernel
theorem dX3_reservedFor_36 : decode cX3_reservedFor 36 = .ok (.goto 4, 3) := by decide +kernel
theorem dX3_reservedFor_39 : decode cX3_reservedFor 39 = .ok (.iconst 0, 1) := by decide +kernel
theorem dX3_reservedFor_40 : decode cX3_reservedFor 40 = .ok (.ireturn, 1) := by decide +kernel
theorem dX3_reservedForAll_0 : decode cX3_reservedForAll 0 = .ok (.iconst 0, 1) := by decide +kernel
theorem dX3_reservedForAll_1 : decode cX3_reservedForAll 1 = .ok (.istore_n 1, 1) := by decide +kernel
theorem dX3_reservedForAll_2 : decode cX3_reservedForAll 2 = .ok (.iconst 0, 1) := by decide +kernel
theorem dX3_reservedForAll_3 : decode cX3_reservedForAll 3 = .ok (.istore_n 2, 1) := by decide +kernel
theorem dX3_reservedForAll_4 : decode cX3_reservedForAll 4 = .ok (.iload_n 2, 1) := by decide +kernel
theorem dX3_reservedForAll_5 : decode cX3_reservedForAll 5 = .ok (.aload_n 0, 1) := by decide +kernel
theorem dX3_reservedForAll_6 : decode cX3_reservedForAll 6 = .ok (.getfield 31, 3) := by decide +kernel
theorem dX3_reservedForAll_9 : decode cX3_reservedForAll 9 = .ok (.getfield 71, 3) := by decide +kernel
theorem dX3_reservedForAll_12 : decode cX3_reservedForAll 12 = .ok (.if_icmp .ge 17, 3) := by decide +kernel
theorem dX3_reservedForAll_15 : decode cX3_reservedForAll 15 = .ok (.iload_n 1, 1) := by decide +kernel
theorem dX3_reservedForAll_16 : decode cX3_reservedForAll 16 = .ok (.aload_n 0, 1) := by decide +kernel
theorem dX3_reservedForAll_17 : decode cX3_reservedForAll 17 = .ok (.iload_n 2, 1) := by decide +kernel
theorem dX3_reservedForAll_18 : decode cX3_reservedForAll 18 = .ok (.invokevirtual 74, 3) := by decide +kernel
theorem dX3_reservedForAll_21 : decode cX3_reservedForAll 21 = .ok (.iadd, 1) := by decide +kernel
theorem dX3_reservedForAll_22 : decode cX3_reservedForAll 22 = .ok (.istore_n 1, 1) := by decide +kernel
theorem dX3_reservedForAll_23 : decode cX3_reservedForAll 23 = .ok (.iinc 2 1, 3) := by decide +kernel
theorem dX3_reservedForAll_26 : decode cX3_reservedForAll 26 = .ok (.goto (-22), 3) := by decide +kernel
theorem dX3_reservedForAll_29 : decode cX3_reservedForAll 29 = .ok (.iload_n 1, 1) := by decide +kernel
theorem dX3_reservedForAll_30 : decode cX3_reservedForAll 30 = .ok (.ireturn, 1) := by decide +kernel
theorem dX3_markedWith_0 : decode cX3_markedWith 0 = .ok (.iconst 0, 1) := by decide +kernel
theorem dX3_markedWith_1 : decode cX3_markedWith 1 = .ok (.istore_n 2, 1) := by decide +kernel
theorem dX3_markedWith_2 : decode cX3_markedWith 2 = .ok (.iconst 0, 1) := by decide +kernel
theorem dX3_markedWith_3 : decode cX3_markedWith 3 = .ok (.istore_n 3, 1) := by decide +kernel
theorem dX3_markedWith_4 : decode cX3_markedWith 4 = .ok (.iload_n 3, 1) := by decide +kernel
theorem dX3_markedWith_5 : decode cX3_markedWith 5 = .ok (.aload_n 0, 1) := by decide +kernel
theorem dX3_markedWith_6 : decode cX3_markedWith 6 = .ok (.getfield 31, 3) := by decide +kernel
theorem dX3_markedWith_9 : decode cX3_markedWith 9 = .ok (.getfield 71, 3) := by decide +kernel
theorem dX3_markedWith_12 : decode cX3_markedWith 12 = .ok (.if_icmp .ge 25, 3) := by decide +kernel
theorem dX3_markedWith_15 : decode cX3_markedWith 15 = .ok (.aload_n 0, 1) := by decide +kernel
theorem dX3_markedWith_16 : decode cX3_markedWith 16 = .ok (.getfield 9, 3) := by decide +kernel
theorem dX3_markedWith_19 : decode cX3_markedWith 19 = .ok (.iload_n 3, 1) := by decide +kernel
theorem dX3_markedWith_20 : decode cX3_markedWith 20 = .ok (.iaload, 1) := by decide +kernel
theorem dX3_markedWith_21 : decode cX3_markedWith 21 = .ok (.iload_n 1, 1) := by decide +kernel
theorem dX3_markedWith_22 : decode cX3_markedWith 22 = .ok (.if_icmp .ne 9, 3) := by decide +kernel
theorem dX3_markedWith_25 : decode cX3_markedWith 25 = .ok (.iload_n 2, 1) := by decide +kernel
theorem dX3_markedWith_26 : decode cX3_markedWith 26 = .ok (.iconst 1, 1) := by decide +kernel
theorem dX3_markedWith_27 : decode cX3_markedWith 27 = .ok (.iload_n 3, 1) := by decide +kernel
theorem dX3_markedWith_28 : decode cX3_markedWith 28 = .ok (.ishl, 1) := by decide +kernel
theorem dX3_markedWith_29 : decode cX3_markedWith 29 = .ok (.ior, 1) := by decide +kernel
theorem dX3_markedWith_30 : decode cX3_markedWith 30 = .ok (.istore_n 2, 1) := by decide +kernel
theorem dX3_markedWith_31 : decode cX3_markedWith 31 = .ok (.iinc 3 1, 3) := by decide +kernel
theorem dX3_markedWith_34 : decode cX3_markedWith 34 = .ok (.goto (-30), 3) := by decide +kernel
theorem dX3_markedWith_37 : decode cX3_markedWith 37 = .ok (.iload_n 2, 1) := by decide +kernel
theorem dX3_markedWith_38 : decode cX3_markedWith 38 = .ok (.ireturn, 1) := by decide +kernel
theorem dX3_setMark_0 : decode cX3_setMark 0 = .ok (.aload_n 0, 1) := by decide +kernel
theorem dX3_setMark_1 : decode cX3_setMark 1 = .ok (.getfield 9, 3) := by decide +kernel
theorem dX3_setMark_4 : decode cX3_setMark 4 = .ok (.iload_n 1, 1) := by decide +kernel
theorem dX3_setMark_5 : decode cX3_setMark 5 = .ok (.iload_n 2, 1) := by decide +kernel
theorem dX3_setMark_6 : decode cX3_setMark 6 = .ok (.iastore, 1) := by decide +kernel
theorem dX3_setMark_7 : decode cX3_setMark 7 = .ok (.aload_n 0, 1) := by decide +kernel
theorem dX3_setMark_8 : decode cX3_setMark 8 = .ok (.getfield 15, 3) := by decide +kernel
theorem dX3_setMark_11 : decode cX3_setMark 11 = .ok (.iload_n 1, 1) := by decide +kernel
theorem dX3_setMark_12 : decode cX3_setMark 12 = .ok (.iload_n 3, 1) := by decide +kernel
theorem dX3_setMark_13 : decode cX3_setMark 13 = .ok (.iastore, 1) := by decide +kernel
theorem dX3_setMark_14 : decode cX3_setMark 14 = .ok (.return_, 1) := by decide +kernel
theorem dX3_hearAsk_0 : decode cX3_hearAsk 0 = .ok (.aload_n 0, 1) := by decide +kernel
theorem dX3_hearAsk_1 : decode cX3_hearAsk 1 = .ok (.getfield 9, 3) := by decide +kernel
theorem dX3_hearAsk_4 : decode cX3_hearAsk 4 = .ok (.iload_n 1, 1) := by decide +kernel
theorem dX3_hearAsk_5 : decode cX3_hearAsk 5 = .ok (.iaload, 1) := by decide +kernel
theorem dX3_hearAsk_6 : decode cX3_hearAsk 6 = .ok (.ifCond .eq 13, 3) := by decide +kernel
theorem dX3_hearAsk_9 : decode cX3_hearAsk 9 = .ok (.aload_n 0, 1) := by decide +kernel
theorem dX3_hearAsk_10 : decode cX3_hearAsk 10 = .ok (.getfield 9, 3) := by decide +kernel
theorem dX3_hearAsk_13 : decode cX3_hearAsk 13 = .ok (.iload_n 1, 1) := by decide +kernel
theorem dX3_hearAsk_14 : decode cX3_hearAsk 14 = .ok (.iaload, 1) := by decide +kernel
theorem dX3_hearAsk_15 : decode cX3_hearAsk 15 = .ok (.iconst 3, 1) := by decide +kernel
theorem dX3_hearAsk_16 : decode cX3_hearAsk 16 = .ok (.if_icmp .ne 10, 3) := by decide +kernel
theorem dX3_hearAsk_19 : decode cX3_hearAsk 19 = .ok (.aload_n 0, 1) := by decide +kernel
theorem dX3_hearAsk_20 : decode cX3_hearAsk 20 = .ok (.iload_n 1, 1) := by decide +kernel
theorem dX3_hearAsk_21 : decode cX3_hearAsk 21 = .ok (.iconst 1, 1) := by decide +kernel
theorem dX3_hearAsk_22 : decode cX3_hearAsk 22 = .ok (.iload_n 2, 1) := by decide +kernel
theorem dX3_hearAsk_23 : decode cX3_hearAsk 23 = .ok (.invokevirtual 78, 3) := by decide +kernel
theorem dX3_hearAsk_26 : decode cX3_hearAsk 26 = .ok (.return_, 1) := by decide +kernel
theorem dX3_hearRuns_0 : decode cX3_hearRuns 0 = .ok (.aload_n 0, 1) := by decide +kernel
theorem dX3_hearRuns_1 : decode cX3_hearRuns 1 = .ok (.iload_n 1, 1) := by decide +kernel
theorem dX3_hearRuns_2 : decode cX3_hearRuns 2 = .ok (.iconst 3, 1) := by decide +kernel
theorem dX3_hearRuns_3 : decode cX3_hearRuns 3 = .ok (.iload_n 2, 1) := by decide +kernel
theorem dX3_hearRuns_4 : decode cX3_hearRuns 4 = .ok (.invokevirtual 78, 3) := by decide +kernel
theorem dX3_hearRuns_7 : decode cX3_hearRuns 7 = .ok (.aload_n 0, 1) := by decide +kernel
theorem dX3_hearRuns_8 : decode cX3_hearRuns 8 = .ok (.getfield 18, 3) := by decide +kernel
theorem dX3_hearRuns_11 : decode cX3_hearRuns 11 = .ok (.iload_n 1, 1) := by decide +kernel
theorem dX3_hearRuns_12 : decode cX3_hearRuns 12 = .ok (.aload_n 0, 1) := by decide +kernel
theorem dX3_hearRuns_13 : decode cX3_hearRuns 13 = .ok (.getfield 31, 3) := by decide +kernel
theorem dX3_hearRuns_16 : decode cX3_hearRuns 16 = .ok (.getfield 82, 3) := by decide +kernel
theorem dX3_hearRuns_19 : decode cX3_hearRuns 19 = .ok (.iload_n 1, 1) := by decide +kernel
theorem dX3_hearRuns_20 : decode cX3_hearRuns 20 = .ok (.iaload, 1) := by decide +kernel
theorem dX3_hearRuns_21 : decode cX3_hearRuns 21 = .ok (.iastore, 1) := by decide +kernel
theorem dX3_hearRuns_22 : decode cX3_hearRuns 22 = .ok (.aload_n 0, 1) := by decide +kernel
theorem dX3_hearRuns_23 : decode cX3_hearRuns 23 = .ok (.dup, 1) := by decide +kernel
theorem dX3_hearRuns_24 : decode cX3_hearRuns 24 = .ok (.getfield 46, 3) := by decide +kernel
theorem dX3_hearRuns_27 : decode cX3_hearRuns 27 = .ok (.iconst 1, 1) := by decide +kernel
theorem dX3_hearRuns_28 : decode cX3_hearRuns 28 = .ok (.iload_n 1, 1) := by decide +kernel
theorem dX3_hearRuns_29 : decode cX3_hearRuns 29 = .ok (.ishl, 1) := by decide +kernel
theorem dX3_hearRuns_30 : decode cX3_hearRuns 30 = .ok (.ior, 1) := by decide +kernel
theorem dX3_hearRuns_31 : decode cX3_hearRuns 31 = .ok (.putfield 46, 3) := by decide +kernel
theorem dX3_hearRuns_34 : decode cX3_hearRuns 34 = .ok (.aload_n 0, 1) := by decide +kernel
theorem dX3_hearRuns_35 : decode cX3_hearRuns 35 = .ok (.getfield 28, 3) := by decide +kernel
theorem dX3_hearRuns_38 : decode cX3_hearRuns 38 = .ok (.iload_n 1, 1) := by decide +kernel
theorem dX3_hearRuns_39 : decode cX3_hearRuns 39 = .ok (.invokevirtual 85, 3) := by decide +kernel
theorem dX3_hearRuns_42 : decode cX3_hearRuns 42 = .ok (.return_, 1) := by decide +kernel
theorem dX3_hearState_0 : decode cX3_hearState 0 = .ok (.aload_n 0, 1) := by decide +kernel
theorem dX3_hearState_1 : decode cX3_hearState 1 = .ok (.getfield 9, 3) := by decide +kernel
theorem dX3_hearState_4 : decode cX3_hearState 4 = .ok (.iload_n 1, 1) := by decide +kernel
theorem dX3_hearState_5 : decode cX3_hearState 5 = .ok (.iaload, 1) := by decide +kernel
theorem dX3_hearState_6 : decode cX3_hearState 6 = .ok (.iconst 2, 1) := by decide +kernel
theorem dX3_hearState_7 : decode cX3_hearState 7 = .ok (.if_icmp .ne 16, 3) := by decide +kernel
theorem dX3_hearState_10 : decode cX3_hearState 10 = .ok (.aload_n 0, 1) := by decide +kernel
theorem dX3_hearState_11 : decode cX3_hearState 11 = .ok (.getfield 15, 3) := by decide +kernel
theorem dX3_hearState_14 : decode cX3_hearState 14 = .ok (.iload_n 1, 1) := by decide +kernel
theorem dX3_hearState_15 : decode cX3_hearState 15 = .ok (.iaload, 1) := by decide +kernel
theorem dX3_hearState_16 : decode cX3_hearState 16 = .ok (.iload_n 3, 1) := by decide +kernel
theorem dX3_hearState_17 : decode cX3_hearState 17 = .ok (.iconst 1, 1) := by decide +kernel
theorem dX3_hearState_18 : decode cX3_hearState 18 = .ok (.isub, 1) := by decide +kernel
theorem dX3_hearState_19 : decode cX3_hearState 19 = .ok (.if_icmp .ne 4, 3) := by decide +kernel
theorem dX3_hearState_22 : decode cX3_hearState 22 = .ok (.return_, 1) := by decide +kernel
theorem dX3_hearState_23 : decode cX3_hearState 23 = .ok (.iload_n 2, 1) := by decide +kernel
theorem dX3_hearState_24 : decode cX3_hearState 24 = .ok (.ifCond .ne 13, 3) := by decide +kernel
theorem dX3_hearState_27 : decode cX3_hearState 27 = .ok (.aload_n 0, 1) := by decide +kernel
theorem dX3_hearState_28 : decode cX3_hearState 28 = .ok (.iload_n 1, 1) := by decide +kernel
theorem dX3_hearState_29 : decode cX3_hearState 29 = .ok (.iconst 0, 1) := by decide +kernel
theorem dX3_hearState_30 : decode cX3_hearState 30 = .ok (.iload_n 3, 1) := by decide +kernel
theorem dX3_hearState_31 : decode cX3_hearState 31 = .ok (.invokevirtual 78, 3) := by decide +kernel
theorem dX3_hearState_34 : decode cX3_hearState 34 = .ok (.goto 39, 3) := by decide +kernel
theorem dX3_hearState_37 : decode cX3_hearState 37 = .ok (.iload_n 2, 1) := by decide +kernel
theorem dX3_hearState_38 : decode cX3_hearState 38 = .ok (.iconst 1, 1) := by decide +kernel
theorem dX3_hearState_39 : decode cX3_hearState 39 = .ok (.if_icmp .ne 13, 3) := by decide +kernel
theorem dX3_hearState_42 : decode cX3_hearState 42 = .ok (.aload_n 0, 1) := by decide +kernel
theorem dX3_hearState_43 : decode cX3_hearState 43 = .ok (.iload_n 1, 1) := by decide +kernel
theorem dX3_hearState_44 : decode cX3_hearState 44 = .ok (.iconst 1, 1) := by decide +kernel
theorem dX3_hearState_45 : decode cX3_hearState 45 = .ok (.iload_n 3, 1) := by decide +kernel
theorem dX3_hearState_46 : decode cX3_hearState 46 = .ok (.invokevirtual 78, 3) := by decide +kernel
theorem dX3_hearState_49 : decode cX3_hearState 49 = .ok (.goto 24, 3) := by decide +kernel
theorem dX3_hearState_52 : decode cX3_hearState 52 = .ok (.iload_n 2, 1) := by decide +kernel
theorem dX3_hearState_53 : decode cX3_hearState 53 = .ok (.iconst 3, 1) := by decide +kernel
theorem dX3_hearState_54 : decode cX3_hearState 54 = .ok (.if_icmp .ne 12, 3) := by decide +kernel
theorem dX3_hearState_57 : decode cX3_hearState 57 = .ok (.aload_n 0, 1) := by decide +kernel
theorem dX3_hearState_58 : decode cX3_hearState 58 = .ok (.iload_n 1, 1) := by decide +kernel
theorem dX3_hearState_59 : decode cX3_hearState 59 = .ok (.iload_n 3, 1) := by decide +kernel
theorem dX3_hearState_60 : decode cX3_hearState 60 = .ok (.invokevirtual 88, 3) := by decide +kernel
theorem dX3_hearState_63 : decode cX3_hearState 63 = .ok (.goto 10, 3) := by decide +kernel
theorem dX3_hearState_66 : decode cX3_hearState 66 = .ok (.aload_n 0, 1) := by decide +kernel
theorem dX3_hearState_67 : decode cX3_hearState 67 = .ok (.getfield 15, 3) := by decide +kernel
theorem dX3_hearState_70 : decode cX3_hearState 70 = .ok (.iload_n 1, 1) := by decide +kernel
theorem dX3_hearState_71 : decode cX3_hearState 71 = .ok (.iload_n 3, 1) := by decide +kernel
theorem dX3_hearState_72 : decode cX3_hearState 72 = .ok (.iastore, 1) := by decide +kernel
theorem dX3_hearState_73 : decode cX3_hearState 73 = .ok (.return_, 1) := by decide +kernel
theorem dX3_isDueToPoll_0 : decode cX3_isDueToPoll 0 = .ok (.iload_n 2, 1) := by decide +kernel
theorem dX3_isDueToPoll_1 : decode cX3_isDueToPoll 1 = .ok (.aload_n 0, 1) := by decide +kernel
theorem dX3_isDueToPoll_2 : decode cX3_isDueToPoll 2 = .ok (.getfield 15, 3) := by decide +kernel
theorem dX3_isDueToPoll_5 : decode cX3_isDueToPoll 5 = .ok (.iload_n 1, 1) := by decide +kernel
theorem dX3_isDueToPoll_6 : decode cX3_isDueToPoll 6 = .ok (.iaload, 1) := by decide +kernel
theorem dX3_isDueToPoll_7 : decode cX3_isDueToPoll 7 = .ok (.isub, 1) := by decide +kernel
theorem dX3_isDueToPoll_8 : decode cX3_isDueToPoll 8 = .ok (.istore_n 3, 1) := by decide +kernel
theorem dX3_isDueToPoll_9 : decode cX3_isDueToPoll 9 = .ok (.aload_n 0, 1) := by decide +kernel
theorem dX3_isDueToPoll_10 : decode cX3_isDueToPoll 10 = .ok (.getfield 9, 3) := by decide +kernel
theorem dX3_isDueToPoll_13 : decode cX3_isDueToPoll 13 = .ok (.iload_n 1, 1) := by decide +kernel
theorem dX3_isDueToPoll_14 : decode cX3_isDueToPoll 14 = .ok (.iaload, 1) := by decide +kernel
theorem dX3_isDueToPoll_15 : decode cX3_isDueToPoll 15 = .ok (.iconst 2, 1) := by decide +kernel
theorem dX3_isDueToPoll_16 : decode cX3_isDueToPoll 16 = .ok (.if_icmp .ne 14, 3) := by decide +kernel
theorem dX3_isDueToPoll_19 : decode cX3_isDueToPoll 19 = .ok (.iload_n 3, 1) := by decide +kernel
theorem dX3_isDueToPoll_20 : decode cX3_isDueToPoll 20 = .ok (.aload_n 0, 1) := by decide +kernel
theorem dX3_isDueToPoll_21 : decode cX3_isDueToPoll 21 = .ok (.getfield 31, 3) := by decide +kernel
theorem dX3_isDueToPoll_24 : decode cX3_isDueToPoll 24 = .ok (.getfield 92, 3) := by decide +kernel
theorem dX3_isDueToPoll_27 : decode cX3_isDueToPoll 27 = .ok (.if_icmp .ge 26, 3) := by decide +kernel
theorem dX3_isDueToPoll_30 : decode cX3_isDueToPoll 30 = .ok (.aload_n 0, 1) := by decide +kernel
theorem dX3_isDueToPoll_31 : decode cX3_isDueToPoll 31 = .ok (.getfield 9, 3) := by decide +kernel
theorem dX3_isDueToPoll_34 : decode cX3_isDueToPoll 34 = .ok (.iload_n 1, 1) := by decide +kernel
theorem dX3_isDueToPoll_35 : decode cX3_isDueToPoll 35 = .ok (.iaload, 1) := by decide +kernel
theorem dX3_isDueToPoll_36 : decode cX3_isDueToPoll 36 = .ok (.iconst 3, 1) := by decide +kernel
theorem dX3_isDueToPoll_37 : decode cX3_isDueToPoll 37 = .ok (.if_icmp .ne 20, 3) := by decide +kernel
theorem dX3_isDueToPoll_40 : decode cX3_isDueToPoll 40 = .ok (.iload_n 3, 1) := by decide +kernel
theorem dX3_isDueToPoll_41 : decode cX3_isDueToPoll 41 = .ok (.iconst 5, 1) := by decide +kernel
theorem dX3_isDueToPoll_42 : decode cX3_isDueToPoll 42 = .ok (.aload_n 0, 1) := by decide +kernel
theorem dX3_isDueToPoll_43 : decode cX3_isDueToPoll 43 = .ok (.getfield 31, 3) := by decide +kernel
theorem dX3_isDueToPoll_46 : decode cX3_isDueToPoll 46 = .ok (.getfield 92, 3) := by decide +kernel
theorem dX3_isDueToPoll_49 : decode cX3_isDueToPoll 49 = .ok (.imul, 1) := by decide +kernel
theorem dX3_isDueToPoll_50 : decode cX3_isDueToPoll 50 = .ok (.if_icmp .lt 7, 3) := by decide +kernel
theorem dX3_isDueToPoll_53 : decode cX3_isDueToPoll 53 = .ok (.iconst 1, 1) := by decide +kernel
theorem dX3_isDueToPoll_54 : decode cX3_isDueToPoll 54 = .ok (.goto 4, 3) := by decide +kernel
theorem dX3_isDueToPoll_57 : decode cX3_isDueToPoll 57 = .ok (.iconst 0, 1) := by decide +kernel
theorem dX3_isDueToPoll_58 : decode cX3_isDueToPoll 58 = .ok (.ireturn, 1) := by decide +kernel
theorem dX3_learnOrder_0 : decode cX3_learnOrder 0 = .ok (.iload_n 1, 1) := by decide +kernel
theorem dX3_learnOrder_1 : decode cX3_learnOrder 1 = .ok (.ifCond .eq 26, 3) := by decide +kernel
theorem dX3_learnOrder_4 : decode cX3_learnOrder 4 = .ok (.iload_n 1, 1) := by decide +kernel
theorem dX3_learnOrder_5 : decode cX3_learnOrder 5 = .ok (.aload_n 0, 1) := by decide +kernel
theorem dX3_learnOrder_6 : decode cX3_learnOrder 6 = .ok (.iconst 3, 1) := by decide +kernel
theorem dX3_learnOrder_7 : decode cX3_learnOrder 7 = .ok (.invokevirtual 95, 3) := by decide +kernel
theorem dX3_learnOrder_10 : decode cX3_learnOrder 10 = .ok (.iconst (-1), 1) := by decide +kernel
theorem dX3_learnOrder_11 : decode cX3_learnOrder 11 = .ok (.ixor, 1) := by decide +kernel
theorem dX3_learnOrder_12 : decode cX3_learnOrder 12 = .ok (.iand, 1) := by decide +kernel
theorem dX3_learnOrder_13 : decode cX3_learnOrder 13 = .ok (.ifCond .ne 14, 3) := by decide +kernel
theorem dX3_learnOrder_16 : decode cX3_learnOrder 16 = .ok (.aload_n 0, 1) := by decide +kernel
theorem dX3_learnOrder_17 : decode cX3_learnOrder 17 = .ok (.getfield 24, 3) := by decide +kernel
theorem dX3_learnOrder_20 : decode cX3_learnOrder 20 = .ok (.aload_n 0, 1) := by decide +kernel
theorem dX3_learnOrder_21 : decode cX3_learnOrder 21 = .ok (.getfield 28, 3) := by decide +kernel
theorem dX3_learnOrder_24 : decode cX3_learnOrder 24 = .ok (.invokevirtual 50, 3) := by decide +kernel
theorem dX3_learnOrder_27 : decode cX3_learnOrder 27 = .ok (.return_, 1) := by decide +kernel
theorem dX4_init_0 : decode cX4_init 0 = .ok (.aload_n 0, 1) := by decide +kernel
theorem dX4_init_1 : decode cX4_init 1 = .ok (.invokespecial 3, 3) := by decide +kernel
theorem dX4_init_4 : decode cX4_init 4 = .ok (.aload_n 0, 1) := by decide +kernel
theorem dX4_init_5 : decode cX4_init 5 = .ok (.new 9, 3) := by decide +kernel
theorem dX4_init_8 : decode cX4_init 8 = .ok (.dup, 1) := by decide +kernel
theorem dX4_init_9 : decode cX4_init 9 = .ok (.invokespecial 11, 3) := by decide +kernel
theorem dX4_init_12 : decode cX4_init 12 = .ok (.putfield 12, 3) := by decide +kernel
theorem dX4_init_15 : decode cX4_init 15 = .ok (.aload_n 0, 1) := by decide +kernel
theorem dX4_init_16 : decode cX4_init 16 = .ok (.iconst (-1), 1) := by decide +kernel
theorem dX4_init_17 : decode cX4_init 17 = .ok (.putfield 18, 3) := by decide +kernel
theorem dX4_init_20 : decode cX4_init 20 = .ok (.aload_n 0, 1) := by decide +kernel
theorem dX4_init_21 : decode cX4_init 21 = .ok (.aload_n 1, 1) := by decide +kernel
theorem dX4_init_22 : decode cX4_init 22 = .ok (.putfield 22, 3) := by decide +kernel
theorem dX4_init_25 : decode cX4_init 25 = .ok (.aload_n 0, 1) := by decide +kernel
theorem dX4_init_26 : decode cX4_init 26 = .ok (.new 26, 3) := by decide +kernel
theorem dX4_init_29 : decode cX4_init 29 = .ok (.dup, 1) := by decide +kernel
theorem dX4_init_30 : decode cX4_init 30 = .ok (.aload_n 1, 1) := by decide +kernel
theorem dX4_init_31 : decode cX4_init 31 = .ok (.invokespecial 28, 3) := by decide +kernel
theorem dX4_init_34 : decode cX4_init 34 = .ok (.putfield 31, 3) := by decide +kernel
theorem dX4_init_37 : decode cX4_init 37 = .ok (.return_, 1) := by decide +kernel
theorem dX4_readText_0 : decode cX4_readText 0 = .ok (.aload_n 0, 1) := by decide +kernel
theorem dX4_readText_1 : decode cX4_readText 1 = .ok (.iconst 0, 1) := by decide +kernel
theorem dX4_readText_2 : decode cX4_readText 2 = .ok (.putfield 35, 3) := by decide +kernel
theorem dX4_readText_5 : decode cX4_readText 5 = .ok (.aload_n 0, 1) := by decide +kernel
theorem dX4_readText_6 : decode cX4_readText 6 = .ok (.iconst (-1), 1) := by decide +kernel
theorem dX4_readText_7 : decode cX4_readText 7 = .ok (.putfield 18, 3) := by decide +kernel
theorem dX4_readText_10 : decode cX4_readText 10 = .ok (.aload_n 0, 1) := by decide +kernel
theorem dX4_readText_11 : decode cX4_readText 11 = .ok (.iconst 0, 1) := by decide +kernel
theorem dX4_readText_12 : decode cX4_readText 12 = .ok (.putfield 38, 3) := by decide +kernel
theorem dX4_readText_15 : decode cX4_readText 15 = .ok (.aload_n 0, 1) := by decide +kernel
theorem dX4_readText_16 : decode cX4_readText 16 = .ok (.getfield 12, 3) := by decide +kernel
theorem dX4_readText_19 : decode cX4_readText 19 = .ok (.invokevirtual 41, 3) := by decide +kernel
theorem dX4_readText_22 : decode cX4_readText 22 = .ok (.aload_n 0, 1) := by decide +kernel
theorem dX4_readText_23 : decode cX4_readText 23 = .ok (.getfield 31, 3) := by decide +kernel
theorem dX4_readText_26 : decode cX4_readText 26 = .ok (.invokevirtual 44, 3) := by decide +kernel
theorem dX4_readText_29 : decode cX4_readText 29 = .ok (.aload_n 0, 1) := by decide +kernel
theorem dX4_readText_30 : decode cX4_readText 30 = .ok (.invokevirtual 47, 3) := by decide +kernel
theorem dX4_readText_33 : decode cX4_readText 33 = .ok (.iconst 1, 1) := by decide +kernel
theorem dX4_readText_34 : decode cX4_readText 34 = .ok (.istore_n 1, 1) := by decide +kernel
theorem dX4_readText_35 : decode cX4_readText 35 = .ok (.iconst 1, 1) := by decide +kernel
theorem dX4_readText_36 : decode cX4_readText 36 = .ok (.istore_n 2, 1) := by decide +kernel
theorem dX4_readText_37 : decode cX4_readText 37 = .ok (.iconst 0, 1) := by decide +kernel
theorem dX4_readText_38 : decode cX4_readText 38 = .ok (.istore_n 3, 1) := by decide +kernel
theorem dX4_readText_39 : decode cX4_readText 39 = .ok (.iload_n 3, 1) := by decide +kernel
theorem dX4_readText_40 : decode cX4_readText 40 = .ok (.sipush 900, 3) := by decide +kernel
theorem dX4_readText_43 : decode cX4_readText 43 = .ok (.if_icmp .ge 86, 3) := by decide +kernel
theorem dX4_readText_46 : decode cX4_readText 46 = .ok (.aload_n 0, 1) := by decide +kernel
theorem dX4_readText_47 : decode cX4_readText 47 = .ok (.getfield 35, 3) := by decide +kernel
theorem dX4_readText_50 : decode cX4_readText 50 = .ok (.ifCond .ne 79, 3) := by decide +kernel
theorem dX4_readText_53 : decode cX4_readText 53 = .ok (.aload_n 0, 1) := by decide +kernel
theorem dX4_readText_54 : decode cX4_readText 54 = .ok (.getfield 31, 3) := by decide +kernel
theorem dX4_readText_57 : decode cX4_readText 57 = .ok (.getfield 50, 3) := by decide +kernel
theorem dX4_readText_60 : decode cX4_readText 60 = .ok (.ifCond .eq 69, 3) := by decide +kernel
theorem dX4_readText_63 : decode cX4_readText 63 = .ok (.iload_n 1, 1) := by decide +kernel
theorem dX4_readText_64 : decode cX4_readText 64 = .ok (.ifCond .eq 22, 3) := by decide +kernel
theorem dX4_readText_67 : decode cX4_readText 67 = .ok (.aload_n 0, 1) := by decide +kernel
theorem dX4_readText_68 : decode cX4_readText 68 = .ok (.getfield 31, 3) := by decide +kernel
theorem dX4_readText_71 : decode cX4_readText 71 = .ok (.ldc 53, 2) := by decide +kernel
theorem dX4_readText_73 : decode cX4_readText 73 = .ok (.invokevirtual 55, 3) := by decide +kernel
theorem dX4_readText_76 : decode cX4_readText 76 = .ok (.ifCond .eq 10, 3) := by decide +kernel
theorem dX4_readText_79 : decode cX4_readText 79 = .ok (.aload_n 0, 1) := by decide +kernel
theorem dX4_readText_80 : decode cX4_readText 80 = .ok (.invokevirtual 59, 3) := by decide +kernel
theorem dX4_readText_83 : decode cX4_readText 83 = .ok (.goto 36, 3) := by decide +kernel
theorem dX4_readText_86 : decode cX4_readText 86 = .ok (.iload_n 2, 1) := by decide +kernel
theorem dX4_readText_87 : decode cX4_readText 87 = .ok (.ifCond .eq 24, 3) := by decide +kernel
theorem dX4_readText_90 : decode cX4_readText 90 = .ok (.aload_n 0, 1) := by decide +kernel
theorem dX4_readText_91 : decode cX4_readText 91 = .ok (.getfield 31, 3) := by decide +kernel
theorem dX4_readText_94 : decode cX4_readText 94 = .ok (.ldc 62, 2) := by decide +kernel
theorem dX4_readText_96 : decode cX4_readText 96 = .ok (.invokevirtual 55, 3) := by decide +kernel
theorem dX4_readText_99 : decode cX4_readText 99 = .ok (.ifCond .eq 12, 3) := by decide +kernel
theorem dX4_readText_102 : decode cX4_readText 102 = .ok (.iconst 0, 1) := by decide +kernel
theorem dX4_readText_103 : decode cX4_readText 103 = .ok (.istore_n 1, 1) := by decide +kernel
theorem dX4_readText_104 : decode cX4_readText 104 = .ok (.aload_n 0, 1) := by decide +kernel
theorem dX4_readText_105 : decode cX4_readText 105 = .ok (.invokevirtual 64, 3) := by decide +kernel
theorem dX4_readText_108 : decode cX4_readText 108 = .ok (.goto 11, 3) := by decide +kernel
theorem dX4_readText_111 : decode cX4_readText 111 = .ok (.iconst 0, 1) := by decide +kernel
theorem dX4_readText_112 : decode cX4_readText 112 = .ok (.istore_n 1, 1) := by decide +kernel
theorem dX4_readText_113 : decode cX4_readText 113 = .ok (.iconst 0, 1) := by decide +kernel
theorem dX4_readText_114 : decode cX4_readText 114 = .ok (.istore_n 2, 1) := by decide +kernel
theorem dX4_readText_115 : decode cX4_readText 115 = .ok (.aload_n 0, 1) := by decide +kernel
theorem dX4_readText_116 : decode cX4_readText 116 = .ok (.invokevirtual 67, 3) := by decide +kernel
theorem dX4_readText_119 : decode cX4_readText 119 = .ok (.aload_n 0, 1) := by decide +kernel
theorem dX4_readText_120 : decode cX4_readText 120 = .ok (.invokevirtual 70, 3) := by decide +kernel
theorem dX4_readText_123 : decode cX4_readText 123 = .ok (.iinc 3 1, 3) := by decide +kernel
theorem dX4_readText_126 : decode cX4_readText 126 = .ok (.goto (-87), 3) := by decide +kernel
theorem dX4_readText_129 : decode cX4_readText 129 = .ok (.aload_n 0, 1) := by decide +kernel
theorem dX4_readText_130 : decode cX4_readText 130 = .ok (.getfield 35, 3) := by decide +kernel
theorem dX4_readText_133 : decode cX4_readText 133 = .ok (.ifCond .ne 7, 3) := by decide +kernel
theorem dX4_readText_136 : decode cX4_readText 136 = .ok (.iconst 1, 1) := by decide +kernel
theorem dX4_readText_137 : decode cX4_readText 137 = .ok (.goto 4, 3) := by decide +kernel
theorem dX4_readText_140 : decode cX4_readText 140 = .ok (.iconst 0, 1) := by decide +kernel
theorem dX4_readText_141 : decode cX4_readText 141 = .ok (.ireturn, 1) := by decide +kernel
theorem dX4_stopAt_0 : decode cX4_stopAt 0 = .ok (.aload_n 0, 1) := by decide +kernel
theorem dX4_stopAt_1 : decode cX4_stopAt 1 = .ok (.getfield 35, 3) := by decide +kernel
theorem dX4_stopAt_4 : decode cX4_stopAt 4 = .ok (.ifCond .ne 19, 3) := by decide +kernel
theorem dX4_stopAt_7 : decode cX4_stopAt 7 = .ok (.aload_n 0, 1) := by decide +kernel
theorem dX4_stopAt_8 : decode cX4_stopAt 8 = .ok (.iload_n 1, 1) := by decide +kernel
theorem dX4_stopAt_9 : decode cX4_stopAt 9 = .ok (.putfield 35, 3) := by decide +kernel
theorem dX4_stopAt_12 : decode cX4_stopAt 12 = .ok (.aload_n 0, 1) := by decide +kernel
theorem dX4_stopAt_13 : decode cX4_stopAt 13 = .ok (.aload_n 0, 1) := by decide +kernel
theorem dX4_stopAt_14 : decode cX4_stopAt 14 = .ok (.getfield 31, 3) := by decide +kernel
theorem dX4_stopAt_17 : decode cX4_stopAt 17 = .ok (.getfield 73, 3) := by decide +kernel
theorem dX4_stopAt_20 : decode cX4_stopAt 20 = .ok (.putfield 18, 3) := by decide +kernel
theorem dX4_stopAt_23 : decode cX4_stopAt 23 = .ok (.return_, 1) := by decide +kernel
theorem dX4_readFuse_0 : decode cX4_readFuse 0 = .ok (.aload_n 0, 1) := by decide +kernel
theorem dX4_readFuse_1 : decode cX4_readFuse 1 = .ok (.getfield 31, 3) := by decide +kernel
theorem dX4_readFuse_4 : decode cX4_readFuse 4 = .ok (.ldc 76, 2) := by decide +kernel
theorem dX4_readFuse_6 : decode cX4_readFuse 6 = .ok (.invokevirtual 55, 3) := by decide +kernel
theorem dX4_readFuse_9 : decode cX4_readFuse 9 = .ok (.ifCond .ne 9, 3) := by decide +kernel
theorem dX4_readFuse_12 : decode cX4_readFuse 12 = .ok (.aload_n 0, 1) := by decide +kernel
theorem dX4_readFuse_13 : decode cX4_readFuse 13 = .ok (.iconst 1, 1) := by decide +kernel
theorem dX4_readFuse_14 : decode cX4_readFuse 14 = .ok (.invokevirtual 78, 3) := by decide +kernel
theorem dX4_readFuse_17 : decode cX4_readFuse 17 = .ok (.return_, 1) := by decide +kernel
theorem dX4_readFuse_18 : decode cX4_readFuse 18 = .ok (.aload_n 0, 1) := by decide +kernel
theorem dX4_readFuse_19 : decode cX4_readFuse 19 = .ok (.getfield 31, 3) := by decide +kernel
theorem dX4_readFuse_22 : decode cX4_readFuse 22 = .ok (.invokevirtual 82, 3) := by decide +kernel
theorem dX4_readFuse_25 : decode cX4_readFuse 25 = .ok (.aload_n 0, 1) := by decide +kernel
theorem dX4_readFuse_26 : decode cX4_readFuse 26 = .ok (.getfield 12, 3) := by decide +kernel
theorem dX4_readFuse_29 : decode cX4_readFuse 29 = .ok (.aload_n 0, 1) := by decide +kernel
theorem dX4_readFuse_30 : decode cX4_readFuse 30 = .ok (.iconst 1, 1) := by decide +kernel
theorem dX4_readFuse_31 : decode cX4_readFuse 31 = .ok (.sipush 9999, 3) := by decide +kernel
theorem dX4_readFuse_34 : decode cX4_readFuse 34 = .ok (.invokevirtual 85, 3) := by decide +kernel
theorem dX4_readFuse_37 : decode cX4_readFuse 37 = .ok (.putfield 89, 3) := by decide +kernel
theorem dX4_readFuse_40 : decode cX4_readFuse 40 = .ok (.aload_n 0, 1) := by decide +kernel
theorem dX4_readFuse_41 : decode cX4_readFuse 41 = .ok (.invokevirtual 70, 3) := by decide +kernel
theorem dX4_readFuse_44 : decode cX4_readFuse 44 = .ok (.return_, 1) := by decide +kernel
theorem dX4_readOutlet_0 : decode cX4_readOutlet 0 = .ok (.aload_n 0, 1) := by decide +kernel
theorem dX4_readOutlet_1 : decode cX4_readOutlet 1 = .ok (.getfield 12, 3) := by decide +kernel
theorem dX4_readOutlet_4 : decode cX4_readOutlet 4 = .ok (.getfield 91, 3) := by decide +kernel
theorem dX4_readOutlet_7 : decode cX4_readOutlet 7 = .ok (.istore_n 1, 1) := by decide +kernel
theorem dX4_readOutlet_8 : decode cX4_readOutlet 8 = .ok (.iload_n 1, 1) := by decide +kernel
theorem dX4_readOutlet_9 : decode cX4_readOutlet 9 = .ok (.ifCond .lt 9, 3) := by decide +kernel
theorem dX4_readOutlet_12 : decode cX4_readOutlet 12 = .ok (.iload_n 1, 1) := by decide +kernel
theorem dX4_readOutlet_13 : decode cX4_readOutlet 13 = .ok (.bipush 12, 2) := by decide +kernel
theorem dX4_readOutlet_15 : decode cX4_readOutlet 15 = .ok (.if_icmp .lt 9, 3) := by decide +kernel
theorem dX4_readOutlet_18 : decode cX4_readOutlet 18 = .ok (.aload_n 0, 1) := by decide +kernel
theorem dX4_readOutlet_19 : decode cX4_readOutlet 19 = .ok (.iconst 5, 1) := by decide +kernel
theorem dX4_readOutlet_20 : decode cX4_readOutlet 20 = .ok (.invokevirtual 78, 3) := by decide +kernel
theorem dX4_readOutlet_23 : decode cX4_readOutlet 23 = .ok (.return_, 1) := by decide +kernel
theorem dX4_readOutlet_24 : decode cX4_readOutlet 24 = .ok (.aload_n 0, 1) := by decide +kernel
theorem dX4_readOutlet_25 : decode cX4_readOutlet 25 = .ok (.getfield 31, 3) := by decide +kernel
theorem dX4_readOutlet_28 : decode cX4_readOutlet 28 = .ok (.invokevirtual 82, 3) := by decide +kernel
theorem dX4_readOutlet_31 : decode cX4_readOutlet 31 = .ok (.aload_n 0, 1) := by decide +kernel
theorem dX4_readOutlet_32 : decode cX4_readOutlet 32 = .ok (.getfield 12, 3) := by decide +kernel
theorem dX4_readOutlet_35 : decode cX4_readOutlet 35 = .ok (.getfield 94, 3) := by decide +kernel
theorem dX4_readOutlet_38 : decode cX4_readOutlet 38 = .ok (.iload_n 1, 1) := by decide +kernel
theorem dX4_readOutlet_39 : decode cX4_readOutlet 39 = .ok (.aload_n 0, 1) := by decide +kernel
theorem dX4_readOutlet_40 : decode cX4_readOutlet 40 = .ok (.invokevirtual 98, 3) := by decide +kernel
theorem dX4_readOutlet_43 : decode cX4_readOutlet 43 = .ok (.lastore, 1) := by decide +kernel
theorem dX4_readOutlet_44 : decode cX4_readOutlet 44 = .ok (.aload_n 0, 1) := by decide +kernel
theorem dX4_readOutlet_45 : decode cX4_readOutlet 45 = .ok (.getfield 12, 3) := by decide +kernel
theorem dX4_readOutlet_48 : decode cX4_readOutlet 48 = .ok (.getfield 102, 3) := by decide +kernel
theorem dX4_readOutlet_51 : decode cX4_readOutlet 51 = .ok (.iload_n 1, 1) := by decide +kernel
theorem dX4_readOutlet_52 : decode cX4_readOutlet 52 = .ok (.aload_n 0, 1) := by decide +kernel
theorem dX4_readOutlet_53 : decode cX4_readOutlet 53 = .ok (.iconst 0, 1) := by decide +kernel
theorem dX4_readOutlet_54 : decode cX4_readOutlet 54 = .ok (.sipush 999, 3) := by decide +kernel
theorem dX4_readOutlet_57 : decode cX4_readOutlet 57 = .ok (.invokevirtual 85, 3) := by decide +kernel
theorem dX4_readOutlet_60 : decode cX4_readOutlet 60 = .ok (.iastore, 1) := by decide +kernel
theorem dX4_readOutlet_61 : decode cX4_readOutlet 61 = .ok (.aload_n 0, 1) := by decide +kernel
theorem dX4_readOutlet_62 : decode cX4_readOutlet 62 = .ok (.getfield 12, 3) := by decide +kernel
theorem dX4_readOutlet_65 : decode cX4_readOutlet 65 = .ok (.getfield 106, 3) := by decide +kernel
theorem dX4_readOutlet_68 : decode cX4_readOutlet 68 = .ok (.iload_n 1, 1) := by decide +kernel
theorem dX4_readOutlet_69 : decode cX4_readOutlet 69 = .ok (.aload_n 0, 1) := by decide +kernel
theorem dX4_readOutlet_70 : decode cX4_readOutlet 70 = .ok (.aload_n 0, 1) := by decide +kernel
theorem dX4_readOutlet_71 : decode cX4_readOutlet 71 = .ok (.getfield 12, 3) := by decide +kernel
theorem dX4_readOutlet_74 : decode cX4_readOutlet 74 = .ok (.getfield 102, 3) := by decide +kernel
theorem dX4_readOutlet_77 : decode cX4_readOutlet 77 = .ok (.iload_n 1, 1) := by decide +kernel
theorem dX4_readOutlet_78 : decode cX4_readOutlet 78 = .ok (.iaload, 1) := by decide +kernel
theorem dX4_readOutlet_79 : decode cX4_readOutlet 79 = .ok (.sipush 1999, 3) := by decide +kernel
theorem dX4_readOutlet_82 : decode cX4_readOutlet 82 = .ok (.invokevirtual 85, 3) := by decide +kernel
theorem dX4_readOutlet_85 : decode cX4_readOutlet 85 = .ok (.iastore, 1) := by decide +kernel
theorem dX4_readOutlet_86 : decode cX4_readOutlet 86 = .ok (.aload_n 0, 1) := by decide +kernel
theorem dX4_readOutlet_87 : decode cX4_readOutlet 87 = .ok (.getfield 12, 3) := by decide +kernel
theorem dX4_readOutlet_90 : decode cX4_readOutlet 90 = .ok (.getfield 109, 3) := by decide +kernel
theorem dX4_readOutlet_93 : decode cX4_readOutlet 93 = .ok (.iload_n 1, 1) := by decide +kernel
theorem dX4_readOutlet_94 : decode cX4_readOutlet 94 = .ok (.aload_n 0, 1) := by decide +kernel
theorem dX4_readOutlet_95 : decode cX4_readOutlet 95 = .ok (.aload_n 0, 1) := by decide +kernel
theorem dX4_readOutlet_96 : decode cX4_readOutlet 96 = .ok (.getfield 12, 3) := by decide +kernel
theorem dX4_readOutlet_99 : decode cX4_readOutlet 99 = .ok (.getfield 102, 3) := by decide +kernel
theorem dX4_readOutlet_102 : decode cX4_readOutlet 102 = .ok (.iload_n 1, 1) := by decide +kernel
theorem dX4_readOutlet_103 : decode cX4_readOutlet 103 = .ok (.iaload, 1) := by decide +kernel
theorem dX4_readOutlet_104 : decode cX4_readOutlet 104 = .ok (.aload_n 0, 1) := by decide +kernel
theorem dX4_readOutlet_105 : decode cX4_readOutlet 105 = .ok (.getfield 12, 3) := by decide +kernel
theorem dX4_readOutlet_108 : decode cX4_readOutlet 108 = .ok (.getfield 106, 3) := by decide +kernel
theorem dX4_readOutlet_111 : decode cX4_readOutlet 111 = .ok (.iload_n 1, 1) := by decide +kernel
theorem dX4_readOutlet_112 : decode cX4_readOutlet 112 = .ok (.iaload, 1) := by decide +kernel
theorem dX4_readOutlet_113 : decode cX4_readOutlet 113 = .ok (.invokevirtual 85, 3) := by decide +kernel
theorem dX4_readOutlet_116 : decode cX4_readOutlet 116 = .ok (.iastore, 1) := by decide +kernel
theorem dX4_readOutlet_117 : decode cX4_readOutlet 117 = .ok (.aload_n 0, 1) := by decide +kernel
theorem dX4_readOutlet_118 : decode cX4_readOutlet 118 = .ok (.getfield 12, 3) := by decide +kernel
theorem dX4_readOutlet_121 : decode cX4_readOutlet 121 = .ok (.getfield 112, 3) := by decide +kernel
theorem dX4_readOutlet_124 : decode cX4_readOutlet 124 = .ok (.iload_n 1, 1) := by decide +kernel
theorem dX4_readOutlet_125 : decode cX4_readOutlet 125 = .ok (.aload_n 0, 1) := by decide +kernel
theorem dX4_readOutlet_126 : decode cX4_readOutlet 126 = .ok (.iconst 1, 1) := by decide +kernel
theorem dX4_readOutlet_127 : decode cX4_readOutlet 127 = .ok (.bipush 20, 2) := by decide +kernel
theorem dX4_readOutlet_129 : decode cX4_readOutlet 129 = .ok (.invokevirtual 85, 3) := by decide +kernel
theorem dX4_readOutlet_132 : decode cX4_readOutlet 132 = .ok (.iastore, 1) := by decide +kernel
theorem dX4_readOutlet_133 : decode cX4_readOutlet 133 = .ok (.aload_n 0, 1) := by decide +kernel
theorem dX4_readOutlet_134 : decode cX4_readOutlet 134 = .ok (.getfield 12, 3) := by decide +kernel
theorem dX4_readOutlet_137 : decode cX4_readOutlet 137 = .ok (.getfield 115, 3) := by decide +kernel
theorem dX4_readOutlet_140 : decode cX4_readOutlet 140 = .ok (.iload_n 1, 1) := by decide +kernel
theorem dX4_readOutlet_141 : decode cX4_readOutlet 141 = .ok (.aload_n 0, 1) := by decide +kernel
theorem dX4_readOutlet_142 : decode cX4_readOutlet 142 = .ok (.iconst 0, 1) := by decide +kernel
theorem dX4_readOutlet_143 : decode cX4_readOutlet 143 = .ok (.bipush 9, 2) := by decide +kernel
theorem dX4_readOutlet_145 : decode cX4_readOutlet 145 = .ok (.invokevirtual 85, 3) := by decide +kernel
theorem dX4_readOutlet_148 : decode cX4_readOutlet 148 = .ok (.iastore, 1) := by decide +kernel
theorem dX4_readOutlet_149 : decode cX4_readOutlet 149 = .ok (.aload_n 0, 1) := by decide +kernel
theorem dX4_readOutlet_150 : decode cX4_readOutlet 150 = .ok (.getfield 12, 3) := by decide +kernel
theorem dX4_readOutlet_153 : decode cX4_readOutlet 153 = .ok (.getfield 118, 3) := by decide +kernel
theorem dX4_readOutlet_156 : decode cX4_readOutlet 156 = .ok (.iload_n 1, 1) := by decide +kernel
theorem dX4_readOutlet_157 : decode cX4_readOutlet 157 = .ok (.iconst 0, 1) := by decide +kernel
theorem dX4_readOutlet_158 : decode cX4_readOutlet 158 = .ok (.iastore, 1) := by decide +kernel
theorem dX4_readOutlet_159 : decode cX4_readOutlet 159 = .ok (.aload_n 0, 1) := by decide +kernel
theorem dX4_readOutlet_160 : decode cX4_readOutlet 160 = .ok (.getfield 12, 3) := by decide +kernel
theorem dX4_readOutlet_163 : decode cX4_readOutlet 163 = .ok (.iload_n 1, 1) := by decide +kernel
theorem dX4_readOutlet_164 : decode cX4_readOutlet 164 = .ok (.iconst 1, 1) := by decide +kernel
theorem dX4_readOutlet_165 : decode cX4_readOutlet 165 = .ok (.iadd, 1) := by decide +kernel
theorem dX4_readOutlet_166 : decode cX4_readOutlet 166 = .ok (.putfield 91, 3) := by decide +kernel
theorem dX4_readOutlet_169 : decode cX4_readOutlet 169 = .ok (.return_, 1) := by decide +kernel
theorem dX4_readNeed_0 : decode cX4_readNeed 0 = .ok (.aload_n 0, 1) := by decide +kernel
theorem dX4_readNeed_1 : decode cX4_readNeed 1 = .ok (.getfield 12, 3) := by decide +kernel
theorem dX4_readNeed_4 : decode cX4_readNeed 4 = .ok (.invokevirtual 121, 3) := by decide +kernel
theorem dX4_readNeed_7 : decode cX4_readNeed 7 = .ok (.bipush 16, 2) := by decide +kernel
theorem dX4_readNeed_9 : decode cX4_readNeed 9 = .ok (.if_icmp .lt 9, 3) := by decide +kernel
theorem dX4_readNeed_12 : decode cX4_readNeed 12 = .ok (.aload_n 0, 1) := by decide +kernel
theorem dX4_readNeed_13 : decode cX4_readNeed 13 = .ok (.iconst 5, 1) := by decide +kernel
theorem dX4_readNeed_14 : decode cX4_readNeed 14 = .ok (.invokevirtual 78, 3) := by decide +kernel
theorem dX4_readNeed_17 : decode cX4_readNeed 17 = .ok (.return_, 1) := by decide +kernel
theorem dX4_readNeed_18 : decode cX4_readNeed 18 = .ok (.aload_n 0, 1) := by decide +kernel
theorem dX4_readNeed_19 : decode cX4_readNeed 19 = .ok (.getfield 31, 3) := by decide +kernel
theorem dX4_readNeed_22 : decode cX4_readNeed 22 = .ok (.invokevirtual 82, 3) := by decide +kernel
theorem dX4_readNeed_25 : decode cX4_readNeed 25 = .ok (.aload_n 0, 1) := by decide +kernel
theorem dX4_readNeed_26 : decode cX4_readNeed 26 = .ok (.invokevirtual 125, 3) := by decide +kernel
theorem dX4_readNeed_29 : decode cX4_readNeed 29 = .ok (.istore_n 1, 1) := by decide +kernel
theorem dX4_readNeed_30 : decode cX4_readNeed 30 = .ok (.aload_n 0, 1) := by decide +kernel
theorem dX4_readNeed_31 : decode cX4_readNeed 31 = .ok (.getfield 35, 3) := by decide +kernel
theorem dX4_readNeed_34 : decode cX4_readNeed 34 = .ok (.ifCond .ne 10, 3) := by decide +kernel
theorem dX4_readNeed_37 : decode cX4_readNeed 37 = .ok (.aload_n 0, 1) := by decide +kernel
theorem dX4_readNeed_38 : decode cX4_readNeed 38 = .ok (.getfield 31, 3) := by decide +kernel
theorem dX4_readNeed_41 : decode cX4_readNeed 41 = .ok (.invokevirtual 82, 3) := by decide +kernel
theorem dX4_readNeed_44 : decode cX4_readNeed 44 = .ok (.aload_n 0, 1) := by decide +kernel
theorem dX4_readNeed_45 : decode cX4_readNeed 45 = .ok (.invokevirtual 125, 3) := by decide +kernel
theorem dX4_readNeed_48 : decode cX4_readNeed 48 = .ok (.istore_n 2, 1) := by decide +kernel
theorem dX4_readNeed_49 : decode cX4_readNeed 49 = .ok (.aload_n 0, 1) := by decide +kernel
theorem dX4_readNeed_50 : decode cX4_readNeed 50 = .ok (.getfield 35, 3) := by decide +kernel
theorem dX4_readNeed_53 : decode cX4_readNeed 53 = .ok (.ifCond .ne 13, 3) := by decide +kernel
theorem dX4_readNeed_56 : decode cX4_readNeed 56 = .ok (.iload_n 1, 1) := by decide +kernel
theorem dX4_readNeed_57 : decode cX4_readNeed 57 = .ok (.iconst (-1), 1) := by decide +kernel
theorem dX4_readNeed_58 : decode cX4_readNeed 58 = .ok (.if_icmp .eq 8, 3) := by decide +kernel
theorem dX4_readNeed_61 : decode cX4_readNeed 61 = .ok (.iload_n 2, 1) := by decide +kernel
theorem dX4_readNeed_62 : decode cX4_readNeed 62 = .ok (.iconst (-1), 1) := by decide +kernel
theorem dX4_readNeed_63 : decode cX4_readNeed 63 = .ok (.if_icmp .ne 4, 3) := by decide +kernel
theorem dX4_readNeed_66 : decode cX4_readNeed 66 = .ok (.return_, 1) := by decide +kernel
theorem dX4_readNeed_67 : decode cX4_readNeed 67 = .ok (.iload_n 2, 1) := by decide +kernel
theorem dX4_readNeed_68 : decode cX4_readNeed 68 = .ok (.iload_n 1, 1) := by decide +kernel
theorem dX4_readNeed_69 : decode cX4_readNeed 69 = .ok (.if_icmp .eq 19, 3) := by decide +kernel
theorem dX4_readNeed_72 : decode cX4_readNeed 72 = .ok (.aload_n 0, 1) := by decide +kernel
theorem dX4_readNeed_73 : decode cX4_readNeed 73 = .ok (.getfield 12, 3) := by decide +kernel
theorem dX4_readNeed_76 : decode cX4_readNeed 76 = .ok (.getfield 118, 3) := by decide +kernel
theorem dX4_readNeed_79 : decode cX4_readNeed 79 = .ok (.iload_n 1, 1) := by decide +kernel
theorem dX4_readNeed_80 : decode cX4_readNeed 80 = .ok (.iaload, 1) := by decide +kernel
theorem dX4_readNeed_81 : decode cX4_readNeed 81 = .ok (.iload_n 2, 1) := by decide +kernel
theorem dX4_readNeed_82 : decode cX4_readNeed 82 = .ok (.invokestatic 128, 3) := by decide +kernel
theorem dX4_readNeed_85 : decode cX4_readNeed 85 = .ok (.ifCond .eq 9, 3) := by decide +kernel
theorem dX4_readNeed_88 : decode cX4_readNeed 88 = .ok (.aload_n 0, 1) := by decide +kernel
theorem dX4_readNeed_89 : decode cX4_readNeed 89 = .ok (.iconst 3, 1) := by decide +kernel
theorem dX4_readNeed_90 : decode cX4_readNeed 90 = .ok (.invokevirtual 78, 3) := by decide +kernel
theorem dX4_readNeed_93 : decode cX4_readNeed 93 = .ok (.return_, 1) := by decide +kernel
theorem dX4_readNeed_94 : decode cX4_readNeed 94 = .ok (.aload_n 0, 1) := by decide +kernel
theorem dX4_readNeed_95 : decode cX4_readNeed 95 = .ok (.getfield 12, 3) := by decide +kernel
theorem dX4_readNeed_98 : decode cX4_readNeed 98 = .ok (.getfield 118, 3) := by decide +kernel
theorem dX4_readNeed_101 : decode cX4_readNeed 101 = .ok (.iload_n 1, 1) := by decide +kernel
theorem dX4_readNeed_102 : decode cX4_readNeed 102 = .ok (.dup2, 1) := by decide +kernel
theorem dX4_readNeed_103 : decode cX4_readNeed 103 = .ok (.iaload, 1) := by decide +kernel
theorem dX4_readNeed_104 : decode cX4_readNeed 104 = .ok (.iconst 1, 1) := by decide +kernel
theorem dX4_readNeed_105 : decode cX4_readNeed 105 = .ok (.iload_n 2, 1) := by decide +kernel
theorem dX4_readNeed_106 : decode cX4_readNeed 106 = .ok (.ishl, 1) := by decide +kernel
theorem dX4_readNeed_107 : decode cX4_readNeed 107 = .ok (.ior, 1) := by decide +kernel
theorem dX4_readNeed_108 : decode cX4_readNeed 108 = .ok (.iastore, 1) := by decide +kernel
theorem dX4_readNeed_109 : decode cX4_readNeed 109 = .ok (.aload_n 0, 1) := by decide +kernel
theorem dX4_readNeed_110 : decode cX4_readNeed 110 = .ok (.getfield 31, 3) := by decide +kernel
theorem dX4_readNeed_113 : decode cX4_readNeed 113 = .ok (.invokevirtual 82, 3) := by decide +kernel
theorem dX4_readNeed_116 : decode cX4_readNeed 116 = .ok (.return_, 1) := by decide +kernel
theorem dX4_readRule_0 : decode cX4_readRule 0 = .ok (.aload_n 0, 1) := by decide +kernel
theorem dX4_readRule_1 : decode cX4_readRule 1 = .ok (.getfield 31, 3) := by decide +kernel
theorem dX4_readRule_4 : decode cX4_readRule 4 = .ok (.ldc 132, 2) := by decide +kernel
theorem dX4_readRule_6 : decode cX4_readRule 6 = .ok (.invokevirtual 55, 3) := by decide +kernel
theorem dX4_readRule_9 : decode cX4_readRule 9 = .ok (.ifCond .eq 18, 3) := by decide +kernel
theorem dX4_readRule_12 : decode cX4_readRule 12 = .ok (.aload_n 0, 1) := by decide +kernel
theorem dX4_readRule_13 : decode cX4_readRule 13 = .ok (.iconst 1, 1) := by decide +kernel
theorem dX4_readRule_14 : decode cX4_readRule 14 = .ok (.invokevirtual 134, 3) := by decide +kernel
theorem dX4_readRule_17 : decode cX4_readRule 17 = .ok (.ifCond .eq 155, 3) := by decide +kernel
theorem dX4_readRule_20 : decode cX4_readRule 20 = .ok (.aload_n 0, 1) := by decide +kernel
theorem dX4_readRule_21 : decode cX4_readRule 21 = .ok (.invokevirtual 138, 3) := by decide +kernel
theorem dX4_readRule_24 : decode cX4_readRule 24 = .ok (.goto 148, 3) := by decide +kernel
theorem dX4_readRule_27 : decode cX4_readRule 27 = .ok (.aload_n 0, 1) := by decide +kernel
theorem dX4_readRule_28 : decode cX4_readRule 28 = .ok (.getfield 31, 3) := by decide +kernel
theorem dX4_readRule_31 : decode cX4_readRule 31 = .ok (.ldc 141, 2) := by decide +kernel
theorem dX4_readRule_33 : decode cX4_readRule 33 = .ok (.invokevirtual 55, 3) := by decide +kernel
theorem dX4_readRule_36 : decode cX4_readRule 36 = .ok (.ifCond .eq 28, 3) := by decide +kernel
theorem dX4_readRule_39 : decode cX4_readRule 39 = .ok (.aload_n 0, 1) := by decide +kernel
theorem dX4_readRule_40 : decode cX4_readRule 40 = .ok (.iconst 2, 1) := by decide +kernel
theorem dX4_readRule_41 : decode cX4_readRule 41 = .ok (.invokevirtual 134, 3) := by decide +kernel
theorem dX4_readRule_44 : decode cX4_readRule 44 = .ok (.ifCond .eq 128, 3) := by decide +kernel
theorem dX4_readRule_47 : decode cX4_readRule 47 = .ok (.aload_n 0, 1) := by decide +kernel
theorem dX4_readRule_48 : decode cX4_readRule 48 = .ok (.getfield 12, 3) := by decide +kernel
theorem dX4_readRule_51 : decode cX4_readRule 51 = .ok (.aload_n 0, 1) := by decide +kernel
theorem dX4_readRule_52 : decode cX4_readRule 52 = .ok (.iconst 1, 1) := by decide +kernel
theorem dX4_readRule_53 : decode cX4_readRule 53 = .ok (.bipush 20, 2) := by decide +kernel
theorem dX4_readRule_55 : decode cX4_readRule 55 = .ok (.invokevirtual 85, 3) := by decide +kernel
theorem dX4_readRule_58 : decode cX4_readRule 58 = .ok (.putfield 143, 3) := by decide +kernel
theorem dX4_readRule_61 : decode cX4_readRule 61 = .ok (.goto 111, 3) := by decide +kernel
theorem dX4_readRule_64 : decode cX4_readRule 64 = .ok (.aload_n 0, 1) := by decide +kernel
theorem dX4_readRule_65 : decode cX4_readRule 65 = .ok (.getfield 31, 3) := by decide +kernel
theorem dX4_readRule_68 : decode cX4_readRule 68 = .ok (.ldc 145, 2) := by decide +kernel
theorem dX4_readRule_70 : decode cX4_readRule 70 = .ok (.invokevirtual 55, 3) := by decide +kernel
theorem dX4_readRule_73 : decode cX4_readRule 73 = .ok (.ifCond .eq 28, 3) := by decide +kernel
theorem dX4_readRule_76 : decode cX4_readRule 76 = .ok (.aload_n 0, 1) := by decide +kernel
theorem dX4_readRule_77 : decode cX4_readRule 77 = .ok (.iconst 4, 1) := by decide +kernel
theorem dX4_readRule_78 : decode cX4_readRule 78 = .ok (.invokevirtual 134, 3) := by decide +kernel
theorem dX4_readRule_81 : decode cX4_readRule 81 = .ok (.ifCond .eq 91, 3) := by decide +kernel
theorem dX4_readRule_84 : decode cX4_readRule 84 = .ok (.aload_n 0, 1) := by decide +kernel
theorem dX4_readRule_85 : decode cX4_readRule 85 = .ok (.getfield 12, 3) := by decide +kernel
theorem dX4_readRule_88 : decode cX4_readRule 88 = .ok (.aload_n 0, 1) := by decide +kernel
theorem dX4_readRule_89 : decode cX4_readRule 89 = .ok (.iconst 2, 1) := by decide +kernel
theorem dX4_readRule_90 : decode cX4_readRule 90 = .ok (.bipush 20, 2) := by decide +kernel
theorem dX4_readRule_92 : decode cX4_readRule 92 = .ok (.invokevirtual 85, 3) := by decide +kernel
theorem dX4_readRule_95 : decode cX4_readRule 95 = .ok (.putfield 147, 3) := by decide +kernel
theorem dX4_readRule_98 : decode cX4_readRule 98 = .ok (.goto 74, 3) := by decide +kernel
theorem dX4_readRule_101 : decode cX4_readRule 101 = .ok (.aload_n 0, 1) := by decide +kernel
theorem dX4_readRule_102 : decode cX4_readRule 102 = .ok (.getfield 31, 3) := by decide +kernel
theorem dX4_readRule_105 : decode cX4_readRule 105 = .ok (.ldc 149, 2) := by decide +kernel
theorem dX4_readRule_107 : decode cX4_readRule 107 = .ok (.invokevirtual 55, 3) := by decide +kernel
theorem dX4_readRule_110 : decode cX4_readRule 110 = .ok (.ifCond .eq 19, 3) := by decide +kernel
theorem dX4_readRule_113 : decode cX4_readRule 113 = .ok (.aload_n 0, 1) := by decide +kernel
theorem dX4_readRule_114 : decode cX4_readRule 114 = .ok (.getfield 12, 3) := by decide +kernel
theorem dX4_readRule_117 : decode cX4_readRule 117 = .ok (.aload_n 0, 1) := by decide +kernel
theorem dX4_readRule_118 : decode cX4_readRule 118 = .ok (.bipush 8, 2) := by decide +kernel
theorem dX4_readRule_120 : decode cX4_readRule 120 = .ok (.invokevirtual 134, 3) := by decide +kernel
theorem dX4_readRule_123 : decode cX4_readRule 123 = .ok (.putfield 151, 3) := by decide +kernel
theorem dX4_readRule_126 : decode cX4_readRule 126 = .ok (.goto 46, 3) := by decide +kernel
theorem dX4_readRule_129 : decode cX4_readRule 129 = .ok (.aload_n 0, 1) := by decide +kernel
theorem dX4_readRule_130 : decode cX4_readRule 130 = .ok (.getfield 31, 3) := by decide +kernel
theorem dX4_readRule_133 : decode cX4_readRule 133 = .ok (.ldc 155, 2) := by decide +kernel
theorem dX4_readRule_135 : decode cX4_readRule 135 = .ok (.invokevirtual 55, 3) := by decide +kernel
theorem dX4_readRule_138 : decode cX4_readRule 138 = .ok (.ifCond .eq 10, 3) := by decide +kernel
theorem dX4_readRule_141 : decode cX4_readRule 141 = .ok (.aload_n 0, 1) := by decide +kernel
theorem dX4_readRule_142 : decode cX4_readRule 142 = .ok (.invokevirtual 157, 3) := by decide +kernel
theorem dX4_readRule_145 : decode cX4_readRule 145 = .ok (.goto 27, 3) := by decide +kernel
theorem dX4_readRule_148 : decode cX4_readRule 148 = .ok (.aload_n 0, 1) := by decide +kernel
theorem dX4_readRule_149 : decode cX4_readRule 149 = .ok (.getfield 31, 3) := by decide +kernel
theorem dX4_readRule_152 : decode cX4_readRule 152 = .ok (.ldc 160, 2) := by decide +kernel
theorem dX4_readRule_154 : decode cX4_readRule 154 = .ok (.invokevirtual 55, 3) := by decide +kernel
theorem dX4_readRule_157 : decode cX4_readRule 157 = .ok (.ifCond .eq 10, 3) := by decide +kernel
theorem dX4_readRule_160 : decode cX4_readRule 160 = .ok (.aload_n 0, 1) := by decide +kernel
theorem dX4_readRule_161 : decode cX4_readRule 161 = .ok (.invokevirtual 162, 3) := by decide +kernel
theorem dX4_readRule_164 : decode cX4_readRule 164 = .ok (.goto 8, 3) := by decide +kernel
theorem dX4_readRule_167 : decode cX4_readRule 167 = .ok (.aload_n 0, 1) := by decide +kernel
theorem dX4_readRule_168 : decode cX4_readRule 168 = .ok (.iconst 1, 1) := by decide +kernel
theorem dX4_readRule_169 : decode cX4_readRule 169 = .ok (.invokevirtual 78, 3) := by decide +kernel
theorem dX4_readRule_172 : decode cX4_readRule 172 = .ok (.return_, 1) := by decide +kernel
theorem dX4_passOnce_0 : decode cX4_passOnce 0 = .ok (.aload_n 0, 1) := by decide +kernel
theorem dX4_passOnce_1 : decode cX4_passOnce 1 = .ok (.getfield 38, 3) := by decide +kernel
theorem dX4_passOnce_4 : decode cX4_passOnce 4 = .ok (.iload_n 1, 1) := by decide +kernel
theorem dX4_passOnce_5 : decode cX4_passOnce 5 = .ok (.iand, 1) := by decide +kernel
theorem dX4_passOnce_6 : decode cX4_passOnce 6 = .ok (.ifCond .eq 10, 3) := by decide +kernel
theorem dX4_passOnce_9 : decode cX4_passOnce 9 = .ok (.aload_n 0, 1) := by decide +kernel
theorem dX4_passOnce_10 : decode cX4_passOnce 10 = .ok (.iconst 5, 1) := by decide +kernel
theorem dX4_passOnce_11 : decode cX4_passOnce 11 = .ok (.invokevirtual 78, 3) := by decide +kernel
theorem dX4_passOnce_14 : decode cX4_passOnce 14 = .ok (.iconst 0, 1) := by decide +kernel
theorem dX4_passOnce_15 : decode cX4_passOnce 15 = .ok (.ireturn, 1) := by decide +kernel
theorem dX4_passOnce_16 : decode cX4_passOnce 16 = .ok (.aload_n 0, 1) := by decide +kernel
theorem dX4_passOnce_17 : decode cX4_passOnce 17 = .ok (.dup, 1) := by decide +kernel
theorem dX4_passOnce_18 : decode cX4_passOnce 18 = .ok (.getfield 38, 3) := by decide +kernel
theorem dX4_passOnce_21 : decode cX4_passOnce 21 = .ok (.iload_n 1, 1) := by decide +kernel
theorem dX4_passOnce_22 : decode cX4_passOnce 22 = .ok (.ior, 1) := by decide +kernel
theorem dX4_passOnce_23 : decode cX4_passOnce 23 = .ok (.putfield 38, 3) := by decide +kernel
theorem dX4_passOnce_26 : decode cX4_passOnce 26 = .ok (.aload_n 0, 1) := by decide +kernel
theorem dX4_passOnce_27 : decode cX4_passOnce 27 = .ok (.getfield 31, 3) := by decide +kernel
theorem dX4_passOnce_30 : decode cX4_passOnce 30 = .ok (.invokevirtual 82, 3) := by decide +kernel
theorem dX4_passOnce_33 : decode cX4_passOnce 33 = .ok (.iconst 1, 1) := by decide +kernel
theorem dX4_passOnce_34 : decode cX4_passOnce 34 = .ok (.ireturn, 1) := by decide +kernel
theorem dX4_readScript_0 : decode cX4_readScript 0 = .ok (.aload_n 0, 1) := by decide +kernel
theorem dX4_readScript_1 : decode cX4_readScript 1 = .ok (.getfield 31, 3) := by decide +kernel
theorem dX4_readScript_4 : decode cX4_readScript 4 = .ok (.getfield 50, 3) := by decide +kernel
theorem dX4_readScript_7 : decode cX4_readScript 7 = .ok (.iconst 2, 1) := by decide +kernel
theorem dX4_readScript_8 : decode cX4_readScript 8 = .ok (.if_icmp .ne 15, 3) := by decide +kernel
theorem dX4_readScript_11 : decode cX4_readScript 11 = .ok (.aload_n 0, 1) := by decide +kernel
theorem dX4_readScript_12 : decode cX4_readScript 12 = .ok (.getfield 31, 3) := by decide +kernel
theorem dX4_readScript_15 : decode cX4_readScript 15 = .ok (.getfield 165, 3) := by decide +kernel
theorem dX4_readScript_18 : decode cX4_readScript 18 = .ok (.bipush 24, 2) := by decide +kernel
theorem dX4_readScript_20 : decode cX4_readScript 20 = .ok (.if_icmp .le 9, 3) := by decide +kernel
theorem dX4_readScript_23 : decode cX4_readScript 23 = .ok (.aload_n 0, 1) := by decide +kernel
theorem dX4_readScript_24 : decode cX4_readScript 24 = .ok (.iconst 1, 1) := by decide +kernel
theorem dX4_readScript_25 : decode cX4_readScript 25 = .ok (.invokevirtual 78, 3) := by decide +kernel
theorem dX4_readScript_28 : decode cX4_readScript 28 = .ok (.return_, 1) := by decide +kernel
theorem dX4_readScript_29 : decode cX4_readScript 29 = .ok (.iconst 0, 1) := by decide +kernel
theorem dX4_readScript_30 : decode cX4_readScript 30 = .ok (.istore_n 1, 1) := by decide +kernel
theorem dX4_readScript_31 : decode cX4_readScript 31 = .ok (.iconst 0, 1) := by decide +kernel
theorem dX4_readScript_32 : decode cX4_readScript 32 = .ok (.istore_n 2, 1) := by decide +kernel
theorem dX4_readScript_33 : decode cX4_readScript 33 = .ok (.iload_n 2, 1) := by decide +kernel
theorem dX4_readScript_34 : decode cX4_readScript 34 = .ok (.aload_n 0, 1) := by decide +kernel
theorem dX4_readScript_35 : decode cX4_readScript 35 = .ok (.getfield 31, 3) := by decide +kernel
theorem dX4_readScript_38 : decode cX4_readScript 38 = .ok (.getfield 165, 3) := by decide +kernel
theorem dX4_readScript_41 : decode cX4_readScript 41 = .ok (.if_icmp .ge 50, 3) := by decide +kernel
theorem dX4_readScript_44 : decode cX4_readScript 44 = .ok (.aload_n 0, 1) := by decide +kernel
theorem dX4_readScript_45 : decode cX4_readScript 45 = .ok (.getfield 22, 3) := by decide +kernel
theorem dX4_readScript_48 : decode cX4_readScript 48 = .ok (.aload_n 0, 1) := by decide +kernel
theorem dX4_readScript_49 : decode cX4_readScript 49 = .ok (.getfield 31, 3) := by decide +kernel
theorem dX4_readScript_52 : decode cX4_readScript 52 = .ok (.getfield 73, 3) := by decide +kernel
theorem dX4_readScript_55 : decode cX4_readScript 55 = .ok (.iload_n 2, 1) := by decide +kernel
theorem dX4_readScript_56 : decode cX4_readScript 56 = .ok (.iadd, 1) := by decide +kernel
theorem dX4_readScript_57 : decode cX4_readScript 57 = .ok (.invokevirtual 168, 3) := by decide +kernel
theorem dX4_readScript_60 : decode cX4_readScript 60 = .ok (.bipush 48, 2) := by decide +kernel
theorem dX4_readScript_62 : decode cX4_readScript 62 = .ok (.isub, 1) := by decide +kernel
theorem dX4_readScript_63 : decode cX4_readScript 63 = .ok (.istore_n 3, 1) := by decide +kernel
theorem dX4_readScript_64 : decode cX4_readScript 64 = .ok (.iload_n 3, 1) := by decide +kernel
theorem dX4_readScript_65 : decode cX4_readScript 65 = .ok (.ifCond .eq 14, 3) := by decide +kernel
theorem dX4_readScript_68 : decode cX4_readScript 68 = .ok (.iload_n 3, 1) := by decide +kernel
theorem dX4_readScript_69 : decode cX4_readScript 69 = .ok (.iconst 1, 1) := by decide +kernel
theorem dX4_readScript_70 : decode cX4_readScript 70 = .ok (.if_icmp .eq 9, 3) := by decide +kernel
theorem dX4_readScript_73 : decode cX4_readScript 73 = .ok (.aload_n 0, 1) := by decide +kernel
theorem dX4_readScript_74 : decode cX4_readScript 74 = .ok (.iconst 1, 1) := by decide +kernel
theorem dX4_readScript_75 : decode cX4_readScript 75 = .ok (.invokevirtual 78, 3) := by decide +kernel
theorem dX4_readScript_78 : decode cX4_readScript 78 = .ok (.return_, 1) := by decide +kernel
theorem dX4_readScript_79 : decode cX4_readScript 79 = .ok (.iload_n 1, 1) := by decide +kernel
theorem dX4_readScript_80 : decode cX4_readScript 80 = .ok (.iload_n 3, 1) := by decide +kernel
theorem dX4_readScript_81 : decode cX4_readScript 81 = .ok (.iload_n 2, 1) := by decide +kernel
theorem dX4_readScript_82 : decode cX4_readScript 82 = .ok (.ishl, 1) := by decide +kernel
theorem dX4_readScript_83 : decode cX4_readScript 83 = .ok (.ior, 1) := by decide +kernel
theorem dX4_readScript_84 : decode cX4_readScript 84 = .ok (.istore_n 1, 1) := by decide +kernel
theorem dX4_readScript_85 : decode cX4_readScript 85 = .ok (.iinc 2 1, 3) := by decide +kernel
theorem dX4_readScript_88 : decode cX4_readScript 88 = .ok (.goto (-55), 3) := by decide +kernel
theorem dX4_readScript_91 : decode cX4_readScript 91 = .ok (.aload_n 0, 1) := by decide +kernel
theorem dX4_readScript_92 : decode cX4_readScript 92 = .ok (.getfield 12, 3) := by decide +kernel
theorem dX4_readScript_95 : decode cX4_readScript 95 = .ok (.iload_n 1, 1) := by decide +kernel
theorem dX4_readScript_96 : decode cX4_readScript 96 = .ok (.putfield 174, 3) := by decide +kernel
theorem dX4_readScript_99 : decode cX4_readScript 99 = .ok (.aload_n 0, 1) := by decide +kernel
theorem dX4_readScript_100 : decode cX4_readScript 100 = .ok (.getfield 12, 3) := by decide +kernel
theorem dX4_readScript_103 : decode cX4_readScript 103 = .ok (.aload_n 0, 1) := by decide +kernel
theorem dX4_readScript_104 : decode cX4_readScript 104 = .ok (.getfield 31, 3) := by decide +kernel
theorem dX4_readScript_107 : decode cX4_readScript 107 = .ok (.getfield 165, 3) := by decide +kernel
theorem dX4_readScript_110 : decode cX4_readScript 110 = .ok (.putfield 177, 3) := by decide +kernel
theorem dX4_readScript_113 : decode cX4_readScript 113 = .ok (.aload_n 0, 1) := by decide +kernel
theorem dX4_readScript_114 : decode cX4_readScript 114 = .ok (.getfield 31, 3) := by decide +kernel
theorem dX4_readScript_117 : decode cX4_readScript 117 = .ok (.invokevirtual 82, 3) := by decide +kernel
theorem dX4_readScript_120 : decode cX4_readScript 120 = .ok (.return_, 1) := by decide +kernel
theorem dX4_readOff_0 : decode cX4_readOff 0 = .ok (.aload_n 0, 1) := by decide +kernel
theorem dX4_readOff_1 : decode cX4_readOff 1 = .ok (.getfield 31, 3) := by decide +kernel
theorem dX4_readOff_4 : decode cX4_readOff 4 = .ok (.invokevirtual 82, 3) := by decide +kernel
theorem dX4_readOff_7 : decode cX4_readOff 7 = .ok (.aload_n 0, 1) := by decide +kernel
theorem dX4_readOff_8 : decode cX4_readOff 8 = .ok (.invokevirtual 125, 3) := by decide +kernel
theorem dX4_readOff_11 : decode cX4_readOff 11 = .ok (.istore_n 1, 1) := by decide +kernel
theorem dX4_readOff_12 : decode cX4_readOff 12 = .ok (.iload_n 1, 1) := by decide +kernel
theorem dX4_readOff_13 : decode cX4_readOff 13 = .ok (.iconst (-1), 1) := by decide +kernel
theorem dX4_readOff_14 : decode cX4_readOff 14 = .ok (.if_icmp .eq 25, 3) := by decide +kernel
theorem dX4_readOff_17 : decode cX4_readOff 17 = .ok (.aload_n 0, 1) := by decide +kernel
theorem dX4_readOff_18 : decode cX4_readOff 18 = .ok (.getfield 12, 3) := by decide +kernel
theorem dX4_readOff_21 : decode cX4_readOff 21 = .ok (.dup, 1) := by decide +kernel
theorem dX4_readOff_22 : decode cX4_readOff 22 = .ok (.getfield 180, 3) := by decide +kernel
theorem dX4_readOff_25 : decode cX4_readOff 25 = .ok (.iconst 1, 1) := by decide +kernel
theorem dX4_readOff_26 : decode cX4_readOff 26 = .ok (.iload_n 1, 1) := by decide +kernel
theorem dX4_readOff_27 : decode cX4_readOff 27 = .ok (.ishl, 1) := by decide +kernel
theorem dX4_readOff_28 : decode cX4_readOff 28 = .ok (.ior, 1) := by decide +kernel
theorem dX4_readOff_29 : decode cX4_readOff 29 = .ok (.putfield 180, 3) := by decide +kernel
theorem dX4_readOff_32 : decode cX4_readOff 32 = .ok (.aload_n 0, 1) := by decide +kernel
theorem dX4_readOff_33 : decode cX4_readOff 33 = .ok (.getfield 31, 3) := by decide +kernel
theorem dX4_readOff_36 : decode cX4_readOff 36 = .ok (.invokevirtual 82, 3) := by decide +kernel
theorem dX4_readOff_39 : decode cX4_readOff 39 = .ok (.return_, 1) := by decide +kernel
theorem dX4_readDark_0 : decode cX4_readDark 0 = .ok (.aload_n 0, 1) := by decide +kernel
theorem dX4_readDark_1 : decode cX4_readDark 1 = .ok (.getfield 12, 3) := by decide +kernel
theorem dX4_readDark_4 : decode cX4_readDark 4 = .ok (.getfield 182, 3) := by decide +kernel
theorem dX4_readDark_7 : decode cX4_readDark 7 = .ok (.istore_n 1, 1) := by decide +kernel
theorem dX4_readDark_8 : decode cX4_readDark 8 = .ok (.iload_n 1, 1) := by decide +kernel
theorem dX4_readDark_9 : decode cX4_readDark 9 = .ok (.ifCond .lt 8, 3) := by decide +kernel
theorem dX4_readDark_12 : decode cX4_readDark 12 = .ok (.iload_n 1, 1) := by decide +kernel
theorem dX4_readDark_13 : decode cX4_readDark 13 = .ok (.iconst 4, 1) := by decide +kernel
theorem dX4_readDark_14 : decode cX4_readDark 14 = .ok (.if_icmp .lt 9, 3) := by decide +kernel
theorem dX4_readDark_17 : decode cX4_readDark 17 = .ok (.aload_n 0, 1) := by decide +kernel
theorem dX4_readDark_18 : decode cX4_readDark 18 = .ok (.iconst 5, 1) := by decide +kernel
theorem dX4_readDark_19 : decode cX4_readDark 19 = .ok (.invokevirtual 78, 3) := by decide +kernel
theorem dX4_readDark_22 : decode cX4_readDark 22 = .ok (.return_, 1) := by decide +kernel
theorem dX4_readDark_23 : decode cX4_readDark 23 = .ok (.aload_n 0, 1) := by decide +kernel
theorem dX4_readDark_24 : decode cX4_readDark 24 = .ok (.getfield 31, 3) := by decide +kernel
theorem dX4_readDark_27 : decode cX4_readDark 27 = .ok (.invokevirtual 82, 3) := by decide +kernel
theorem dX4_readDark_30 : decode cX4_readDark 30 = .ok (.aload_n 0, 1) := by decide +kernel
theorem dX4_readDark_31 : decode cX4_readDark 31 = .ok (.getfield 12, 3) := by decide +kernel
theorem dX4_readDark_34 : decode cX4_readDark 34 = .ok (.getfield 185, 3) := by decide +kernel
theorem dX4_readDark_37 : decode cX4_readDark 37 = .ok (.iload_n 1, 1) := by decide +kernel
theorem dX4_readDark_38 : decode cX4_readDark 38 = .ok (.aload_n 0, 1) := by decide +kernel
theorem dX4_readDark_39 : decode cX4_readDark 39 = .ok (.iconst 1, 1) := by decide +kernel
theorem dX4_readDark_40 : decode cX4_readDark 40 = .ok (.sipush 999, 3) := by decide +kernel
theorem dX4_readDark_43 : decode cX4_readDark 43 = .ok (.invokevirtual 85, 3) := by decide +kernel
theorem dX4_readDark_46 : decode cX4_readDark 46 = .ok (.iastore, 1) := by decide +kernel
theorem dX4_readDark_47 : decode cX4_readDark 47 = .ok (.aload_n 0, 1) := by decide +kernel
theorem dX4_readDark_48 : decode cX4_readDark 48 = .ok (.getfield 12, 3) := by decide +kernel
theorem dX4_readDark_51 : decode cX4_readDark 51 = .ok (.getfield 188, 3) := by decide +kernel
theorem dX4_readDark_54 : decode cX4_readDark 54 = .ok (.iload_n 1, 1) := by decide +kernel
theorem dX4_readDark_55 : decode cX4_readDark 55 = .ok (.aload_n 0, 1) := by decide +kernel
theorem dX4_readDark_56 : decode cX4_readDark 56 = .ok (.iconst 1, 1) := by decide +kernel
theorem dX4_readDark_57 : decode cX4_readDark 57 = .ok (.bipush 50, 2) := by decide +kernel
theorem dX4_readDark_59 : decode cX4_readDark 59 = .ok (.invokevirtual 85, 3) := by decide +kernel
theorem dX4_readDark_62 : decode cX4_readDark 62 = .ok (.iastore, 1) := by decide +kernel
theorem dX4_readDark_63 : decode cX4_readDark 63 = .ok (.aload_n 0, 1) := by decide +kernel
theorem dX4_readDark_64 : decode cX4_readDark 64 = .ok (.getfield 12, 3) := by decide +kernel
theorem dX4_readDark_67 : decode cX4_readDark 67 = .ok (.iload_n 1, 1) := by decide +kernel
theorem dX4_readDark_68 : decode cX4_readDark 68 = .ok (.iconst 1, 1) := by decide +kernel
theorem dX4_readDark_69 : decode cX4_readDark 69 = .ok (.iadd, 1) := by decide +kernel
theorem dX4_readDark_70 : decode cX4_readDark 70 = .ok (.putfield 182, 3) := by decide +kernel
theorem dX4_readDark_73 : decode cX4_readDark 73 = .ok (.return_, 1) := by decide +kernel
theorem dX4_readSemicolon_0 : decode cX4_readSemicolon 0 = .ok (.aload_n 0, 1) := by decide +kernel
theorem dX4_readSemicolon_1 : decode cX4_readSemicolon 1 = .ok (.getfield 35, 3) := by decide +kernel
theorem dX4_readSemicolon_4 : decode cX4_readSemicolon 4 = .ok (.ifCond .eq 4, 3) := by decide +kernel
theorem dX4_readSemicolon_7 : decode cX4_readSemicolon 7 = .ok (.return_, 1) := by decide +kernel
theorem dX4_readSemicolon_8 : decode cX4_readSemicolon 8 = .ok (.aload_n 0, 1) := by decide +kernel
theorem dX4_readSemicolon_9 : decode cX4_readSemicolon 9 = .ok (.getfield 31, 3) := by decide +kernel
theorem dX4_readSemicolon_12 : decode cX4_readSemicolon 12 = .ok (.getfield 50, 3) := by decide +kernel
theorem dX4_readSemicolon_15 : decode cX4_readSemicolon 15 = .ok (.iconst 3, 1) := by decide +kernel
theorem dX4_readSemicolon_16 : decode cX4_readSemicolon 16 = .ok (.if_icmp .eq 9, 3) := by decide +kernel
theorem dX4_readSemicolon_19 : decode cX4_readSemicolon 19 = .ok (.aload_n 0, 1) := by decide +kernel
theorem dX4_readSemicolon_20 : decode cX4_readSemicolon 20 = .ok (.iconst 1, 1) := by decide +kernel
theorem dX4_readSemicolon_21 : decode cX4_readSemicolon 21 = .ok (.invokevirtual 78, 3) := by decide +kernel
theorem dX4_readSemicolon_24 : decode cX4_readSemicolon 24 = .ok (.return_, 1) := by decide +kernel
theorem dX4_readSemicolon_25 : decode cX4_readSemicolon 25 = .ok (.aload_n 0, 1) := by decide +kernel
theorem dX4_readSemicolon_26 : decode cX4_readSemicolon 26 = .ok (.getfield 31, 3) := by decide +kernel
theorem dX4_readSemicolon_29 : decode cX4_readSemicolon 29 = .ok (.invokevirtual 82, 3) := by decide +kernel
theorem dX4_readSemicolon_32 : decode cX4_readSemicolon 32 = .ok (.return_, 1) := by decide +kernel
theorem dX4_readNumber_0 : decode cX4_readNumber 0 = .ok (.aload_n 0, 1) := by decide +kernel
theorem dX4_readNumber_1 : decode cX4_readNumber 1 = .ok (.getfield 35, 3) := by decide +kernel
theorem dX4_readNumber_4 : decode cX4_readNumber 4 = .ok (.ifCond .eq 5, 3) := by decide +kernel
theorem dX4_readNumber_7 : decode cX4_readNumber 7 = .ok (.iconst (-1), 1) := by decide +kernel
theorem dX4_readNumber_8 : decode cX4_readNumber 8 = .ok (.ireturn, 1) := by decide +kernel
theorem dX4_readNumber_9 : decode cX4_readNumber 9 = .ok (.aload_n 0, 1) := by decide +kernel
theorem dX4_readNumber_10 : decode cX4_readNumber 10 = .ok (.getfield 31, 3) := by decide +kernel
theorem dX4_readNumber_13 : decode cX4_readNumber 13 = .ok (.getfield 50, 3) := by decide +kernel
theorem dX4_readNumber_16 : decode cX4_readNumber 16 = .ok (.iconst 2, 1) := by decide +kernel
theorem dX4_readNumber_17 : decode cX4_readNumber 17 = .ok (.if_icmp .ne 14, 3) := by decide +kernel
theorem dX4_readNumber_20 : decode cX4_readNumber 20 = .ok (.aload_n 0, 1) := by decide +kernel
theorem dX4_readNumber_21 : decode cX4_readNumber 21 = .ok (.getfield 31, 3) := by decide +kernel
theorem dX4_readNumber_24 : decode cX4_readNumber 24 = .ok (.getfield 165, 3) := by decide +kernel
theorem dX4_readNumber_27 : decode cX4_readNumber 27 = .ok (.iconst 4, 1) := by decide +kernel
theorem dX4_readNumber_28 : decode cX4_readNumber 28 = .ok (.if_icmp .le 10, 3) := by decide +kernel
theorem dX4_readNumber_31 : decode cX4_readNumber 31 = .ok (.aload_n 0, 1) := by decide +kernel
theorem dX4_readNumber_32 : decode cX4_readNumber 32 = .ok (.iconst 1, 1) := by decide +kernel
theorem dX4_readNumber_33 : decode cX4_readNumber 33 = .ok (.invokevirtual 78, 3) := by decide +kernel
theorem dX4_readNumber_36 : decode cX4_readNumber 36 = .ok (.iconst (-1), 1) := by decide +kernel
theorem dX4_readNumber_37 : decode cX4_readNumber 37 = .ok (.ireturn, 1) := by decide +kernel
theorem dX4_readNumber_38 : decode cX4_readNumber 38 = .ok (.iconst 0, 1) := by decide +kernel
theorem dX4_readNumber_39 : decode cX4_readNumber 39 = .ok (.istore_n 3, 1) := by decide +kernel
theorem dX4_readNumber_40 : decode cX4_readNumber 40 = .ok (.iconst 0, 1) := by decide +kernel
theorem dX4_readNumber_41 : decode cX4_readNumber 41 = .ok (.istore 4, 2) := by decide +kernel
theorem dX4_readNumber_43 : decode cX4_readNumber 43 = .ok (.iload 4, 2) := by decide +kernel
theorem dX4_readNumber_45 : decode cX4_readNumber 45 = .ok (.aload_n 0, 1) := by decide +kernel
theorem dX4_readNumber_46 : decode cX4_readNumber 46 = .ok (.getfield 31, 3) := by decide +kernel
theorem dX4_readNumber_49 : decode cX4_readNumber 49 = .ok (.getfield 165, 3) := by decide +kernel
theorem dX4_readNumber_52 : decode cX4_readNumber 52 = .ok (.if_icmp .ge 35, 3) := by decide +kernel
theorem dX4_readNumber_55 : decode cX4_readNumber 55 = .ok (.bipush 10, 2) := by decide +kernel
theorem dX4_readNumber_57 : decode cX4_readNumber 57 = .ok (.iload_n 3, 1) := by decide +kernel
theorem dX4_readNumber_58 : decode cX4_readNumber 58 = .ok (.imul, 1) := by decide +kernel
theorem dX4_readNumber_59 : decode cX4_readNumber 59 = .ok (.aload_n 0, 1) := by decide +kernel
theorem dX4_readNumber_60 : decode cX4_readNumber 60 = .ok (.getfield 22, 3) := by decide +kernel
theorem dX4_readNumber_63 : decode cX4_readNumber 63 = .ok (.aload_n 0, 1) := by decide +kernel
theorem dX4_readNumber_64 : decode cX4_readNumber 64 = .ok (.getfield 31, 3) := by decide +kernel
theorem dX4_readNumber_67 : decode cX4_readNumber 67 = .ok (.getfield 73, 3) := by decide +kernel
theorem dX4_readNumber_70 : decode cX4_readNumber 70 = .ok (.iload 4, 2) := by decide +kernel
theorem dX4_readNumber_72 : decode cX4_readNumber 72 = .ok (.iadd, 1) := by decide +kernel
theorem dX4_readNumber_73 : decode cX4_readNumber 73 = .ok (.invokevirtual 168, 3) := by decide +kernel
theorem dX4_readNumber_76 : decode cX4_readNumber 76 = .ok (.iadd, 1) := by decide +kernel
theorem dX4_readNumber_77 : decode cX4_readNumber 77 = .ok (.bipush 48, 2) := by decide +kernel
theorem dX4_readNumber_79 : decode cX4_readNumber 79 = .ok (.isub, 1) := by decide +kernel
theorem dX4_readNumber_80 : decode cX4_readNumber 80 = .ok (.istore_n 3, 1) := by decide +kernel
theorem dX4_readNumber_81 : decode cX4_readNumber 81 = .ok (.iinc 4 1, 3) := by decide +kernel
theorem dX4_readNumber_84 : decode cX4_readNumber 84 = .ok (.goto (-41), 3) := by decide +kernel
theorem dX4_readNumber_87 : decode cX4_readNumber 87 = .ok (.iload_n 3, 1) := by decide +kernel
theorem dX4_readNumber_88 : decode cX4_readNumber 88 = .ok (.iload_n 1, 1) := by decide +kernel
theorem dX4_readNumber_89 : decode cX4_readNumber 89 = .ok (.if_icmp .lt 8, 3) := by decide +kernel
theorem dX4_readNumber_92 : decode cX4_readNumber 92 = .ok (.iload_n 3, 1) := by decide +kernel
theorem dX4_readNumber_93 : decode cX4_readNumber 93 = .ok (.iload_n 2, 1) := by decide +kernel
theorem dX4_readNumber_94 : decode cX4_readNumber 94 = .ok (.if_icmp .le 10, 3) := by decide +kernel
theorem dX4_readNumber_97 : decode cX4_readNumber 97 = .ok (.aload_n 0, 1) := by decide +kernel
theorem dX4_readNumber_98 : decode cX4_readNumber 98 = .ok (.iconst 2, 1) := by decide +kernel
theorem dX4_readNumber_99 : decode cX4_readNumber 99 = .ok (.invokevirtual 78, 3) := by decide +kernel
theorem dX4_readNumber_102 : decode cX4_readNumber 102 = .ok (.iconst (-1), 1) := by decide +kernel
theorem dX4_readNumber_103 : decode cX4_readNumber 103 = .ok (.ireturn, 1) := by decide +kernel
theorem dX4_readNumber_104 : decode cX4_readNumber 104 = .ok (.aload_n 0, 1) := by decide +kernel
theorem dX4_readNumber_105 : decode cX4_readNumber 105 = .ok (.getfield 31, 3) := by decide +kernel
theorem dX4_readNumber_108 : decode cX4_readNumber 108 = .ok (.invokevirtual 82, 3) := by decide +kernel
theorem dX4_readNumber_111 : decode cX4_readNumber 111 = .ok (.iload_n 3, 1) := by decide +kernel
theorem dX4_readNumber_112 : decode cX4_readNumber 112 = .ok (.ireturn, 1) := by decide +kernel
theorem dX4_readNewName_0 : decode cX4_readNewName 0 = .ok (.aload_n 0, 1) := by decide +kernel
theorem dX4_readNewName_1 : decode cX4_readNewName 1 = .ok (.invokevirtual 191, 3) := by decide +kernel
theorem dX4_readNewName_4 : decode cX4_readNewName 4 = .ok (.lstore_n 1, 1) := by decide +kernel
theorem dX4_readNewName_5 : decode cX4_readNewName 5 = .ok (.lload_n 1, 1) := by decide +kernel
theorem dX4_readNewName_6 : decode cX4_readNewName 6 = .ok (.lconst 0, 1) := by decide +kernel
theorem dX4_readNewName_7 : decode cX4_readNewName 7 = .ok (.lcmp, 1) := by decide +kernel
theorem dX4_readNewName_8 : decode cX4_readNewName 8 = .ok (.ifCond .eq 20, 3) := by decide +kernel
theorem dX4_readNewName_11 : decode cX4_readNewName 11 = .ok (.aload_n 0, 1) := by decide +kernel
theorem dX4_readNewName_12 : decode cX4_readNewName 12 = .ok (.getfield 12, 3) := by decide +kernel
theorem dX4_readNewName_15 : decode cX4_readNewName 15 = .ok (.lload_n 1, 1) := by decide +kernel
theorem dX4_readNewName_16 : decode cX4_readNewName 16 = .ok (.invokevirtual 194, 3) := by decide +kernel
theorem dX4_readNewName_19 : decode cX4_readNewName 19 = .ok (.iconst (-1), 1) := by decide +kernel
theorem dX4_readNewName_20 : decode cX4_readNewName 20 = .ok (.if_icmp .eq 8, 3) := by decide +kernel
theorem dX4_readNewName_23 : decode cX4_readNewName 23 = .ok (.aload_n 0, 1) := by decide +kernel
theorem dX4_readNewName_24 : decode cX4_readNewName 24 = .ok (.iconst 3, 1) := by decide +kernel
theorem dX4_readNewName_25 : decode cX4_readNewName 25 = .ok (.invokevirtual 78, 3) := by decide +kernel
theorem dX4_readNewName_28 : decode cX4_readNewName 28 = .ok (.aload_n 0, 1) := by decide +kernel
theorem dX4_readNewName_29 : decode cX4_readNewName 29 = .ok (.getfield 35, 3) := by decide +kernel
theorem dX4_readNewName_32 : decode cX4_readNewName 32 = .ok (.ifCond .ne 10, 3) := by decide +kernel
theorem dX4_readNewName_35 : decode cX4_readNewName 35 = .ok (.aload_n 0, 1) := by decide +kernel
theorem dX4_readNewName_36 : decode cX4_readNewName 36 = .ok (.getfield 31, 3) := by decide +kernel
theorem dX4_readNewName_39 : decode cX4_readNewName 39 = .ok (.invokevirtual 82, 3) := by decide +kernel
theorem dX4_readNewName_42 : decode cX4_readNewName 42 = .ok (.lload_n 1, 1) := by decide +kernel
theorem dX4_readNewName_43 : decode cX4_readNewName 43 = .ok (.lreturn, 1) := by decide +kernel
theorem dX4_readOutletName_0 : decode cX4_readOutletName 0 = .ok (.aload_n 0, 1) := by decide +kernel
theorem dX4_readOutletName_1 : decode cX4_readOutletName 1 = .ok (.invokevirtual 191, 3) := by decide +kernel
theorem dX4_readOutletName_4 : decode cX4_readOutletName 4 = .ok (.lstore_n 1, 1) := by decide +kernel
theorem dX4_readOutletName_5 : decode cX4_readOutletName 5 = .ok (.lload_n 1, 1) := by decide +kernel
theorem dX4_readOutletName_6 : decode cX4_readOutletName 6 = .ok (.lconst 0, 1) := by decide +kernel
theorem dX4_readOutletName_7 : decode cX4_readOutletName 7 = .ok (.lcmp, 1) := by decide +kernel
theorem dX4_readOutletName_8 : decode cX4_readOutletName 8 = .ok (.ifCond .ne 5, 3) := by decide +kernel
theorem dX4_readOutletName_11 : decode cX4_readOutletName 11 = .ok (.iconst (-1), 1) := by decide +kernel
theorem dX4_readOutletName_12 : decode cX4_readOutletName 12 = .ok (.ireturn, 1) := by decide +kernel
theorem dX4_readOutletName_13 : decode cX4_readOutletName 13 = .ok (.aload_n 0, 1) := by decide +kernel
theorem dX4_readOutletName_14 : decode cX4_readOutletName 14 = .ok (.getfield 12, 3) := by decide +kernel
theorem dX4_readOutletName_17 : decode cX4_readOutletName 17 = .ok (.lload_n 1, 1) := by decide +kernel
theorem dX4_readOutletName_18 : decode cX4_readOutletName 18 = .ok (.invokevirtual 194, 3) := by decide +kernel
theorem dX4_readOutletName_21 : decode cX4_readOutletName 21 = .ok (.istore_n 3, 1) := by decide +kernel
theorem dX4_readOutletName_22 : decode cX4_readOutletName 22 = .ok (.iload_n 3, 1) := by decide +kernel
theorem dX4_readOutletName_23 : decode cX4_readOutletName 23 = .ok (.iconst (-1), 1) := by decide +kernel
theorem dX4_readOutletName_24 : decode cX4_readOutletName 24 = .ok (.if_icmp .ne 8, 3) := by decide +kernel
theorem dX4_readOutletName_27 : decode cX4_readOutletName 27 = .ok (.aload_n 0, 1) := by decide +kernel
theorem dX4_readOutletName_28 : decode cX4_readOutletName 28 = .ok (.iconst 4, 1) := by decide +kernel
theorem dX4_readOutletName_29 : decode cX4_readOutletName 29 = .ok (.invokevirtual 78, 3) := by decide +kernel
theorem dX4_readOutletName_32 : decode cX4_readOutletName 32 = .ok (.iload_n 3, 1) := by decide +kernel
theorem dX4_readOutletName_33 : decode cX4_readOutletName 33 = .ok (.ireturn, 1) := by decide +kernel
theorem dX4_nameHere_0 : decode cX4_nameHere 0 = .ok (.aload_n 0, 1) := by decide +kernel
theorem dX4_nameHere_1 : decode cX4_nameHere 1 = .ok (.getfield 35, 3) := by decide +kernel
theorem dX4_nameHere_4 : decode cX4_nameHere 4 = .ok (.ifCond .eq 5, 3) := by decide +kernel
theorem dX4_nameHere_7 : decode cX4_nameHere 7 = .ok (.lconst 0, 1) := by decide +kernel
theorem dX4_nameHere_8 : decode cX4_nameHere 8 = .ok (.lreturn, 1) := by decide +kernel
theorem dX4_nameHere_9 : decode cX4_nameHere 9 = .ok (.aload_n 0, 1) := by decide +kernel
theorem dX4_nameHere_10 : decode cX4_nameHere 10 = .ok (.getfield 22, 3) := by decide +kernel
theorem dX4_nameHere_13 : decode cX4_nameHere 13 = .ok (.aload_n 0, 1) := by decide +kernel
theorem dX4_nameHere_14 : decode cX4_nameHere 14 = .ok (.getfield 31, 3) := by decide +kernel
theorem dX4_nameHere_17 : decode cX4_nameHere 17 = .ok (.getfield 73, 3) := by decide +kernel
theorem dX4_nameHere_20 : decode cX4_nameHere 20 = .ok (.aload_n 0, 1) := by decide +kernel
theorem dX4_nameHere_21 : decode cX4_nameHere 21 = .ok (.getfield 31, 3) := by decide +kernel
theorem dX4_nameHere_24 : decode cX4_nameHere 24 = .ok (.getfield 50, 3) := by decide +kernel
theorem dX4_nameHere_27 : decode cX4_nameHere 27 = .ok (.iconst 1, 1) := by decide +kernel
theorem dX4_nameHere_28 : decode cX4_nameHere 28 = .ok (.if_icmp .ne 13, 3) := by decide +kernel
theorem dX4_nameHere_31 : decode cX4_nameHere 31 = .ok (.aload_n 0, 1) := by decide +kernel
theorem dX4_nameHere_32 : decode cX4_nameHere 32 = .ok (.getfield 31, 3) := by decide +kernel
theorem dX4_nameHere_35 : decode cX4_nameHere 35 = .ok (.getfield 165, 3) := by decide +kernel
theorem dX4_nameHere_38 : decode cX4_nameHere 38 = .ok (.goto 4, 3) := by decide +kernel
theorem dX4_nameHere_41 : decode cX4_nameHere 41 = .ok (.iconst 0, 1) := by decide +kernel
theorem dX4_nameHere_42 : decode cX4_nameHere 42 = .ok (.invokevirtual 198, 3) := by decide +kernel
theorem dX4_nameHere_45 : decode cX4_nameHere 45 = .ok (.lstore_n 1, 1) := by decide +kernel
theorem dX4_nameHere_46 : decode cX4_nameHere 46 = .ok (.lload_n 1, 1) := by decide +kernel
theorem dX4_nameHere_47 : decode cX4_nameHere 47 = .ok (.lconst 0, 1) := by decide +kernel
theorem dX4_nameHere_48 : decode cX4_nameHere 48 = .ok (.lcmp, 1) := by decide +kernel
theorem dX4_nameHere_49 : decode cX4_nameHere 49 = .ok (.ifCond .ne 8, 3) := by decide +kernel
theorem dX4_nameHere_52 : decode cX4_nameHere 52 = .ok (.aload_n 0, 1) := by decide +kernel
theorem dX4_nameHere_53 : decode cX4_nameHere 53 = .ok (.iconst 1, 1) := by decide +kernel
theorem dX4_nameHere_54 : decode cX4_nameHere 54 = .ok (.invokevirtual 78, 3) := by decide +kernel
theorem dX4_nameHere_57 : decode cX4_nameHere 57 = .ok (.lload_n 1, 1) := by decide +kernel
theorem dX4_nameHere_58 : decode cX4_nameHere 58 = .ok (.lreturn, 1) := by decide +kernel
theorem dX5_init_0 : decode cX5_init 0 = .ok (.aload_n 0, 1) := by decide +kernel
theorem dX5_init_1 : decode cX5_init 1 = .ok (.invokespecial 3, 3) := by decide +kernel
theorem dX5_init_4 : decode cX5_init 4 = .ok (.aload_n 0, 1) := by decide +kernel
theorem dX5_init_5 : decode cX5_init 5 = .ok (.bipush 12, 2) := by decide +kernel
theorem dX5_init_7 : decode cX5_init 7 = .ok (.newarray .long, 2) := by decide +kernel
theorem dX5_init_9 : decode cX5_init 9 = .ok (.putfield 9, 3) := by decide +kernel
theorem dX5_init_12 : decode cX5_init 12 = .ok (.aload_n 0, 1) := by decide +kernel
theorem dX5_init_13 : decode cX5_init 13 = .ok (.bipush 12, 2) := by decide +kernel
theorem dX5_init_15 : decode cX5_init 15 = .ok (.newarray .int, 2) := by decide +kernel
theorem dX5_init_17 : decode cX5_init 17 = .ok (.putfield 15, 3) := by decide +kernel
theorem dX5_init_20 : decode cX5_init 20 = .ok (.aload_n 0, 1) := by decide +kernel
theorem dX5_init_21 : decode cX5_init 21 = .ok (.bipush 12, 2) := by decide +kernel
theorem dX5_init_23 : decode cX5_init 23 = .ok (.newarray .int, 2) := by decide +kernel
theorem dX5_init_25 : decode cX5_init 25 = .ok (.putfield 19, 3) := by decide +kernel
theorem dX5_init_28 : decode cX5_init 28 = .ok (.aload_n 0, 1) := by decide +kernel
theorem dX5_init_29 : decode cX5_init 29 = .ok (.bipush 12, 2) := by decide +kernel
theorem dX5_init_31 : decode cX5_init 31 = .ok (.newarray .int, 2) := by decide +kernel
theorem dX5_init_33 : decode cX5_init 33 = .ok (.putfield 22, 3) := by decide +kernel
theorem dX5_init_36 : decode cX5_init 36 = .ok (.aload_n 0, 1) := by decide +kernel
theorem dX5_init_37 : decode cX5_init 37 = .ok (.bipush 12, 2) := by decide +kernel
theorem dX5_init_39 : decode cX5_init 39 = .ok (.newarray .int, 2) := by decide +kernel
theorem dX5_init_41 : decode cX5_init 41 = .ok (.putfield 25, 3) := by decide +kernel
theorem dX5_init_44 : decode cX5_init 44 = .ok (.aload_n 0, 1) := by decide +kernel
theorem dX5_init_45 : decode cX5_init 45 = .ok (.bipush 12, 2) := by decide +kernel
theorem dX5_init_47 : decode cX5_init 47 = .ok (.newarray .int, 2) := by decide +kernel
theorem dX5_init_49 : decode cX5_init 49 = .ok (.putfield 28, 3) := by decide +kernel
theorem dX5_init_52 : decode cX5_init 52 = .ok (.aload_n 0, 1) := by decide +kernel
theorem dX5_init_53 : decode cX5_init 53 = .ok (.bipush 12, 2) := by decide +kernel
theorem dX5_init_55 : decode cX5_init 55 = .ok (.newarray .int, 2) := by decide +kernel
theorem dX5_init_57 : decode cX5_init 57 = .ok (.putfield 31, 3) := by decide +kernel
theorem dX5_init_60 : decode cX5_init 60 = .ok (.aload_n 0, 1) := by decide +kernel
theorem dX5_init_61 : decode cX5_init 61 = .ok (.iconst 4, 1) := by decide +kernel
theorem dX5_init_62 : decode cX5_init 62 = .ok (.newarray .int, 2) := by decide +kernel
theorem dX5_init_64 : decode cX5_init 64 = .ok (.putfield 34, 3) := by decide +kernel
theorem dX5_init_67 : decode cX5_init 67 = .ok (.aload_n 0, 1) := by decide +kernel
theorem dX5_init_68 : decode cX5_init 68 = .ok (.iconst 4, 1) := by decide +kernel
theorem dX5_init_69 : decode cX5_init 69 = .ok (.newarray .int, 2) := by decide +kernel
theorem dX5_init_71 : decode cX5_init 71 = .ok (.putfield 37, 3) := by decide +kernel
theorem dX5_init_74 : decode cX5_init 74 = .ok (.aload_n 0, 1) := by decide +kernel
theorem dX5_init_75 : decode cX5_init 75 = .ok (.invokevirtual 40, 3) := by decide +kernel
theorem dX5_init_78 : decode cX5_init 78 = .ok (.return_, 1) := by decide +kernel
theorem dX5_clear_0 : decode cX5_clear 0 = .ok (.aload_n 0, 1) := by decide +kernel
theorem dX5_clear_1 : decode cX5_clear 1 = .ok (.iconst 0, 1) := by decide +kernel
theorem dX5_clear_2 : decode cX5_clear 2 = .ok (.putfield 43, 3) := by decide +kernel
theorem dX5_clear_5 : decode cX5_clear 5 = .ok (.aload_n 0, 1) := by decide +kernel
theorem dX5_clear_6 : decode cX5_clear 6 = .ok (.iconst 0, 1) := by decide +kernel
theorem dX5_clear_7 : decode cX5_clear 7 = .ok (.putfield 47, 3) := by decide +kernel
theorem dX5_clear_10 : decode cX5_clear 10 = .ok (.aload_n 0, 1) := by decide +kernel
theorem dX5_clear_11 : decode cX5_clear 11 = .ok (.bipush 100, 2) := by decide +kernel
theorem dX5_clear_13 : decode cX5_clear 13 = .ok (.putfield 50, 3) := by decide +kernel
theorem dX5_clear_16 : decode cX5_clear 16 = .ok (.aload_n 0, 1) := by decide +kernel
theorem dX5_clear_17 : decode cX5_clear 17 = .ok (.iconst 3, 1) := by decide +kernel
theorem dX5_clear_18 : decode cX5_clear 18 = .ok (.putfield 53, 3) := by decide +kernel
theorem dX5_clear_21 : decode cX5_clear 21 = .ok (.aload_n 0, 1) := by decide +kernel
theorem dX5_clear_22 : decode cX5_clear 22 = .ok (.iconst 4, 1) := by decide +kernel
theorem dX5_clear_23 : decode cX5_clear 23 = .ok (.putfield 56, 3) := by decide +kernel
theorem dX5_clear_26 : decode cX5_clear 26 = .ok (.aload_n 0, 1) := by decide +kernel
theorem dX5_clear_27 : decode cX5_clear 27 = .ok (.iconst 0, 1) := by decide +kernel
theorem dX5_clear_28 : decode cX5_clear 28 = .ok (.putfield 59, 3) := by decide +kernel
theorem dX5_clear_31 : decode cX5_clear 31 = .ok (.aload_n 0, 1) := by decide +kernel
theorem dX5_clear_32 : decode cX5_clear 32 = .ok (.iconst 0, 1) := by decide +kernel
theorem dX5_clear_33 : decode cX5_clear 33 = .ok (.putfield 63, 3) := by decide +kernel
theorem dX5_clear_36 : decode cX5_clear 36 = .ok (.aload_n 0, 1) := by decide +kernel
theorem dX5_clear_37 : decode cX5_clear 37 = .ok (.iconst 0, 1) := by decide +kernel
theorem dX5_clear_38 : decode cX5_clear 38 = .ok (.putfield 66, 3) := by decide +kernel
theorem dX5_clear_41 : decode cX5_clear 41 = .ok (.aload_n 0, 1) := by decide +kernel
theorem dX5_clear_42 : decode cX5_clear 42 = .ok (.iconst 0, 1) := by decide +kernel
theorem dX5_clear_43 : decode cX5_clear 43 = .ok (.putfield 69, 3) := by decide +kernel
theorem dX5_clear_46 : decode cX5_clear 46 = .ok (.return_, 1) := by decide +kernel
theorem dX5_copyFrom_0 : decode cX5_copyFrom 0 = .ok (.aload_n 0, 1) := by decide +kernel
theorem dX5_copyFrom_1 : decode cX5_copyFrom 1 = .ok (.aload_n 1, 1) := by decide +kernel
theorem dX5_copyFrom_2 : decode cX5_copyFrom 2 = .ok (.getfield 43, 3) := by decide +kernel
theorem dX5_copyFrom_5 : decode cX5_copyFrom 5 = .ok (.putfield 43, 3) := by decide +kernel
theorem dX5_copyFrom_8 : decode cX5_copyFrom 8 = .ok (.aload_n 1, 1) := by decide +kernel
theorem dX5_copyFrom_9 : decode cX5_copyFrom 9 = .ok (.getfield 9, 3) := by decide +kernel
theorem dX5_copyFrom_12 : decode cX5_copyFrom 12 = .ok (.iconst 0, 1) := by decide +kernel
theorem dX5_copyFrom_13 : decode cX5_copyFrom 13 = .ok (.aload_n 0, 1) := by decide +kernel
theorem dX5_copyFrom_14 : decode cX5_copyFrom 14 = .ok (.getfield 9, 3) := by decide +kernel
theorem dX5_copyFrom_17 : decode cX5_copyFrom 17 = .ok (.iconst 0, 1) := by decide +kernel
theorem dX5_copyFrom_18 : decode cX5_copyFrom 18 = .ok (.bipush 12, 2) := by decide +kernel
theorem dX5_copyFrom_20 : decode cX5_copyFrom 20 = .ok (.invokestatic 72, 3) := by decide +kernel
theorem dX5_copyFrom_23 : decode cX5_copyFrom 23 = .ok (.aload_n 1, 1) := by decide +kernel
theorem dX5_copyFrom_24 : decode cX5_copyFrom 24 = .ok (.getfield 15, 3) := by decide +kernel
theorem dX5_copyFrom_27 : decode cX5_copyFrom 27 = .ok (.aload_n 0, 1) := by decide +kernel
theorem dX5_copyFrom_28 : decode cX5_copyFrom 28 = .ok (.getfield 15, 3) := by decide +kernel
theorem dX5_copyFrom_31 : decode cX5_copyFrom 31 = .ok (.invokestatic 78, 3) := by decide +kernel
theorem dX5_copyFrom_34 : decode cX5_copyFrom 34 = .ok (.aload_n 1, 1) := by decide +kernel
theorem dX5_copyFrom_35 : decode cX5_copyFrom 35 = .ok (.getfield 19, 3) := by decide +kernel
theorem dX5_copyFrom_38 : decode cX5_copyFrom 38 = .ok (.aload_n 0, 1) := by decide +kernel
theorem dX5_copyFrom_39 : decode cX5_copyFrom 39 = .ok (.getfield 19, 3) := by decide +kernel
theorem dX5_copyFrom_42 : decode cX5_copyFrom 42 = .ok (.invokestatic 78, 3) := by decide +kernel
theorem dX5_copyFrom_45 : decode cX5_copyFrom 45 = .ok (.aload_n 1, 1) := by decide +kernel
theorem dX5_copyFrom_46 : decode cX5_copyFrom 46 = .ok (.getfield 22, 3) := by decide +kernel
theorem dX5_copyFrom_49 : decode cX5_copyFrom 49 = .ok (.aload_n 0, 1) := by decide +kernel
theorem dX5_copyFrom_50 : decode cX5_copyFrom 50 = .ok (.getfield 22, 3) := by decide +kernel
theorem dX5_copyFrom_53 : decode cX5_copyFrom 53 = .ok (.invokestatic 78, 3) := by decide +kernel
theorem dX5_copyFrom_56 : decode cX5_copyFrom 56 = .ok (.aload_n 1, 1) := by decide +kernel
theorem dX5_copyFrom_57 : decode cX5_copyFrom 57 = .ok (.getfield 25, 3) := by decide +kernel
theorem dX5_copyFrom_60 : decode cX5_copyFrom 60 = .ok (.aload_n 0, 1) := by decide +kernel
theorem dX5_copyFrom_61 : decode cX5_copyFrom 61 = .ok (.getfield 25, 3) := by decide +kernel
theorem dX5_copyFrom_64 : decode cX5_copyFrom 64 = .ok (.invokestatic 78, 3) := by decide +kernel
theorem dX5_copyFrom_67 : decode cX5_copyFrom 67 = .ok (.aload_n 1, 1) := by decide +kernel
theorem dX5_copyFrom_68 : decode cX5_copyFrom 68 = .ok (.getfield 28, 3) := by decide +kernel
theorem dX5_copyFrom_71 : decode cX5_copyFrom 71 = .ok (.aload_n 0, 1) := by decide +kernel
theorem dX5_copyFrom_72 : decode cX5_copyFrom 72 = .ok (.getfield 28, 3) := by decide +kernel
theorem dX5_copyFrom_75 : decode cX5_copyFrom 75 = .ok (.invokestatic 78, 3) := by decide +kernel
theorem dX5_copyFrom_78 : decode cX5_copyFrom 78 = .ok (.aload_n 1, 1) := by decide +kernel
theorem dX5_copyFrom_79 : decode cX5_copyFrom 79 = .ok (.getfield 31, 3) := by decide +kernel
theorem dX5_copyFrom_82 : decode cX5_copyFrom 82 = .ok (.aload_n 0, 1) := by decide +kernel
theorem dX5_copyFrom_83 : decode cX5_copyFrom 83 = .ok (.getfield 31, 3) := by decide +kernel
theorem dX5_copyFrom_86 : decode cX5_copyFrom 86 = .ok (.invokestatic 78, 3) := by decide +kernel
theorem dX5_copyFrom_89 : decode cX5_copyFrom 89 = .ok (.aload_n 0, 1) := by decide +kernel
theorem dX5_copyFrom_90 : decode cX5_copyFrom 90 = .ok (.aload_n 1, 1) := by decide +kernel
theorem dX5_copyFrom_91 : decode cX5_copyFrom 91 = .ok (.getfield 47, 3) := by decide +kernel
theorem dX5_copyFrom_94 : decode cX5_copyFrom 94 = .ok (.putfield 47, 3) := by decide +kernel
theorem dX5_copyFrom_97 : decode cX5_copyFrom 97 = .ok (.aload_n 0, 1) := by decide +kernel
theorem dX5_copyFrom_98 : decode cX5_copyFrom 98 = .ok (.aload_n 1, 1) := by decide +kernel
theorem dX5_copyFrom_99 : decode cX5_copyFrom 99 = .ok (.getfield 50, 3) := by decide +kernel
theorem dX5_copyFrom_102 : decode cX5_copyFrom 102 = .ok (.putfield 50, 3) := by decide +kernel
theorem dX5_copyFrom_105 : decode cX5_copyFrom 105 = .ok (.aload_n 0, 1) := by decide +kernel
theorem dX5_copyFrom_106 : decode cX5_copyFrom 106 = .ok (.aload_n 1, 1) := by decide +kernel
theorem dX5_copyFrom_107 : decode cX5_copyFrom 107 = .ok (.getfield 53, 3) := by decide +kernel
theorem dX5_copyFrom_110 : decode cX5_copyFrom 110 = .ok (.putfield 53, 3) := by decide +kernel
theorem dX5_copyFrom_113 : decode cX5_copyFrom 113 = .ok (.aload_n 0, 1) := by decide +kernel
theorem dX5_copyFrom_114 : decode cX5_copyFrom 114 = .ok (.aload_n 1, 1) := by decide +kernel
theorem dX5_copyFrom_115 : decode cX5_copyFrom 115 = .ok (.getfield 56, 3) := by decide +kernel
theorem dX5_copyFrom_118 : decode cX5_copyFrom 118 = .ok (.putfield 56, 3) := by decide +kernel
theorem dX5_copyFrom_121 : decode cX5_copyFrom 121 = .ok (.aload_n 0, 1) := by decide +kernel
theorem dX5_copyFrom_122 : decode cX5_copyFrom 122 = .ok (.aload_n 1, 1) := by decide +kernel
theorem dX5_copyFrom_123 : decode cX5_copyFrom 123 = .ok (.getfield 59, 3) := by decide +kernel
theorem dX5_copyFrom_126 : decode cX5_copyFrom 126 = .ok (.putfield 59, 3) := by decide +kernel
theorem dX5_copyFrom_129 : decode cX5_copyFrom 129 = .ok (.aload_n 0, 1) := by decide +kernel
theorem dX5_copyFrom_130 : decode cX5_copyFrom 130 = .ok (.aload_n 1, 1) := by decide +kernel
theorem dX5_copyFrom_131 : decode cX5_copyFrom 131 = .ok (.getfield 63, 3) := by decide +kernel
theorem dX5_copyFrom_134 : decode cX5_copyFrom 134 = .ok (.putfield 63, 3) := by decide +kernel
theorem dX5_copyFrom_137 : decode cX5_copyFrom 137 = .ok (.aload_n 0, 1) := by decide +kernel
theorem dX5_copyFrom_138 : decode cX5_copyFrom 138 = .ok (.aload_n 1, 1) := by decide +kernel
theorem dX5_copyFrom_139 : decode cX5_copyFrom 139 = .ok (.getfield 66, 3) := by decide +kernel
theorem dX5_copyFrom_142 : decode cX5_copyFrom 142 = .ok (.putfield 66, 3) := by decide +kernel
theorem dX5_copyFrom_145 : decode cX5_copyFrom 145 = .ok (.aload_n 0, 1) := by decide +kernel
theorem dX5_copyFrom_146 : decode cX5_copyFrom 146 = .ok (.aload_n 1, 1) := by decide +kernel
theorem dX5_copyFrom_147 : decode cX5_copyFrom 147 = .ok (.getfield 69, 3) := by decide +kernel
theorem dX5_copyFrom_150 : decode cX5_copyFrom 150 = .ok (.putfield 69, 3) := by decide +kernel
theorem dX5_copyFrom_153 : decode cX5_copyFrom 153 = .ok (.aload_n 1, 1) := by decide +kernel
theorem dX5_copyFrom_154 : decode cX5_copyFrom 154 = .ok (.getfield 34, 3) := by decide +kernel
theorem dX5_copyFrom_157 : decode cX5_copyFrom 157 = .ok (.aload_n 0, 1) := by decide +kernel
theorem dX5_copyFrom_158 : decode cX5_copyFrom 158 = .ok (.getfield 34, 3) := by decide +kernel
theorem dX5_copyFrom_161 : decode cX5_copyFrom 161 = .ok (.invokestatic 78, 3) := by decide +kernel
theorem dX5_copyFrom_164 : decode cX5_copyFrom 164 = .ok (.aload_n 1, 1) := by decide +kernel
theorem dX5_copyFrom_165 : decode cX5_copyFrom 165 = .ok (.getfield 37, 3) := by decide +kernel
theorem dX5_copyFrom_168 : decode cX5_copyFrom 168 = .ok (.aload_n 0, 1) := by decide +kernel
theorem dX5_copyFrom_169 : decode cX5_copyFrom 169 = .ok (.getfield 37, 3) := by decide +kernel
theorem dX5_copyFrom_172 : decode cX5_copyFrom 172 = .ok (.invokestatic 78, 3) := by decide +kernel
theorem dX5_copyFrom_175 : decode cX5_copyFrom 175 = .ok (.return_, 1) := by decide +kernel
theorem dX5_numberOf_0 : decode cX5_numberOf 0 = .ok (.iconst 0, 1) := by decide +kernel
theorem dX5_numberOf_1 : decode cX5_numberOf 1 = .ok (.istore_n 3, 1) := by decide +kernel
theorem dX5_numberOf_2 : decode cX5_numberOf 2 = .ok (.iload_n 3, 1) := by decide +kernel
theorem dX5_numberOf_3 : decode cX5_numberOf 3 = .ok (.aload_n 0, 1) := by decide +kernel
theorem dX5_numberOf_4 : decode cX5_numberOf 4 = .ok (.getfield 43, 3) := by decide +kernel
theorem dX5_numberOf_7 : decode cX5_numberOf 7 = .ok (.if_icmp .ge 22, 3) := by decide +kernel
theorem dX5_numberOf_10 : decode cX5_numberOf 10 = .ok (.aload_n 0, 1) := by decide +kernel
theorem dX5_numberOf_11 : decode cX5_numberOf 11 = .ok (.getfield 9, 3) := by decide +kernel
theorem dX5_numberOf_14 : decode cX5_numberOf 14 = .ok (.iload_n 3, 1) := by decide +kernel
theorem dX5_numberOf_15 : decode cX5_numberOf 15 = .ok (.laload, 1) := by decide +kernel
theorem dX5_numberOf_16 : decode cX5_numberOf 16 = .ok (.lload_n 1, 1) := by decide +kernel
theorem dX5_numberOf_17 : decode cX5_numberOf 17 = .ok (.lcmp, 1) := by decide +kernel
theorem dX5_numberOf_18 : decode cX5_numberOf 18 = .ok (.ifCond .ne 5, 3) := by decide +kernel
theorem dX5_numberOf_21 : decode cX5_numberOf 21 = .ok (.iload_n 3, 1) := by decide +kernel
theorem dX5_numberOf_22 : decode cX5_numberOf 22 = .ok (.ireturn, 1) := by decide +kernel
theorem dX5_numberOf_23 : decode cX5_numberOf 23 = .ok (.iinc 3 1, 3) := by decide +kernel
theorem dX5_numberOf_26 : decode cX5_numberOf 26 = .ok (.goto (-24), 3) := by decide +kernel
theorem dX5_numberOf_29 : decode cX5_numberOf 29 = .ok (.iconst (-1), 1) := by decide +kernel
theorem dX5_numberOf_30 : decode cX5_numberOf 30 = .ok (.ireturn, 1) := by decide +kernel
theorem dX5_needsInAll_0 : decode cX5_needsInAll 0 = .ok (.iconst 0, 1) := by decide +kernel
theorem dX5_needsInAll_1 : decode cX5_needsInAll 1 = .ok (.istore_n 1, 1) := by decide +kernel
theorem dX5_needsInAll_2 : decode cX5_needsInAll 2 = .ok (.iconst 0, 1) := by decide +kernel
theorem dX5_needsInAll_3 : decode cX5_needsInAll 3 = .ok (.istore_n 2, 1) := by decide +kernel
theorem dX5_needsInAll_4 : decode cX5_needsInAll 4 = .ok (.iload_n 2, 1) := by decide +kernel
theorem dX5_needsInAll_5 : decode cX5_needsInAll 5 = .ok (.aload_n 0, 1) := by decide +kernel
theorem dX5_needsInAll_6 : decode cX5_needsInAll 6 = .ok (.getfield 43, 3) := by decide +kernel
theorem dX5_needsInAll_9 : decode cX5_needsInAll 9 = .ok (.if_icmp .ge 21, 3) := by decide +kernel
theorem dX5_needsInAll_12 : decode cX5_needsInAll 12 = .ok (.iload_n 1, 1) := by decide +kernel
theorem dX5_needsInAll_13 : decode cX5_needsInAll 13 = .ok (.aload_n 0, 1) := by decide +kernel
theorem dX5_needsInAll_14 : decode cX5_needsInAll 14 = .ok (.getfield 31, 3) := by decide +kernel
theorem dX5_needsInAll_17 : decode cX5_needsInAll 17 = .ok (.iload_n 2, 1) := by decide +kernel
theorem dX5_needsInAll_18 : decode cX5_needsInAll 18 = .ok (.iaload, 1) := by decide +kernel
theorem dX5_needsInAll_19 : decode cX5_needsInAll 19 = .ok (.invokestatic 82, 3) := by decide +kernel
theorem dX5_needsInAll_22 : decode cX5_needsInAll 22 = .ok (.iadd, 1) := by decide +kernel
theorem dX5_needsInAll_23 : decode cX5_needsInAll 23 = .ok (.istore_n 1, 1) := by decide +kernel
theorem dX5_needsInAll_24 : decode cX5_needsInAll 24 = .ok (.iinc 2 1, 3) := by decide +kernel
theorem dX5_needsInAll_27 : decode cX5_needsInAll 27 = .ok (.goto (-23), 3) := by decide +kernel
theorem dX5_needsInAll_30 : decode cX5_needsInAll 30 = .ok (.iload_n 1, 1) := by decide +kernel
theorem dX5_needsInAll_31 : decode cX5_needsInAll 31 = .ok (.ireturn, 1) := by decide +kernel
theorem dX5_neededBy_0 : decode cX5_neededBy 0 = .ok (.iconst 0, 1) := by decide +kernel
theorem dX5_neededBy_1 : decode cX5_neededBy 1 = .ok (.istore_n 2, 1) := by decide +kernel
theorem dX5_neededBy_2 : decode cX5_neededBy 2 = .ok (.iconst 0, 1) := by decide +kernel
theorem dX5_neededBy_3 : decode cX5_neededBy 3 = .ok (.istore_n 3, 1) := by decide +kernel
theorem dX5_neededBy_4 : decode cX5_neededBy 4 = .ok (.iload_n 3, 1) := by decide +kernel
theorem dX5_neededBy_5 : decode cX5_neededBy 5 = .ok (.aload_n 0, 1) := by decide +kernel
theorem dX5_neededBy_6 : decode cX5_neededBy 6 = .ok (.getfield 43, 3) := by decide +kernel
theorem dX5_neededBy_9 : decode cX5_neededBy 9 = .ok (.if_icmp .ge 28, 3) := by decide +kernel
theorem dX5_neededBy_12 : decode cX5_neededBy 12 = .ok (.aload_n 0, 1) := by decide +kernel
theorem dX5_neededBy_13 : decode cX5_neededBy 13 = .ok (.getfield 31, 3) := by decide +kernel
theorem dX5_neededBy_16 : decode cX5_neededBy 16 = .ok (.iload_n 3, 1) := by decide +kernel
theorem dX5_neededBy_17 : decode cX5_neededBy 17 = .ok (.iaload, 1) := by decide +kernel
theorem dX5_neededBy_18 : decode cX5_neededBy 18 = .ok (.iload_n 1, 1) := by decide +kernel
theorem dX5_neededBy_19 : decode cX5_neededBy 19 = .ok (.invokestatic 88, 3) := by decide +kernel
theorem dX5_neededBy_22 : decode cX5_neededBy 22 = .ok (.ifCond .eq 9, 3) := by decide +kernel
theorem dX5_neededBy_25 : decode cX5_neededBy 25 = .ok (.iload_n 2, 1) := by decide +kernel
theorem dX5_neededBy_26 : decode cX5_neededBy 26 = .ok (.iconst 1, 1) := by decide +kernel
theorem dX5_neededBy_27 : decode cX5_neededBy 27 = .ok (.iload_n 3, 1) := by decide +kernel
theorem dX5_neededBy_28 : decode cX5_neededBy 28 = .ok (.ishl, 1) := by decide +kernel
theorem dX5_neededBy_29 : decode cX5_neededBy 29 = .ok (.ior, 1) := by decide +kernel
theorem dX5_neededBy_30 : decode cX5_neededBy 30 = .ok (.istore_n 2, 1) := by decide +kernel
theorem dX5_neededBy_31 : decode cX5_neededBy 31 = .ok (.iinc 3 1, 3) := by decide +kernel
theorem dX5_neededBy_34 : decode cX5_neededBy 34 = .ok (.goto (-30), 3) := by decide +kernel
theorem dX5_neededBy_37 : decode cX5_neededBy 37 = .ok (.iload_n 2, 1) := by decide +kernel
theorem dX5_neededBy_38 : decode cX5_neededBy 38 = .ok (.ireturn, 1) := by decide +kernel
theorem dX6_init_0 : decode cX6_init 0 = .ok (.aload_n 0, 1) := by decide +kernel
theorem dX6_init_1 : decode cX6_init 1 = .ok (.invokespecial 3, 3) := by decide +kernel
theorem dX6_init_4 : decode cX6_init 4 = .ok (.aload_n 0, 1) := by decide +kernel
theorem dX6_init_5 : decode cX6_init 5 = .ok (.sipush 900, 3) := by decide +kernel
theorem dX6_init_8 : decode cX6_init 8 = .ok (.newarray .byte, 2) := by decide +kernel
theorem dX6_init_10 : decode cX6_init 10 = .ok (.putfield 9, 3) := by decide +kernel
theorem dX6_init_13 : decode cX6_init 13 = .ok (.return_, 1) := by decide +kernel
theorem dX6_addBytes_0 : decode cX6_addBytes 0 = .ok (.bipush 24, 2) := by decide +kernel
theorem dX6_addBytes_2 : decode cX6_addBytes 2 = .ok (.istore_n 2, 1) := by decide +kernel
theorem dX6_addBytes_3 : decode cX6_addBytes 3 = .ok (.iload_n 2, 1) := by decide +kernel
theorem dX6_addBytes_4 : decode cX6_addBytes 4 = .ok (.ifCond .lt 44, 3) := by decide +kernel
theorem dX6_addBytes_7 : decode cX6_addBytes 7 = .ok (.aload_n 0, 1) := by decide +kernel
theorem dX6_addBytes_8 : decode cX6_addBytes 8 = .ok (.getfield 15, 3) := by decide +kernel
theorem dX6_addBytes_11 : decode cX6_addBytes 11 = .ok (.aload_n 0, 1) := by decide +kernel
theorem dX6_addBytes_12 : decode cX6_addBytes 12 = .ok (.getfield 9, 3) := by decide +kernel
theorem dX6_addBytes_15 : decode cX6_addBytes 15 = .ok (.arraylength, 1) := by decide +kernel
theorem dX6_addBytes_16 : decode cX6_addBytes 16 = .ok (.if_icmp .ge 32, 3) := by decide +kernel
theorem dX6_addBytes_19 : decode cX6_addBytes 19 = .ok (.aload_n 0, 1) := by decide +kernel
theorem dX6_addBytes_20 : decode cX6_addBytes 20 = .ok (.getfield 9, 3) := by decide +kernel
theorem dX6_addBytes_23 : decode cX6_addBytes 23 = .ok (.aload_n 0, 1) := by decide +kernel
theorem dX6_addBytes_24 : decode cX6_addBytes 24 = .ok (.getfield 15, 3) := by decide +kernel
theorem dX6_addBytes_27 : decode cX6_addBytes 27 = .ok (.iload_n 1, 1) := by decide +kernel
theorem dX6_addBytes_28 : decode cX6_addBytes 28 = .ok (.iload_n 2, 1) := by decide +kernel
theorem dX6_addBytes_29 : decode cX6_addBytes 29 = .ok (.ishr, 1) := by decide +kernel
theorem dX6_addBytes_30 : decode cX6_addBytes 30 = .ok (.i2b, 1) := by decide +kernel
theorem dX6_addBytes_31 : decode cX6_addBytes 31 = .ok (.bastore, 1) := by decide +kernel
theorem dX6_addBytes_32 : decode cX6_addBytes 32 = .ok (.aload_n 0, 1) := by decide +kernel
theorem dX6_addBytes_33 : decode cX6_addBytes 33 = .ok (.dup, 1) := by decide +kernel
theorem dX6_addBytes_34 : decode cX6_addBytes 34 = .ok (.getfield 15, 3) := by decide +kernel
theorem dX6_addBytes_37 : decode cX6_addBytes 37 = .ok (.iconst 1, 1) := by decide +kernel
theorem dX6_addBytes_38 : decode cX6_addBytes 38 = .ok (.iadd, 1) := by decide +kernel
theorem dX6_addBytes_39 : decode cX6_addBytes 39 = .ok (.putfield 15, 3) := by decide +kernel
theorem dX6_addBytes_42 : decode cX6_addBytes 42 = .ok (.iinc 2 (-8), 3) := by decide +kernel
theorem dX6_addBytes_45 : decode cX6_addBytes 45 = .ok (.goto (-42), 3) := by decide +kernel
theorem dX6_addBytes_48 : decode cX6_addBytes 48 = .ok (.return_, 1) := by decide +kernel
theorem dX6_byteAt_0 : decode cX6_byteAt 0 = .ok (.iload_n 1, 1) := by decide +kernel
theorem dX6_byteAt_1 : decode cX6_byteAt 1 = .ok (.ifCond .lt 11, 3) := by decide +kernel
theorem dX6_byteAt_4 : decode cX6_byteAt 4 = .ok (.iload_n 1, 1) := by decide +kernel
theorem dX6_byteAt_5 : decode cX6_byteAt 5 = .ok (.aload_n 0, 1) := by decide +kernel
theorem dX6_byteAt_6 : decode cX6_byteAt 6 = .ok (.getfield 15, 3) := by decide +kernel
theorem dX6_byteAt_9 : decode cX6_byteAt 9 = .ok (.if_icmp .lt 7, 3) := by decide +kernel
theorem dX6_byteAt_12 : decode cX6_byteAt 12 = .ok (.iconst (-1), 1) := by decide +kernel
theorem dX6_byteAt_13 : decode cX6_byteAt 13 = .ok (.goto 13, 3) := by decide +kernel
theorem dX6_byteAt_16 : decode cX6_byteAt 16 = .ok (.aload_n 0, 1) := by decide +kernel
theorem dX6_byteAt_17 : decode cX6_byteAt 17 = .ok (.getfield 9, 3) := by decide +kernel
theorem dX6_byteAt_20 : decode cX6_byteAt 20 = .ok (.iload_n 1, 1) := by decide +kernel
theorem dX6_byteAt_21 : decode cX6_byteAt 21 = .ok (.baload, 1) := by decide +kernel
theorem dX6_byteAt_22 : decode cX6_byteAt 22 = .ok (.sipush 255, 3) := by decide +kernel
theorem dX6_byteAt_25 : decode cX6_byteAt 25 = .ok (.iand, 1) := by decide +kernel
theorem dX6_byteAt_26 : decode cX6_byteAt 26 = .ok (.ireturn, 1) := by decide +kernel
theorem dX6_kindAt_0 : decode cX6_kindAt 0 = .ok (.iload_n 1, 1) := by decide +kernel
theorem dX6_kindAt_1 : decode cX6_kindAt 1 = .ok (.ifCond .lt 11, 3) := by decide +kernel
theorem dX6_kindAt_4 : decode cX6_kindAt 4 = .ok (.iload_n 1, 1) := by decide +kernel
theorem dX6_kindAt_5 : decode cX6_kindAt 5 = .ok (.aload_n 0, 1) := by decide +kernel
theorem dX6_kindAt_6 : decode cX6_kindAt 6 = .ok (.getfield 15, 3) := by decide +kernel
theorem dX6_kindAt_9 : decode cX6_kindAt 9 = .ok (.if_icmp .lt 5, 3) := by decide +kernel
theorem dX6_kindAt_12 : decode cX6_kindAt 12 = .ok (.iconst 0, 1) := by decide +kernel
theorem dX6_kindAt_13 : decode cX6_kindAt 13 = .ok (.ireturn, 1) := by decide +kernel
theorem dX6_kindAt_14 : decode cX6_kindAt 14 = .ok (.aload_n 0, 1) := by decide +kernel
theorem dX6_kindAt_15 : decode cX6_kindAt 15 = .ok (.getfield 9, 3) := by decide +kernel
theorem dX6_kindAt_18 : decode cX6_kindAt 18 = .ok (.iload_n 1, 1) := by decide +kernel
theorem dX6_kindAt_19 : decode cX6_kindAt 19 = .ok (.baload, 1) := by decide +kernel
theorem dX6_kindAt_20 : decode cX6_kindAt 20 = .ok (.istore_n 2, 1) := by decide +kernel
theorem dX6_kindAt_21 : decode cX6_kindAt 21 = .ok (.iload_n 2, 1) := by decide +kernel
theorem dX6_kindAt_22 : decode cX6_kindAt 22 = .ok (.bipush 97, 2) := by decide +kernel
theorem dX6_kindAt_24 : decode cX6_kindAt 24 = .ok (.if_icmp .lt 11, 3) := by decide +kernel
theorem dX6_kindAt_27 : decode cX6_kindAt 27 = .ok (.iload_n 2, 1) := by decide +kernel
theorem dX6_kindAt_28 : decode cX6_kindAt 28 = .ok (.bipush 122, 2) := by decide +kernel
theorem dX6_kindAt_30 : decode cX6_kindAt 30 = .ok (.if_icmp .gt 5, 3) := by decide +kernel
theorem dX6_kindAt_33 : decode cX6_kindAt 33 = .ok (.iconst 1, 1) := by decide +kernel
theorem dX6_kindAt_34 : decode cX6_kindAt 34 = .ok (.ireturn, 1) := by decide +kernel
theorem dX6_kindAt_35 : decode cX6_kindAt 35 = .ok (.iload_n 2, 1) := by decide +kernel
theorem dX6_kindAt_36 : decode cX6_kindAt 36 = .ok (.bipush 48, 2) := by decide +kernel
theorem dX6_kindAt_38 : decode cX6_kindAt 38 = .ok (.if_icmp .lt 11, 3) := by decide +kernel
theorem dX6_kindAt_41 : decode cX6_kindAt 41 = .ok (.iload_n 2, 1) := by decide +kernel
theorem dX6_kindAt_42 : decode cX6_kindAt 42 = .ok (.bipush 57, 2) := by decide +kernel
theorem dX6_kindAt_44 : decode cX6_kindAt 44 = .ok (.if_icmp .gt 5, 3) := by decide +kernel
theorem dX6_kindAt_47 : decode cX6_kindAt 47 = .ok (.iconst 2, 1) := by decide +kernel
theorem dX6_kindAt_48 : decode cX6_kindAt 48 = .ok (.ireturn, 1) := by decide +kernel
theorem dX6_kindAt_49 : decode cX6_kindAt 49 = .ok (.iload_n 2, 1) := by decide +kernel
theorem dX6_kindAt_50 : decode cX6_kindAt 50 = .ok (.lookupswitch 40 #[(10, 36), (32, 38), (59, 34)], 34) := by decide +kernel
theorem dX6_kindAt_84 : decode cX6_kindAt 84 = .ok (.iconst 3, 1) := by decide +kernel
theorem dX6_kindAt_85 : decode cX6_kindAt 85 = .ok (.ireturn, 1) := by decide +kernel
theorem dX6_kindAt_86 : decode cX6_kindAt 86 = .ok (.iconst 4, 1) := by decide +kernel
theorem dX6_kindAt_87 : decode cX6_kindAt 87 = .ok (.ireturn, 1) := by decide +kernel
theorem dX6_kindAt_88 : decode cX6_kindAt 88 = .ok (.iconst 4, 1) := by decide +kernel
theorem dX6_kindAt_89 : decode cX6_kindAt 89 = .ok (.ireturn, 1) := by decide +kernel
theorem dX6_kindAt_90 : decode cX6_kindAt 90 = .ok (.iconst 5, 1) := by decide +kernel
theorem dX6_kindAt_91 : decode cX6_kindAt 91 = .ok (.ireturn, 1) := by decide +kernel
theorem dX6_nameAt_0 : decode cX6_nameAt 0 = .ok (.iload_n 1, 1) := by decide +kernel
theorem dX6_nameAt_1 : decode cX6_nameAt 1 = .ok (.ifCond .lt 19, 3) := by decide +kernel
theorem dX6_nameAt_4 : decode cX6_nameAt 4 = .ok (.iload_n 2, 1) := by decide +kernel
theorem dX6_nameAt_5 : decode cX6_nameAt 5 = .ok (.bipush 8, 2) := by decide +kernel
theorem dX6_nameAt_7 : decode cX6_nameAt 7 = .ok (.if_icmp .gt 13, 3) := by decide +kernel
theorem dX6_nameAt_10 : decode cX6_nameAt 10 = .ok (.iload_n 1, 1) := by decide +kernel
theorem dX6_nameAt_11 : decode cX6_nameAt 11 = .ok (.iload_n 2, 1) := by decide +kernel
theorem dX6_nameAt_12 : decode cX6_nameAt 12 = .ok (.iadd, 1) := by decide +kernel
theorem dX6_nameAt_13 : decode cX6_nameAt 13 = .ok (.aload_n 0, 1) := by decide +kernel
theorem dX6_nameAt_14 : decode cX6_nameAt 14 = .ok (.getfield 15, 3) := by decide +kernel
theorem dX6_nameAt_17 : decode cX6_nameAt 17 = .ok (.if_icmp .le 5, 3) := by decide +kernel
theorem dX6_nameAt_20 : decode cX6_nameAt 20 = .ok (.lconst 0, 1) := by decide +kernel
theorem dX6_nameAt_21 : decode cX6_nameAt 21 = .ok (.lreturn, 1) := by decide +kernel
theorem dX6_nameAt_22 : decode cX6_nameAt 22 = .ok (.lconst 0, 1) := by decide +kernel
theorem dX6_nameAt_23 : decode cX6_nameAt 23 = .ok (.lstore_n 3, 1) := by decide +kernel
theorem dX6_nameAt_24 : decode cX6_nameAt 24 = .ok (.iconst 0, 1) := by decide +kernel
theorem dX6_nameAt_25 : decode cX6_nameAt 25 = .ok (.istore 5, 2) := by decide +kernel
theorem dX6_nameAt_27 : decode cX6_nameAt 27 = .ok (.iload 5, 2) := by decide +kernel
theorem dX6_nameAt_29 : decode cX6_nameAt 29 = .ok (.iload_n 2, 1) := by decide +kernel
theorem dX6_nameAt_30 : decode cX6_nameAt 30 = .ok (.if_icmp .ge 45, 3) := by decide +kernel
theorem dX6_nameAt_33 : decode cX6_nameAt 33 = .ok (.aload_n 0, 1) := by decide +kernel
theorem dX6_nameAt_34 : decode cX6_nameAt 34 = .ok (.getfield 9, 3) := by decide +kernel
theorem dX6_nameAt_37 : decode cX6_nameAt 37 = .ok (.iload_n 1, 1) := by decide +kernel
theorem dX6_nameAt_38 : decode cX6_nameAt 38 = .ok (.iload 5, 2) := by decide +kernel
theorem dX6_nameAt_40 : decode cX6_nameAt 40 = .ok (.iadd, 1) := by decide +kernel
theorem dX6_nameAt_41 : decode cX6_nameAt 41 = .ok (.baload, 1) := by decide +kernel
theorem dX6_nameAt_42 : decode cX6_nameAt 42 = .ok (.istore 6, 2) := by decide +kernel
theorem dX6_nameAt_44 : decode cX6_nameAt 44 = .ok (.iload 6, 2) := by decide +kernel
theorem dX6_nameAt_46 : decode cX6_nameAt 46 = .ok (.bipush 97, 2) := by decide +kernel
theorem dX6_nameAt_48 : decode cX6_nameAt 48 = .ok (.if_icmp .lt 10, 3) := by decide +kernel
theorem dX6_nameAt_51 : decode cX6_nameAt 51 = .ok (.iload 6, 2) := by decide +kernel
theorem dX6_nameAt_53 : decode cX6_nameAt 53 = .ok (.bipush 122, 2) := by decide +kernel
theorem dX6_nameAt_55 : decode cX6_nameAt 55 = .ok (.if_icmp .le 5, 3) := by decide +kernel
theorem dX6_nameAt_58 : decode cX6_nameAt 58 = .ok (.lconst 0, 1) := by decide +kernel
theorem dX6_nameAt_59 : decode cX6_nameAt 59 = .ok (.lreturn, 1) := by decide +kernel
theorem dX6_nameAt_60 : decode cX6_nameAt 60 = .ok (.lload_n 3, 1) := by decide +kernel
theorem dX6_nameAt_61 : decode cX6_nameAt 61 = .ok (.bipush 8, 2) := by decide +kernel
theorem dX6_nameAt_63 : decode cX6_nameAt 63 = .ok (.lshl, 1) := by decide +kernel
theorem dX6_nameAt_64 : decode cX6_nameAt 64 = .ok (.iload 6, 2) := by decide +kernel
theorem dX6_nameAt_66 : decode cX6_nameAt 66 = .ok (.i2l, 1) := by decide +kernel
theorem dX6_nameAt_67 : decode cX6_nameAt 67 = .ok (.lor, 1) := by decide +kernel
theorem dX6_nameAt_68 : decode cX6_nameAt 68 = .ok (.lstore_n 3, 1) := by decide +kernel
theorem dX6_nameAt_69 : decode cX6_nameAt 69 = .ok (.iinc 5 1, 3) := by decide +kernel
theorem dX6_nameAt_72 : decode cX6_nameAt 72 = .ok (.goto (-45), 3) := by decide +kernel
theorem dX6_nameAt_75 : decode cX6_nameAt 75 = .ok (.lload_n 3, 1) := by decide +kernel
theorem dX6_nameAt_76 : decode cX6_nameAt 76 = .ok (.lreturn, 1) := by decide +kernel
theorem dX7_init_0 : decode cX7_init 0 = .ok (.aload_n 0, 1) := by decide +kernel
theorem dX7_init_1 : decode cX7_init 1 = .ok (.invokespecial 3, 3) := by decide +kernel
theorem dX7_init_4 : decode cX7_init 4 = .ok (.aload_n 0, 1) := by decide +kernel
theorem dX7_init_5 : decode cX7_init 5 = .ok (.aload_n 1, 1) := by decide +kernel
theorem dX7_init_6 : decode cX7_init 6 = .ok (.putfield 9, 3) := by decide +kernel
theorem dX7_init_9 : decode cX7_init 9 = .ok (.return_, 1) := by decide +kernel
theorem dX7_goToFirst_0 : decode cX7_goToFirst 0 = .ok (.aload_n 0, 1) := by decide +kernel
theorem dX7_goToFirst_1 : decode cX7_goToFirst 1 = .ok (.iconst 0, 1) := by decide +kernel
theorem dX7_goToFirst_2 : decode cX7_goToFirst 2 = .ok (.putfield 15, 3) := by decide +kernel
theorem dX7_goToFirst_5 : decode cX7_goToFirst 5 = .ok (.aload_n 0, 1) := by decide +kernel
theorem dX7_goToFirst_6 : decode cX7_goToFirst 6 = .ok (.iconst 0, 1) := by decide +kernel
theorem dX7_goToFirst_7 : decode cX7_goToFirst 7 = .ok (.putfield 19, 3) := by decide +kernel
theorem dX7_goToFirst_10 : decode cX7_goToFirst 10 = .ok (.aload_n 0, 1) := by decide +kernel
theorem dX7_goToFirst_11 : decode cX7_goToFirst 11 = .ok (.invokevirtual 22, 3) := by decide +kernel
theorem dX7_goToFirst_14 : decode cX7_goToFirst 14 = .ok (.return_, 1) := by decide +kernel
theorem dX7_goToNext_0 : decode cX7_goToNext 0 = .ok (.aload_n 0, 1) := by decide +kernel
theorem dX7_goToNext_1 : decode cX7_goToNext 1 = .ok (.dup, 1) := by decide +kernel
theorem dX7_goToNext_2 : decode cX7_goToNext 2 = .ok (.getfield 15, 3) := by decide +kernel
theorem dX7_goToNext_5 : decode cX7_goToNext 5 = .ok (.aload_n 0, 1) := by decide +kernel
theorem dX7_goToNext_6 : decode cX7_goToNext 6 = .ok (.getfield 19, 3) := by decide +kernel
theorem dX7_goToNext_9 : decode cX7_goToNext 9 = .ok (.iadd, 1) := by decide +kernel
theorem dX7_goToNext_10 : decode cX7_goToNext 10 = .ok (.putfield 15, 3) := by decide +kernel
theorem dX7_goToNext_13 : decode cX7_goToNext 13 = .ok (.aload_n 0, 1) := by decide +kernel
theorem dX7_goToNext_14 : decode cX7_goToNext 14 = .ok (.getfield 15, 3) := by decide +kernel
theorem dX7_goToNext_17 : decode cX7_goToNext 17 = .ok (.aload_n 0, 1) := by decide +kernel
theorem dX7_goToNext_18 : decode cX7_goToNext 18 = .ok (.getfield 9, 3) := by decide +kernel
theorem dX7_goToNext_21 : decode cX7_goToNext 21 = .ok (.getfield 25, 3) := by decide +kernel
theorem dX7_goToNext_24 : decode cX7_goToNext 24 = .ok (.if_icmp .ge 31, 3) := by decide +kernel
theorem dX7_goToNext_27 : decode cX7_goToNext 27 = .ok (.aload_n 0, 1) := by decide +kernel
theorem dX7_goToNext_28 : decode cX7_goToNext 28 = .ok (.getfield 9, 3) := by decide +kernel
theorem dX7_goToNext_31 : decode cX7_goToNext 31 = .ok (.aload_n 0, 1) := by decide +kernel
theorem dX7_goToNext_32 : decode cX7_goToNext 32 = .ok (.getfield 15, 3) := by decide +kernel
theorem dX7_goToNext_35 : decode cX7_goToNext 35 = .ok (.invokevirtual 30, 3) := by decide +kernel
theorem dX7_goToNext_38 : decode cX7_goToNext 38 = .ok (.iconst 4, 1) := by decide +kernel
theorem dX7_goToNext_39 : decode cX7_goToNext 39 = .ok (.if_icmp .ne 16, 3) := by decide +kernel
theorem dX7_goToNext_42 : decode cX7_goToNext 42 = .ok (.aload_n 0, 1) := by decide +kernel
theorem dX7_goToNext_43 : decode cX7_goToNext 43 = .ok (.dup, 1) := by decide +kernel
theorem dX7_goToNext_44 : decode cX7_goToNext 44 = .ok (.getfield 15, 3) := by decide +kernel
theorem dX7_goToNext_47 : decode cX7_goToNext 47 = .ok (.iconst 1, 1) := by decide +kernel
theorem dX7_goToNext_48 : decode cX7_goToNext 48 = .ok (.iadd, 1) := by decide +kernel
theorem dX7_goToNext_49 : decode cX7_goToNext 49 = .ok (.putfield 15, 3) := by decide +kernel
theorem dX7_goToNext_52 : decode cX7_goToNext 52 = .ok (.goto (-39), 3) := by decide +kernel
theorem dX7_goToNext_55 : decode cX7_goToNext 55 = .ok (.aload_n 0, 1) := by decide +kernel
theorem dX7_goToNext_56 : decode cX7_goToNext 56 = .ok (.aload_n 0, 1) := by decide +kernel
theorem dX7_goToNext_57 : decode cX7_goToNext 57 = .ok (.getfield 9, 3) := by decide +kernel
theorem dX7_goToNext_60 : decode cX7_goToNext 60 = .ok (.aload_n 0, 1) := by decide +kernel
theorem dX7_goToNext_61 : decode cX7_goToNext 61 = .ok (.getfield 15, 3) := by decide +kernel
theorem dX7_goToNext_64 : decode cX7_goToNext 64 = .ok (.invokevirtual 30, 3) := by decide +kernel
theorem dX7_goToNext_67 : decode cX7_goToNext 67 = .ok (.putfield 34, 3) := by decide +kernel
theorem dX7_goToNext_70 : decode cX7_goToNext 70 = .ok (.aload_n 0, 1) := by decide +kernel
theorem dX7_goToNext_71 : decode cX7_goToNext 71 = .ok (.aload_n 0, 1) := by decide +kernel
theorem dX7_goToNext_72 : decode cX7_goToNext 72 = .ok (.getfield 34, 3) := by decide +kernel
theorem dX7_goToNext_75 : decode cX7_goToNext 75 = .ok (.ifCond .ne 7, 3) := by decide +kernel
theorem dX7_goToNext_78 : decode cX7_goToNext 78 = .ok (.iconst 0, 1) := by decide +kernel
theorem dX7_goToNext_79 : decode cX7_goToNext 79 = .ok (.goto 4, 3) := by decide +kernel
theorem dX7_goToNext_82 : decode cX7_goToNext 82 = .ok (.iconst 1, 1) := by decide +kernel
theorem dX7_goToNext_83 : decode cX7_goToNext 83 = .ok (.putfield 19, 3) := by decide +kernel
theorem dX7_goToNext_86 : decode cX7_goToNext 86 = .ok (.aload_n 0, 1) := by decide +kernel
theorem dX7_goToNext_87 : decode cX7_goToNext 87 = .ok (.getfield 34, 3) := by decide +kernel
theorem dX7_goToNext_90 : decode cX7_goToNext 90 = .ok (.iconst 1, 1) := by decide +kernel
theorem dX7_goToNext_91 : decode cX7_goToNext 91 = .ok (.if_icmp .eq 11, 3) := by decide +kernel
theorem dX7_goToNext_94 : decode cX7_goToNext 94 = .ok (.aload_n 0, 1) := by decide +kernel
theorem dX7_goToNext_95 : decode cX7_goToNext 95 = .ok (.getfield 34, 3) := by decide +kernel
theorem dX7_goToNext_98 : decode cX7_goToNext 98 = .ok (.iconst 2, 1) := by decide +kernel
theorem dX7_goToNext_99 : decode cX7_goToNext 99 = .ok (.if_icmp .ne 7, 3) := by decide +kernel
theorem dX7_goToNext_102 : decode cX7_goToNext 102 = .ok (.iconst 1, 1) := by decide +kernel
theorem dX7_goToNext_103 : decode cX7_goToNext 103 = .ok (.goto 4, 3) := by decide +kernel
theorem dX7_goToNext_106 : decode cX7_goToNext 106 = .ok (.iconst 0, 1) := by decide +kernel
theorem dX7_goToNext_107 : decode cX7_goToNext 107 = .ok (.istore_n 1, 1) := by decide +kernel
theorem dX7_goToNext_108 : decode cX7_goToNext 108 = .ok (.iload_n 1, 1) := by decide +kernel
theorem dX7_goToNext_109 : decode cX7_goToNext 109 = .ok (.ifCond .eq 58, 3) := by decide +kernel
theorem dX7_goToNext_112 : decode cX7_goToNext 112 = .ok (.aload_n 0, 1) := by decide +kernel
theorem dX7_goToNext_113 : decode cX7_goToNext 113 = .ok (.getfield 15, 3) := by decide +kernel
theorem dX7_goToNext_116 : decode cX7_goToNext 116 = .ok (.aload_n 0, 1) := by decide +kernel
theorem dX7_goToNext_117 : decode cX7_goToNext 117 = .ok (.getfield 19, 3) := by decide +kernel
theorem dX7_goToNext_120 : decode cX7_goToNext 120 = .ok (.iadd, 1) := by decide +kernel
theorem dX7_goToNext_121 : decode cX7_goToNext 121 = .ok (.aload_n 0, 1) := by decide +kernel
theorem dX7_goToNext_122 : decode cX7_goToNext 122 = .ok (.getfield 9, 3) := by decide +kernel
theorem dX7_goToNext_125 : decode cX7_goToNext 125 = .ok (.getfield 25, 3) := by decide +kernel
theorem dX7_goToNext_128 : decode cX7_goToNext 128 = .ok (.if_icmp .ge 39, 3) := by decide +kernel
theorem dX7_goToNext_131 : decode cX7_goToNext 131 = .ok (.aload_n 0, 1) := by decide +kernel
theorem dX7_goToNext_132 : decode cX7_goToNext 132 = .ok (.getfield 9, 3) := by decide +kernel
theorem dX7_goToNext_135 : decode cX7_goToNext 135 = .ok (.aload_n 0, 1) := by decide +kernel
theorem dX7_goToNext_136 : decode cX7_goToNext 136 = .ok (.getfield 15, 3) := by decide +kernel
theorem dX7_goToNext_139 : decode cX7_goToNext 139 = .ok (.aload_n 0, 1) := by decide +kernel
theorem dX7_goToNext_140 : decode cX7_goToNext 140 = .ok (.getfield 19, 3) := by decide +kernel
theorem dX7_goToNext_143 : decode cX7_goToNext 143 = .ok (.iadd, 1) := by decide +kernel
theorem dX7_goToNext_144 : decode cX7_goToNext 144 = .ok (.invokevirtual 30, 3) := by decide +kernel
theorem dX7_goToNext_147 : decode cX7_goToNext 147 = .ok (.aload_n 0, 1) := by decide +kernel
theorem dX7_goToNext_148 : decode cX7_goToNext 148 = .ok (.getfield 34, 3) := by decide +kernel
theorem dX7_goToNext_151 : decode cX7_goToNext 151 = .ok (.if_icmp .ne 16, 3) := by decide +kernel
theorem dX7_goToNext_154 : decode cX7_goToNext 154 = .ok (.aload_n 0, 1) := by decide +kernel
theorem dX7_goToNext_155 : decode cX7_goToNext 155 = .ok (.dup, 1) := by decide +kernel
theorem dX7_goToNext_156 : decode cX7_goToNext 156 = .ok (.getfield 19, 3) := by decide +kernel
theorem dX7_goToNext_159 : decode cX7_goToNext 159 = .ok (.iconst 1, 1) := by decide +kernel
theorem dX7_goToNext_160 : decode cX7_goToNext 160 = .ok (.iadd, 1) := by decide +kernel
theorem dX7_goToNext_161 : decode cX7_goToNext 161 = .ok (.putfield 19, 3) := by decide +kernel
theorem dX7_goToNext_164 : decode cX7_goToNext 164 = .ok (.goto (-56), 3) := by decide +kernel
theorem dX7_goToNext_167 : decode cX7_goToNext 167 = .ok (.return_, 1) := by decide +kernel
theorem dX7_isWord_0 : decode cX7_isWord 0 = .ok (.aload_n 0, 1) := by decide +kernel
theorem dX7_isWord_1 : decode cX7_isWord 1 = .ok (.getfield 34, 3) := by decide +kernel
theorem dX7_isWord_4 : decode cX7_isWord 4 = .ok (.iconst 1, 1) := by decide +kernel
theorem dX7_isWord_5 : decode cX7_isWord 5 = .ok (.if_icmp .ne 14, 3) := by decide +kernel
theorem dX7_isWord_8 : decode cX7_isWord 8 = .ok (.aload_n 0, 1) := by decide +kernel
theorem dX7_isWord_9 : decode cX7_isWord 9 = .ok (.getfield 19, 3) := by decide +kernel
theorem dX7_isWord_12 : decode cX7_isWord 12 = .ok (.aload_n 1, 1) := by decide +kernel
theorem dX7_isWord_13 : decode cX7_isWord 13 = .ok (.invokevirtual 37, 3) := by decide +kernel
theorem dX7_isWord_16 : decode cX7_isWord 16 = .ok (.if_icmp .eq 5, 3) := by decide +kernel
theorem dX7_isWord_19 : decode cX7_isWord 19 = .ok (.iconst 0, 1) := by decide +kernel
theorem dX7_isWord_20 : decode cX7_isWord 20 = .ok (.ireturn, 1) := by decide +kernel
theorem dX7_isWord_21 : decode cX7_isWord 21 = .ok (.iconst 0, 1) := by decide +kernel
theorem dX7_isWord_22 : decode cX7_isWord 22 = .ok (.istore_n 2, 1) := by decide +kernel
theorem dX7_isWord_23 : decode cX7_isWord 23 = .ok (.iload_n 2, 1) := by decide +kernel
theorem dX7_isWord_24 : decode cX7_isWord 24 = .ok (.aload_n 1, 1) := by decide +kernel
theorem dX7_isWord_25 : decode cX7_isWord 25 = .ok (.invokevirtual 37, 3) := by decide +kernel
theorem dX7_isWord_28 : decode cX7_isWord 28 = .ok (.if_icmp .ge 32, 3) := by decide +kernel
theorem dX7_isWord_31 : decode cX7_isWord 31 = .ok (.aload_n 0, 1) := by decide +kernel
theorem dX7_isWord_32 : decode cX7_isWord 32 = .ok (.getfield 9, 3) := by decide +kernel
theorem dX7_isWord_35 : decode cX7_isWord 35 = .ok (.aload_n 0, 1) := by decide +kernel
theorem dX7_isWord_36 : decode cX7_isWord 36 = .ok (.getfield 15, 3) := by decide +kernel
theorem dX7_isWord_39 : decode cX7_isWord 39 = .ok (.iload_n 2, 1) := by decide +kernel
theorem dX7_isWord_40 : decode cX7_isWord 40 = .ok (.iadd, 1) := by decide +kernel
theorem dX7_isWord_41 : decode cX7_isWord 41 = .ok (.invokevirtual 42, 3) := by decide +kernel
theorem dX7_isWord_44 : decode cX7_isWord 44 = .ok (.aload_n 1, 1) := by decide +kernel
theorem dX7_isWord_45 : decode cX7_isWord 45 = .ok (.iload_n 2, 1) := by decide +kernel
theorem dX7_isWord_46 : decode cX7_isWord 46 = .ok (.invokevirtual 45, 3) := by decide +kernel
theorem dX7_isWord_49 : decode cX7_isWord 49 = .ok (.if_icmp .eq 5, 3) := by decide +kernel
theorem dX7_isWord_52 : decode cX7_isWord 52 = .ok (.iconst 0, 1) := by decide +kernel
theorem dX7_isWord_53 : decode cX7_isWord 53 = .ok (.ireturn, 1) := by decide +kernel
theorem dX7_isWord_54 : decode cX7_isWord 54 = .ok (.iinc 2 1, 3) := by decide +kernel
theorem dX7_isWord_57 : decode cX7_isWord 57 = .ok (.goto (-34), 3) := by decide +kernel
theorem dX7_isWord_60 : decode cX7_isWord 60 = .ok (.iconst 1, 1) := by decide +kernel
theorem dX7_isWord_61 : decode cX7_isWord 61 = .ok (.ireturn, 1) := by decide +kernel
theorem dX8_init_0 : decode cX8_init 0 = .ok (.aload_n 0, 1) := by decide +kernel
theorem dX8_init_1 : decode cX8_init 1 = .ok (.invokespecial 3, 3) := by decide +kernel
theorem dX8_init_4 : decode cX8_init 4 = .ok (.aload_n 0, 1) := by decide +kernel
theorem dX8_init_5 : decode cX8_init 5 = .ok (.bipush 72, 2) := by decide +kernel
theorem dX8_init_7 : decode cX8_init 7 = .ok (.newarray .int, 2) := by decide +kernel
theorem dX8_init_9 : decode cX8_init 9 = .ok (.putfield 9, 3) := by decide +kernel
theorem dX8_init_12 : decode cX8_init 12 = .ok (.aload_n 0, 1) := by decide +kernel
theorem dX8_init_13 : decode cX8_init 13 = .ok (.bipush 72, 2) := by decide +kernel
theorem dX8_init_15 : decode cX8_init 15 = .ok (.newarray .int, 2) := by decide +kernel
theorem dX8_init_17 : decode cX8_init 17 = .ok (.putfield 15, 3) := by decide +kernel
theorem dX8_init_20 : decode cX8_init 20 = .ok (.aload_n 0, 1) := by decide +kernel
theorem dX8_init_21 : decode cX8_init 21 = .ok (.bipush 72, 2) := by decide +kernel
theorem dX8_init_23 : decode cX8_init 23 = .ok (.newarray .int, 2) := by decide +kernel
theorem dX8_init_25 : decode cX8_init 25 = .ok (.putfield 18, 3) := by decide +kernel
theorem dX8_init_28 : decode cX8_init 28 = .ok (.aload_n 0, 1) := by decide +kernel
theorem dX8_init_29 : decode cX8_init 29 = .ok (.bipush 6, 2) := by decide +kernel
theorem dX8_init_31 : decode cX8_init 31 = .ok (.newarray .int, 2) := by decide +kernel
theorem dX8_init_33 : decode cX8_init 33 = .ok (.putfield 21, 3) := by decide +kernel
theorem dX8_init_36 : decode cX8_init 36 = .ok (.aload_n 0, 1) := by decide +kernel
theorem dX8_init_37 : decode cX8_init 37 = .ok (.bipush 6, 2) := by decide +kernel
theorem dX8_init_39 : decode cX8_init 39 = .ok (.newarray .int, 2) := by decide +kernel
theorem dX8_init_41 : decode cX8_init 41 = .ok (.putfield 24, 3) := by decide +kernel
theorem dX8_init_44 : decode cX8_init 44 = .ok (.aload_n 0, 1) := by decide +kernel
theorem dX8_init_45 : decode cX8_init 45 = .ok (.aload_n 1, 1) := by decide +kernel
theorem dX8_init_46 : decode cX8_init 46 = .ok (.putfield 27, 3) := by decide +kernel
theorem dX8_init_49 : decode cX8_init 49 = .ok (.return_, 1) := by decide +kernel
theorem dX8_beginAnew_0 : decode cX8_beginAnew 0 = .ok (.aload_n 0, 1) := by decide +kernel
theorem dX8_beginAnew_1 : decode cX8_beginAnew 1 = .ok (.iconst 0, 1) := by decide +kernel
theorem dX8_beginAnew_2 : decode cX8_beginAnew 2 = .ok (.putfield 31, 3) := by decide +kernel
theorem dX8_beginAnew_5 : decode cX8_beginAnew 5 = .ok (.aload_n 0, 1) := by decide +kernel
theorem dX8_beginAnew_6 : decode cX8_beginAnew 6 = .ok (.getfield 21, 3) := by decide +kernel
theorem dX8_beginAnew_9 : decode cX8_beginAnew 9 = .ok (.iconst 0, 1) := by decide +kernel
theorem dX8_beginAnew_10 : decode cX8_beginAnew 10 = .ok (.invokestatic 35, 3) := by decide +kernel
theorem dX8_beginAnew_13 : decode cX8_beginAnew 13 = .ok (.aload_n 0, 1) := by decide +kernel
theorem dX8_beginAnew_14 : decode cX8_beginAnew 14 = .ok (.getfield 24, 3) := by decide +kernel
theorem dX8_beginAnew_17 : decode cX8_beginAnew 17 = .ok (.iconst 0, 1) := by decide +kernel
theorem dX8_beginAnew_18 : decode cX8_beginAnew 18 = .ok (.invokestatic 35, 3) := by decide +kernel
theorem dX8_beginAnew_21 : decode cX8_beginAnew 21 = .ok (.aload_n 0, 1) := by decide +kernel
theorem dX8_beginAnew_22 : decode cX8_beginAnew 22 = .ok (.iconst 0, 1) := by decide +kernel
theorem dX8_beginAnew_23 : decode cX8_beginAnew 23 = .ok (.putfield 41, 3) := by decide +kernel
theorem dX8_beginAnew_26 : decode cX8_beginAnew 26 = .ok (.aload_n 0, 1) := by decide +kernel
theorem dX8_beginAnew_27 : decode cX8_beginAnew 27 = .ok (.iconst 0, 1) := by decide +kernel
theorem dX8_beginAnew_28 : decode cX8_beginAnew 28 = .ok (.putfield 44, 3) := by decide +kernel
theorem dX8_beginAnew_31 : decode cX8_beginAnew 31 = .ok (.return_, 1) := by decide +kernel
theorem dX8_copyFrom_0 : decode cX8_copyFrom 0 = .ok (.aload_n 1, 1) := by decide +kernel
theorem dX8_copyFrom_1 : decode cX8_copyFrom 1 = .ok (.getfield 9, 3) := by decide +kernel
theorem dX8_copyFrom_4 : decode cX8_copyFrom 4 = .ok (.aload_n 0, 1) := by decide +kernel
theorem dX8_copyFrom_5 : decode cX8_copyFrom 5 = .ok (.getfield 9, 3) := by decide +kernel
theorem dX8_copyFrom_8 : decode cX8_copyFrom 8 = .ok (.invokestatic 48, 3) := by decide +kernel
theorem dX8_copyFrom_11 : decode cX8_copyFrom 11 = .ok (.aload_n 1, 1) := by decide +kernel
theorem dX8_copyFrom_12 : decode cX8_copyFrom 12 = .ok (.getfield 15, 3) := by decide +kernel
theorem dX8_copyFrom_15 : decode cX8_copyFrom 15 = .ok (.aload_n 0, 1) := by decide +kernel
theorem dX8_copyFrom_16 : decode cX8_copyFrom 16 = .ok (.getfield 15, 3) := by decide +kernel
theorem dX8_copyFrom_19 : decode cX8_copyFrom 19 = .ok (.invokestatic 48, 3) := by decide +kernel
theorem dX8_copyFrom_22 : decode cX8_copyFrom 22 = .ok (.aload_n 1, 1) := by decide +kernel
theorem dX8_copyFrom_23 : decode cX8_copyFrom 23 = .ok (.getfield 18, 3) := by decide +kernel
theorem dX8_copyFrom_26 : decode cX8_copyFrom 26 = .ok (.aload_n 0, 1) := by decide +kernel
theorem dX8_copyFrom_27 : decode cX8_copyFrom 27 = .ok (.getfield 18, 3) := by decide +kernel
theorem dX8_copyFrom_30 : decode cX8_copyFrom 30 = .ok (.invokestatic 48, 3) := by decide +kernel
theorem dX8_copyFrom_33 : decode cX8_copyFrom 33 = .ok (.aload_n 0, 1) := by decide +kernel
theorem dX8_copyFrom_34 : decode cX8_copyFrom 34 = .ok (.aload_n 1, 1) := by decide +kernel
theorem dX8_copyFrom_35 : decode cX8_copyFrom 35 = .ok (.getfield 31, 3) := by decide +kernel
theorem dX8_copyFrom_38 : decode cX8_copyFrom 38 = .ok (.putfield 31, 3) := by decide +kernel
theorem dX8_copyFrom_41 : decode cX8_copyFrom 41 = .ok (.aload_n 1, 1) := by decide +kernel
theorem dX8_copyFrom_42 : decode cX8_copyFrom 42 = .ok (.getfield 21, 3) := by decide +kernel
theorem dX8_copyFrom_45 : decode cX8_copyFrom 45 = .ok (.aload_n 0, 1) := by decide +kernel
theorem dX8_copyFrom_46 : decode cX8_copyFrom 46 = .ok (.getfield 21, 3) := by decide +kernel
theorem dX8_copyFrom_49 : decode cX8_copyFrom 49 = .ok (.invokestatic 48, 3) := by decide +kernel
theorem dX8_copyFrom_52 : decode cX8_copyFrom 52 = .ok (.aload_n 1, 1) := by decide +kernel
theorem dX8_copyFrom_53 : decode cX8_copyFrom 53 = .ok (.getfield 24, 3) := by decide +kernel
theorem dX8_copyFrom_56 : decode cX8_copyFrom 56 = .ok (.aload_n 0, 1) := by decide +kernel
theorem dX8_copyFrom_57 : decode cX8_copyFrom 57 = .ok (.getfield 24, 3) := by decide +kernel
theorem dX8_copyFrom_60 : decode cX8_copyFrom 60 = .ok (.invokestatic 48, 3) := by decide +kernel
theorem dX8_copyFrom_63 : decode cX8_copyFrom 63 = .ok (.aload_n 0, 1) := by decide +kernel
theorem dX8_copyFrom_64 : decode cX8_copyFrom 64 = .ok (.aload_n 1, 1) := by decide +kernel
theorem dX8_copyFrom_65 : decode cX8_copyFrom 65 = .ok (.getfield 41, 3) := by decide +kernel
theorem dX8_copyFrom_68 : decode cX8_copyFrom 68 = .ok (.putfield 41, 3) := by decide +kernel
theorem dX8_copyFrom_71 : decode cX8_copyFrom 71 = .ok (.aload_n 0, 1) := by decide +kernel
theorem dX8_copyFrom_72 : decode cX8_copyFrom 72 = .ok (.aload_n 1, 1) := by decide +kernel
theorem dX8_copyFrom_73 : decode cX8_copyFrom 73 = .ok (.getfield 44, 3) := by decide +kernel
theorem dX8_copyFrom_76 : decode cX8_copyFrom 76 = .ok (.putfield 44, 3) := by decide +kernel
theorem dX8_copyFrom_79 : decode cX8_copyFrom 79 = .ok (.return_, 1) := by decide +kernel
theorem dX8_send_0 : decode cX8_send 0 = .ok (.aload_n 0, 1) := by decide +kernel
theorem dX8_send_1 : decode cX8_send 1 = .ok (.invokevirtual 52, 3) := by decide +kernel
theorem dX8_send_4 : decode cX8_send 4 = .ok (.istore 4, 2) := by decide +kernel
theorem dX8_send_6 : decode cX8_send 6 = .ok (.aload_n 0, 1) := by decide +kernel
theorem dX8_send_7 : decode cX8_send 7 = .ok (.dup, 1) := by decide +kernel
theorem dX8_send_8 : decode cX8_send 8 = .ok (.getfield 41, 3) := by decide +kernel
theorem dX8_send_11 : decode cX8_send 11 = .ok (.iconst 1, 1) := by decide +kernel
theorem dX8_send_12 : decode cX8_send 12 = .ok (.iadd, 1) := by decide +kernel
theorem dX8_send_13 : decode cX8_send 13 = .ok (.putfield 41, 3) := by decide +kernel
theorem dX8_send_16 : decode cX8_send 16 = .ok (.aload_n 0, 1) := by decide +kernel
theorem dX8_send_17 : decode cX8_send 17 = .ok (.getfield 21, 3) := by decide +kernel
theorem dX8_send_20 : decode cX8_send 20 = .ok (.iload_n 1, 1) := by decide +kernel
theorem dX8_send_21 : decode cX8_send 21 = .ok (.dup2, 1) := by decide +kernel
theorem dX8_send_22 : decode cX8_send 22 = .ok (.iaload, 1) := by decide +kernel
theorem dX8_send_23 : decode cX8_send 23 = .ok (.iconst 1, 1) := by decide +kernel
theorem dX8_send_24 : decode cX8_send 24 = .ok (.iadd, 1) := by decide +kernel
theorem dX8_send_25 : decode cX8_send 25 = .ok (.iastore, 1) := by decide +kernel
theorem dX8_send_26 : decode cX8_send 26 = .ok (.iload 4, 2) := by decide +kernel
theorem dX8_send_28 : decode cX8_send 28 = .ok (.ifCond .eq 16, 3) := by decide +kernel
theorem dX8_send_31 : decode cX8_send 31 = .ok (.aload_n 0, 1) := by decide +kernel
theorem dX8_send_32 : decode cX8_send 32 = .ok (.getfield 24, 3) := by decide +kernel
theorem dX8_send_35 : decode cX8_send 35 = .ok (.iload_n 1, 1) := by decide +kernel
theorem dX8_send_36 : decode cX8_send 36 = .ok (.dup2, 1) := by decide +kernel
theorem dX8_send_37 : decode cX8_send 37 = .ok (.iaload, 1) := by decide +kernel
theorem dX8_send_38 : decode cX8_send 38 = .ok (.iconst 1, 1) := by decide +kernel
theorem dX8_send_39 : decode cX8_send 39 = .ok (.iadd, 1) := by decide +kernel
theorem dX8_send_40 : decode cX8_send 40 = .ok (.iastore, 1) := by decide +kernel
theorem dX8_send_41 : decode cX8_send 41 = .ok (.goto 52, 3) := by decide +kernel
theorem dX8_send_44 : decode cX8_send 44 = .ok (.aload_n 0, 1) := by decide +kernel
theorem dX8_send_45 : decode cX8_send 45 = .ok (.getfield 31, 3) := by decide +kernel
theorem dX8_send_48 : decode cX8_send 48 = .ok (.bipush 72, 2) := by decide +kernel
theorem dX8_send_50 : decode cX8_send 50 = .ok (.if_icmp .ge 43, 3) := by decide +kernel
theorem dX8_send_53 : decode cX8_send 53 = .ok (.aload_n 0, 1) := by decide +kernel
theorem dX8_send_54 : decode cX8_send 54 = .ok (.getfield 9, 3) := by decide +kernel
theorem dX8_send_57 : decode cX8_send 57 = .ok (.aload_n 0, 1) := by decide +kernel
theorem dX8_send_58 : decode cX8_send 58 = .ok (.getfield 31, 3) := by decide +kernel
theorem dX8_send_61 : decode cX8_send 61 = .ok (.iload_n 1, 1) := by decide +kernel
theorem dX8_send_62 : decode cX8_send 62 = .ok (.iastore, 1) := by decide +kernel
theorem dX8_send_63 : decode cX8_send 63 = .ok (.aload_n 0, 1) := by decide +kernel
theorem dX8_send_64 : decode cX8_send 64 = .ok (.getfield 15, 3) := by decide +kernel
theorem dX8_send_67 : decode cX8_send 67 = .ok (.aload_n 0, 1) := by decide +kernel
theorem dX8_send_68 : decode cX8_send 68 = .ok (.getfield 31, 3) := by decide +kernel
theorem dX8_send_71 : decode cX8_send 71 = .ok (.iload_n 2, 1) := by decide +kernel
theorem dX8_send_72 : decode cX8_send 72 = .ok (.iastore, 1) := by decide +kernel
theorem dX8_send_73 : decode cX8_send 73 = .ok (.aload_n 0, 1) := by decide +kernel
theorem dX8_send_74 : decode cX8_send 74 = .ok (.getfield 18, 3) := by decide +kernel
theorem dX8_send_77 : decode cX8_send 77 = .ok (.aload_n 0, 1) := by decide +kernel
theorem dX8_send_78 : decode cX8_send 78 = .ok (.getfield 31, 3) := by decide +kernel
theorem dX8_send_81 : decode cX8_send 81 = .ok (.iload_n 3, 1) := by decide +kernel
theorem dX8_send_82 : decode cX8_send 82 = .ok (.iastore, 1) := by decide +kernel
theorem dX8_send_83 : decode cX8_send 83 = .ok (.aload_n 0, 1) := by decide +kernel
theorem dX8_send_84 : decode cX8_send 84 = .ok (.dup, 1) := by decide +kernel
theorem dX8_send_85 : decode cX8_send 85 = .ok (.getfield 31, 3) := by decide +kernel
theorem dX8_send_88 : decode cX8_send 88 = .ok (.iconst 1, 1) := by decide +kernel
theorem dX8_send_89 : decode cX8_send 89 = .ok (.iadd, 1) := by decide +kernel
theorem dX8_send_90 : decode cX8_send 90 = .ok (.putfield 31, 3) := by decide +kernel
theorem dX8_send_93 : decode cX8_send 93 = .ok (.return_, 1) := by decide +kernel
theorem dX8_lostInAll_0 : decode cX8_lostInAll 0 = .ok (.iconst 0, 1) := by decide +kernel
theorem dX8_lostInAll_1 : decode cX8_lostInAll 1 = .ok (.istore_n 1, 1) := by decide +kernel
theorem dX8_lostInAll_2 : decode cX8_lostInAll 2 = .ok (.iconst 0, 1) := by decide +kernel
theorem dX8_lostInAll_3 : decode cX8_lostInAll 3 = .ok (.istore_n 2, 1) := by decide +kernel
theorem dX8_lostInAll_4 : decode cX8_lostInAll 4 = .ok (.iload_n 2, 1) := by decide +kernel
theorem dX8_lostInAll_5 : decode cX8_lostInAll 5 = .ok (.bipush 6, 2) := by decide +kernel
theorem dX8_lostInAll_7 : decode cX8_lostInAll 7 = .ok (.if_icmp .ge 18, 3) := by decide +kernel
theorem dX8_lostInAll_10 : decode cX8_lostInAll 10 = .ok (.iload_n 1, 1) := by decide +kernel
theorem dX8_lostInAll_11 : decode cX8_lostInAll 11 = .ok (.aload_n 0, 1) := by decide +kernel
theorem dX8_lostInAll_12 : decode cX8_lostInAll 12 = .ok (.getfield 24, 3) := by decide +kernel
theorem dX8_lostInAll_15 : decode cX8_lostInAll 15 = .ok (.iload_n 2, 1) := by decide +kernel
theorem dX8_lostInAll_16 : decode cX8_lostInAll 16 = .ok (.iaload, 1) := by decide +kernel
theorem dX8_lostInAll_17 : decode cX8_lostInAll 17 = .ok (.iadd, 1) := by decide +kernel
theorem dX8_lostInAll_18 : decode cX8_lostInAll 18 = .ok (.istore_n 1, 1) := by decide +kernel
theorem dX8_lostInAll_19 : decode cX8_lostInAll 19 = .ok (.iinc 2 1, 3) := by decide +kernel
theorem dX8_lostInAll_22 : decode cX8_lostInAll 22 = .ok (.goto (-18), 3) := by decide +kernel
theorem dX8_lostInAll_25 : decode cX8_lostInAll 25 = .ok (.iload_n 1, 1) := by decide +kernel
theorem dX8_lostInAll_26 : decode cX8_lostInAll 26 = .ok (.ireturn, 1) := by decide +kernel
theorem dX8_losesNext_0 : decode cX8_losesNext 0 = .ok (.aload_n 0, 1) := by decide +kernel
theorem dX8_losesNext_1 : decode cX8_losesNext 1 = .ok (.getfield 44, 3) := by decide +kernel
theorem dX8_losesNext_4 : decode cX8_losesNext 4 = .ok (.ifCond .ne 14, 3) := by decide +kernel
theorem dX8_losesNext_7 : decode cX8_losesNext 7 = .ok (.aload_n 0, 1) := by decide +kernel
theorem dX8_losesNext_8 : decode cX8_losesNext 8 = .ok (.getfield 27, 3) := by decide +kernel
theorem dX8_losesNext_11 : decode cX8_losesNext 11 = .ok (.getfield 56, 3) := by decide +kernel
theorem dX8_losesNext_14 : decode cX8_losesNext 14 = .ok (.iconst 1, 1) := by decide +kernel
theorem dX8_losesNext_15 : decode cX8_losesNext 15 = .ok (.if_icmp .ge 5, 3) := by decide +kernel
theorem dX8_losesNext_18 : decode cX8_losesNext 18 = .ok (.iconst 0, 1) := by decide +kernel
theorem dX8_losesNext_19 : decode cX8_losesNext 19 = .ok (.ireturn, 1) := by decide +kernel
theorem dX8_losesNext_20 : decode cX8_losesNext 20 = .ok (.aload_n 0, 1) := by decide +kernel
theorem dX8_losesNext_21 : decode cX8_losesNext 21 = .ok (.getfield 27, 3) := by decide +kernel
theorem dX8_losesNext_24 : decode cX8_losesNext 24 = .ok (.getfield 61, 3) := by decide +kernel
theorem dX8_losesNext_27 : decode cX8_losesNext 27 = .ok (.aload_n 0, 1) := by decide +kernel
theorem dX8_losesNext_28 : decode cX8_losesNext 28 = .ok (.getfield 41, 3) := by decide +kernel
theorem dX8_losesNext_31 : decode cX8_losesNext 31 = .ok (.aload_n 0, 1) := by decide +kernel
theorem dX8_losesNext_32 : decode cX8_losesNext 32 = .ok (.getfield 27, 3) := by decide +kernel
theorem dX8_losesNext_35 : decode cX8_losesNext 35 = .ok (.getfield 56, 3) := by decide +kernel
theorem dX8_losesNext_38 : decode cX8_losesNext 38 = .ok (.irem, 1) := by decide +kernel
theorem dX8_losesNext_39 : decode cX8_losesNext 39 = .ok (.invokestatic 64, 3) := by decide +kernel
theorem dX8_losesNext_42 : decode cX8_losesNext 42 = .ok (.ireturn, 1) := by decide +kernel
theorem dX9_init_0 : decode cX9_init 0 = .ok (.aload_n 0, 1) := by decide +kernel
theorem dX9_init_1 : decode cX9_init 1 = .ok (.invokespecial 3, 3) := by decide +kernel
theorem dX9_init_4 : decode cX9_init 4 = .ok (.aload_n 0, 1) := by decide +kernel
theorem dX9_init_5 : decode cX9_init 5 = .ok (.bipush 12, 2) := by decide +kernel
theorem dX9_init_7 : decode cX9_init 7 = .ok (.newarray .int, 2) := by decide +kernel
theorem dX9_init_9 : decode cX9_init 9 = .ok (.putfield 9, 3) := by decide +kernel
theorem dX9_init_12 : decode cX9_init 12 = .ok (.aload_n 0, 1) := by decide +kernel
theorem dX9_init_13 : decode cX9_init 13 = .ok (.aload_n 1, 1) := by decide +kernel
theorem dX9_init_14 : decode cX9_init 14 = .ok (.putfield 15, 3) := by decide +kernel
theorem dX9_init_17 : decode cX9_init 17 = .ok (.aload_n 0, 1) := by decide +kernel
theorem dX9_init_18 : decode cX9_init 18 = .ok (.new 19, 3) := by decide +kernel
theorem dX9_init_21 : decode cX9_init 21 = .ok (.dup, 1) := by decide +kernel
theorem dX9_init_22 : decode cX9_init 22 = .ok (.aload_n 1, 1) := by decide +kernel
theorem dX9_init_23 : decode cX9_init 23 = .ok (.invokespecial 21, 3) := by decide +kernel
theorem dX9_init_26 : decode cX9_init 26 = .ok (.putfield 24, 3) := by decide +kernel
theorem dX9_init_29 : decode cX9_init 29 = .ok (.aload_n 0, 1) := by decide +kernel
theorem dX9_init_30 : decode cX9_init 30 = .ok (.new 28, 3) := by decide +kernel
theorem dX9_init_33 : decode cX9_init 33 = .ok (.dup, 1) := by decide +kernel
theorem dX9_init_34 : decode cX9_init 34 = .ok (.aload_n 1, 1) := by decide +kernel
theorem dX9_init_35 : decode cX9_init 35 = .ok (.invokespecial 30, 3) := by decide +kernel
theorem dX9_init_38 : decode cX9_init 38 = .ok (.putfield 31, 3) := by decide +kernel
theorem dX9_init_41 : decode cX9_init 41 = .ok (.aload_n 0, 1) := by decide +kernel
theorem dX9_init_42 : decode cX9_init 42 = .ok (.new 35, 3) := by decide +kernel
theorem dX9_init_45 : decode cX9_init 45 = .ok (.dup, 1) := by decide +kernel
theorem dX9_init_46 : decode cX9_init 46 = .ok (.aload_n 1, 1) := by decide +kernel
theorem dX9_init_47 : decode cX9_init 47 = .ok (.invokespecial 37, 3) := by decide +kernel
theorem dX9_init_50 : decode cX9_init 50 = .ok (.putfield 38, 3) := by decide +kernel
theorem dX9_init_53 : decode cX9_init 53 = .ok (.return_, 1) := by decide +kernel
theorem dX9_beginAnew_0 : decode cX9_beginAnew 0 = .ok (.aload_n 0, 1) := by decide +kernel
theorem dX9_beginAnew_1 : decode cX9_beginAnew 1 = .ok (.iconst 0, 1) := by decide +kernel
theorem dX9_beginAnew_2 : decode cX9_beginAnew 2 = .ok (.putfield 42, 3) := by decide +kernel
theorem dX9_beginAnew_5 : decode cX9_beginAnew 5 = .ok (.aload_n 0, 1) := by decide +kernel
theorem dX9_beginAnew_6 : decode cX9_beginAnew 6 = .ok (.iconst 0, 1) := by decide +kernel
theorem dX9_beginAnew_7 : decode cX9_beginAnew 7 = .ok (.putfield 46, 3) := by decide +kernel
theorem dX9_beginAnew_10 : decode cX9_beginAnew 10 = .ok (.aload_n 0, 1) := by decide +kernel
theorem dX9_beginAnew_11 : decode cX9_beginAnew 11 = .ok (.aload_n 0, 1) := by decide +kernel
theorem dX9_beginAnew_12 : decode cX9_beginAnew 12 = .ok (.getfield 15, 3) := by decide +kernel
theorem dX9_beginAnew_15 : decode cX9_beginAnew 15 = .ok (.getfield 49, 3) := by decide +kernel
theorem dX9_beginAnew_18 : decode cX9_beginAnew 18 = .ok (.putfield 54, 3) := by decide +kernel
theorem dX9_beginAnew_21 : decode cX9_beginAnew 21 = .ok (.aload_n 0, 1) := by decide +kernel
theorem dX9_beginAnew_22 : decode cX9_beginAnew 22 = .ok (.aload_n 0, 1) := by decide +kernel
theorem dX9_beginAnew_23 : decode cX9_beginAnew 23 = .ok (.getfield 15, 3) := by decide +kernel
theorem dX9_beginAnew_26 : decode cX9_beginAnew 26 = .ok (.getfield 55, 3) := by decide +kernel
theorem dX9_beginAnew_29 : decode cX9_beginAnew 29 = .ok (.putfield 58, 3) := by decide +kernel
theorem dX9_beginAnew_32 : decode cX9_beginAnew 32 = .ok (.aload_n 0, 1) := by decide +kernel
theorem dX9_beginAnew_33 : decode cX9_beginAnew 33 = .ok (.aload_n 0, 1) := by decide +kernel
theorem dX9_beginAnew_34 : decode cX9_beginAnew 34 = .ok (.getfield 15, 3) := by decide +kernel
theorem dX9_beginAnew_37 : decode cX9_beginAnew 37 = .ok (.getfield 59, 3) := by decide +kernel
theorem dX9_beginAnew_40 : decode cX9_beginAnew 40 = .ok (.putfield 63, 3) := by decide +kernel
theorem dX9_beginAnew_43 : decode cX9_beginAnew 43 = .ok (.aload_n 0, 1) := by decide +kernel
theorem dX9_beginAnew_44 : decode cX9_beginAnew 44 = .ok (.iconst 0, 1) := by decide +kernel
theorem dX9_beginAnew_45 : decode cX9_beginAnew 45 = .ok (.putfield 64, 3) := by decide +kernel
theorem dX9_beginAnew_48 : decode cX9_beginAnew 48 = .ok (.aload_n 0, 1) := by decide +kernel
theorem dX9_beginAnew_49 : decode cX9_beginAnew 49 = .ok (.iconst 0, 1) := by decide +kernel
theorem dX9_beginAnew_50 : decode cX9_beginAnew 50 = .ok (.putfield 67, 3) := by decide +kernel
theorem dX9_beginAnew_53 : decode cX9_beginAnew 53 = .ok (.aload_n 0, 1) := by decide +kernel
theorem dX9_beginAnew_54 : decode cX9_beginAnew 54 = .ok (.iconst 0, 1) := by decide +kernel
theorem dX9_beginAnew_55 : decode cX9_beginAnew 55 = .ok (.putfield 70, 3) := by decide +kernel
theorem dX9_beginAnew_58 : decode cX9_beginAnew 58 = .ok (.aload_n 0, 1) := by decide +kernel
theorem dX9_beginAnew_59 : decode cX9_beginAnew 59 = .ok (.getfield 24, 3) := by decide +kernel
theorem dX9_beginAnew_62 : decode cX9_beginAnew 62 = .ok (.invokevirtual 73, 3) := by decide +kernel
theorem dX9_beginAnew_65 : decode cX9_beginAnew 65 = .ok (.aload_n 0, 1) := by decide +kernel
theorem dX9_beginAnew_66 : decode cX9_beginAnew 66 = .ok (.getfield 31, 3) := by decide +kernel
theorem dX9_beginAnew_69 : decode cX9_beginAnew 69 = .ok (.invokevirtual 76, 3) := by decide +kernel
theorem dX9_beginAnew_72 : decode cX9_beginAnew 72 = .ok (.aload_n 0, 1) := by decide +kernel
theorem dX9_beginAnew_73 : decode cX9_beginAnew 73 = .ok (.getfield 38, 3) := by decide +kernel
theorem dX9_beginAnew_76 : decode cX9_beginAnew 76 = .ok (.invokevirtual 77, 3) := by decide +kernel
theorem dX9_beginAnew_79 : decode cX9_beginAnew 79 = .ok (.return_, 1) := by decide +kernel
theorem dX9_isDark_0 : decode cX9_isDark 0 = .ok (.aload_n 0, 1) := by decide +kernel
theorem dX9_isDark_1 : decode cX9_isDark 1 = .ok (.getfield 42, 3) := by decide +kernel
theorem dX9_isDark_4 : decode cX9_isDark 4 = .ok (.aload_n 0, 1) := by decide +kernel
theorem dX9_isDark_5 : decode cX9_isDark 5 = .ok (.getfield 46, 3) := by decide +kernel
theorem dX9_isDark_8 : decode cX9_isDark 8 = .ok (.if_icmp .ge 7, 3) := by decide +kernel
theorem dX9_isDark_11 : decode cX9_isDark 11 = .ok (.iconst 1, 1) := by decide +kernel
theorem dX9_isDark_12 : decode cX9_isDark 12 = .ok (.goto 4, 3) := by decide +kernel
theorem dX9_isDark_15 : decode cX9_isDark 15 = .ok (.iconst 0, 1) := by decide +kernel
theorem dX9_isDark_16 : decode cX9_isDark 16 = .ok (.ireturn, 1) := by decide +kernel
theorem dX9_passTicks_0 : decode cX9_passTicks 0 = .ok (.iconst 0, 1) := by decide +kernel
theorem dX9_passTicks_1 : decode cX9_passTicks 1 = .ok (.istore_n 2, 1) := by decide +kernel
theorem dX9_passTicks_2 : decode cX9_passTicks 2 = .ok (.iload_n 2, 1) := by decide +kernel
theorem dX9_passTicks_3 : decode cX9_passTicks 3 = .ok (.iload_n 1, 1) := by decide +kernel
theorem dX9_passTicks_4 : decode cX9_passTicks 4 = .ok (.if_icmp .ge 13, 3) := by decide +kernel
theorem dX9_passTicks_7 : decode cX9_passTicks 7 = .ok (.aload_n 0, 1) := by decide +kernel
theorem dX9_passTicks_8 : decode cX9_passTicks 8 = .ok (.invokevirtual 78, 3) := by decide +kernel
theorem dX9_passTicks_11 : decode cX9_passTicks 11 = .ok (.iinc 2 1, 3) := by decide +kernel
theorem dX9_passTicks_14 : decode cX9_passTicks 14 = .ok (.goto (-12), 3) := by decide +kernel
theorem dX9_passTicks_17 : decode cX9_passTicks 17 = .ok (.return_, 1) := by decide +kernel
theorem dX9_passTick_0 : decode cX9_passTick 0 = .ok (.iconst 0, 1) := by decide +kernel
theorem dX9_passTick_1 : decode cX9_passTick 1 = .ok (.istore_n 1, 1) := by decide +kernel
theorem dX9_passTick_2 : decode cX9_passTick 2 = .ok (.iload_n 1, 1) := by decide +kernel
theorem dX9_passTick_3 : decode cX9_passTick 3 = .ok (.aload_n 0, 1) := by decide +kernel
theorem dX9_passTick_4 : decode cX9_passTick 4 = .ok (.getfield 15, 3) := by decide +kernel
theorem dX9_passTick_7 : decode cX9_passTick 7 = .ok (.getfield 81, 3) := by decide +kernel
theorem dX9_passTick_10 : decode cX9_passTick 10 = .ok (.if_icmp .ge 38, 3) := by decide +kernel
theorem dX9_passTick_13 : decode cX9_passTick 13 = .ok (.aload_n 0, 1) := by decide +kernel
theorem dX9_passTick_14 : decode cX9_passTick 14 = .ok (.getfield 15, 3) := by decide +kernel
theorem dX9_passTick_17 : decode cX9_passTick 17 = .ok (.getfield 84, 3) := by decide +kernel
theorem dX9_passTick_20 : decode cX9_passTick 20 = .ok (.iload_n 1, 1) := by decide +kernel
theorem dX9_passTick_21 : decode cX9_passTick 21 = .ok (.iaload, 1) := by decide +kernel
theorem dX9_passTick_22 : decode cX9_passTick 22 = .ok (.aload_n 0, 1) := by decide +kernel
theorem dX9_passTick_23 : decode cX9_passTick 23 = .ok (.getfield 42, 3) := by decide +kernel
theorem dX9_passTick_26 : decode cX9_passTick 26 = .ok (.if_icmp .ne 16, 3) := by decide +kernel
theorem dX9_passTick_29 : decode cX9_passTick 29 = .ok (.aload_n 0, 1) := by decide +kernel
theorem dX9_passTick_30 : decode cX9_passTick 30 = .ok (.aload_n 0, 1) := by decide +kernel
theorem dX9_passTick_31 : decode cX9_passTick 31 = .ok (.getfield 15, 3) := by decide +kernel
theorem dX9_passTick_34 : decode cX9_passTick 34 = .ok (.getfield 87, 3) := by decide +kernel
theorem dX9_passTick_37 : decode cX9_passTick 37 = .ok (.iload_n 1, 1) := by decide +kernel
theorem dX9_passTick_38 : decode cX9_passTick 38 = .ok (.iaload, 1) := by decide +kernel
theorem dX9_passTick_39 : decode cX9_passTick 39 = .ok (.invokevirtual 90, 3) := by decide +kernel
theorem dX9_passTick_42 : decode cX9_passTick 42 = .ok (.iinc 1 1, 3) := by decide +kernel
theorem dX9_passTick_45 : decode cX9_passTick 45 = .ok (.goto (-43), 3) := by decide +kernel
theorem dX9_passTick_48 : decode cX9_passTick 48 = .ok (.aload_n 0, 1) := by decide +kernel
theorem dX9_passTick_49 : decode cX9_passTick 49 = .ok (.invokevirtual 94, 3) := by decide +kernel
theorem dX9_passTick_52 : decode cX9_passTick 52 = .ok (.ifCond .eq 14, 3) := by decide +kernel
theorem dX9_passTick_55 : decode cX9_passTick 55 = .ok (.aload_n 0, 1) := by decide +kernel
theorem dX9_passTick_56 : decode cX9_passTick 56 = .ok (.dup, 1) := by decide +kernel
theorem dX9_passTick_57 : decode cX9_passTick 57 = .ok (.getfield 42, 3) := by decide +kernel
theorem dX9_passTick_60 : decode cX9_passTick 60 = .ok (.iconst 1, 1) := by decide +kernel
theorem dX9_passTick_61 : decode cX9_passTick 61 = .ok (.iadd, 1) := by decide +kernel
theorem dX9_passTick_62 : decode cX9_passTick 62 = .ok (.putfield 42, 3) := by decide +kernel
theorem dX9_passTick_65 : decode cX9_passTick 65 = .ok (.return_, 1) := by decide +kernel
theorem dX9_passTick_66 : decode cX9_passTick 66 = .ok (.aload_n 0, 1) := by decide +kernel
theorem dX9_passTick_67 : decode cX9_passTick 67 = .ok (.invokevirtual 98, 3) := by decide +kernel
theorem dX9_passTick_70 : decode cX9_passTick 70 = .ok (.aload_n 0, 1) := by decide +kernel
theorem dX9_passTick_71 : decode cX9_passTick 71 = .ok (.getfield 31, 3) := by decide +kernel
theorem dX9_passTick_74 : decode cX9_passTick 74 = .ok (.aload_n 0, 1) := by decide +kernel
theorem dX9_passTick_75 : decode cX9_passTick 75 = .ok (.invokevirtual 101, 3) := by decide +kernel
theorem dX9_passTick_78 : decode cX9_passTick 78 = .ok (.invokevirtual 105, 3) := by decide +kernel
theorem dX9_passTick_81 : decode cX9_passTick 81 = .ok (.iconst 0, 1) := by decide +kernel
theorem dX9_passTick_82 : decode cX9_passTick 82 = .ok (.istore_n 1, 1) := by decide +kernel
theorem dX9_passTick_83 : decode cX9_passTick 83 = .ok (.iload_n 1, 1) := by decide +kernel
theorem dX9_passTick_84 : decode cX9_passTick 84 = .ok (.aload_n 0, 1) := by decide +kernel
theorem dX9_passTick_85 : decode cX9_passTick 85 = .ok (.getfield 15, 3) := by decide +kernel
theorem dX9_passTick_88 : decode cX9_passTick 88 = .ok (.getfield 108, 3) := by decide +kernel
theorem dX9_passTick_91 : decode cX9_passTick 91 = .ok (.if_icmp .ge 14, 3) := by decide +kernel
theorem dX9_passTick_94 : decode cX9_passTick 94 = .ok (.aload_n 0, 1) := by decide +kernel
theorem dX9_passTick_95 : decode cX9_passTick 95 = .ok (.iload_n 1, 1) := by decide +kernel
theorem dX9_passTick_96 : decode cX9_passTick 96 = .ok (.invokevirtual 110, 3) := by decide +kernel
theorem dX9_passTick_99 : decode cX9_passTick 99 = .ok (.iinc 1 1, 3) := by decide +kernel
theorem dX9_passTick_102 : decode cX9_passTick 102 = .ok (.goto (-19), 3) := by decide +kernel
theorem dX9_passTick_105 : decode cX9_passTick 105 = .ok (.aload_n 0, 1) := by decide +kernel
theorem dX9_passTick_106 : decode cX9_passTick 106 = .ok (.invokevirtual 113, 3) := by decide +kernel
theorem dX9_passTick_109 : decode cX9_passTick 109 = .ok (.aload_n 0, 1) := by decide +kernel
theorem dX9_passTick_110 : decode cX9_passTick 110 = .ok (.invokevirtual 116, 3) := by decide +kernel
theorem dX9_passTick_113 : decode cX9_passTick 113 = .ok (.aload_n 0, 1) := by decide +kernel
theorem dX9_passTick_114 : decode cX9_passTick 114 = .ok (.invokevirtual 119, 3) := by decide +kernel
theorem dX9_passTick_117 : decode cX9_passTick 117 = .ok (.return_, 1) := by decide +kernel
theorem dX9_beginBlackout_0 : decode cX9_beginBlackout 0 = .ok (.aload_n 0, 1) := by decide +kernel
theorem dX9_beginBlackout_1 : decode cX9_beginBlackout 1 = .ok (.dup, 1) := by decide +kernel
theorem dX9_beginBlackout_2 : decode cX9_beginBlackout 2 = .ok (.getfield 64, 3) := by decide +kernel
theorem dX9_beginBlackout_5 : decode cX9_beginBlackout 5 = .ok (.iconst 1, 1) := by decide +kernel
theorem dX9_beginBlackout_6 : decode cX9_beginBlackout 6 = .ok (.iadd, 1) := by decide +kernel
theorem dX9_beginBlackout_7 : decode cX9_beginBlackout 7 = .ok (.putfield 64, 3) := by decide +kernel
theorem dX9_beginBlackout_10 : decode cX9_beginBlackout 10 = .ok (.aload_n 0, 1) := by decide +kernel
theorem dX9_beginBlackout_11 : decode cX9_beginBlackout 11 = .ok (.aload_n 0, 1) := by decide +kernel
theorem dX9_beginBlackout_12 : decode cX9_beginBlackout 12 = .ok (.getfield 46, 3) := by decide +kernel
theorem dX9_beginBlackout_15 : decode cX9_beginBlackout 15 = .ok (.aload_n 0, 1) := by decide +kernel
theorem dX9_beginBlackout_16 : decode cX9_beginBlackout 16 = .ok (.getfield 42, 3) := by decide +kernel
theorem dX9_beginBlackout_19 : decode cX9_beginBlackout 19 = .ok (.iload_n 1, 1) := by decide +kernel
theorem dX9_beginBlackout_20 : decode cX9_beginBlackout 20 = .ok (.iadd, 1) := by decide +kernel
theorem dX9_beginBlackout_21 : decode cX9_beginBlackout 21 = .ok (.invokestatic 122, 3) := by decide +kernel
theorem dX9_beginBlackout_24 : decode cX9_beginBlackout 24 = .ok (.putfield 46, 3) := by decide +kernel
theorem dX9_beginBlackout_27 : decode cX9_beginBlackout 27 = .ok (.aload_n 0, 1) := by decide +kernel
theorem dX9_beginBlackout_28 : decode cX9_beginBlackout 28 = .ok (.getfield 24, 3) := by decide +kernel
theorem dX9_beginBlackout_31 : decode cX9_beginBlackout 31 = .ok (.invokevirtual 128, 3) := by decide +kernel
theorem dX9_beginBlackout_34 : decode cX9_beginBlackout 34 = .ok (.aload_n 0, 1) := by decide +kernel
theorem dX9_beginBlackout_35 : decode cX9_beginBlackout 35 = .ok (.getfield 31, 3) := by decide +kernel
theorem dX9_beginBlackout_38 : decode cX9_beginBlackout 38 = .ok (.aload_n 0, 1) := by decide +kernel
theorem dX9_beginBlackout_39 : decode cX9_beginBlackout 39 = .ok (.getfield 42, 3) := by decide +kernel
theorem dX9_beginBlackout_42 : decode cX9_beginBlackout 42 = .ok (.invokevirtual 131, 3) := by decide +kernel
theorem dX9_beginBlackout_45 : decode cX9_beginBlackout 45 = .ok (.aload_n 0, 1) := by decide +kernel
theorem dX9_beginBlackout_46 : decode cX9_beginBlackout 46 = .ok (.getfield 38, 3) := by decide +kernel
theorem dX9_beginBlackout_49 : decode cX9_beginBlackout 49 = .ok (.iconst 0, 1) := by decide +kernel
theorem dX9_beginBlackout_50 : decode cX9_beginBlackout 50 = .ok (.putfield 133, 3) := by decide +kernel
theorem dX9_beginBlackout_53 : decode cX9_beginBlackout 53 = .ok (.return_, 1) := by decide +kernel
theorem dX9_receiveMessages_0 : decode cX9_receiveMessages 0 = .ok (.iconst 0, 1) := by decide +kernel
theorem dX9_receiveMessages_1 : decode cX9_receiveMessages 1 = .ok (.istore_n 1, 1) := by decide +kernel
theorem dX9_receiveMessages_2 : decode cX9_receiveMessages 2 = .ok (.iload_n 1, 1) := by decide +kernel
theorem dX9_receiveMessages_3 : decode cX9_receiveMessages 3 = .ok (.aload_n 0, 1) := by decide +kernel
theorem dX9_receiveMessages_4 : decode cX9_receiveMessages 4 = .ok (.getfield 38, 3) := by decide +kernel
theorem dX9_receiveMessages_7 : decode cX9_receiveMessages 7 = .ok (.getfield 133, 3) := by decide +kernel
theorem dX9_receiveMessages_10 : decode cX9_receiveMessages 10 = .ok (.if_icmp .ge 160, 3) := by decide +kernel
theorem dX9_receiveMessages_13 : decode cX9_receiveMessages 13 = .ok (.aload_n 0, 1) := by decide +kernel
theorem dX9_receiveMessages_14 : decode cX9_receiveMessages 14 = .ok (.getfield 38, 3) := by decide +kernel
theorem dX9_receiveMessages_17 : decode cX9_receiveMessages 17 = .ok (.getfield 136, 3) := by decide +kernel
theorem dX9_receiveMessages_20 : decode cX9_receiveMessages 20 = .ok (.iload_n 1, 1) := by decide +kernel
theorem dX9_receiveMessages_21 : decode cX9_receiveMessages 21 = .ok (.iaload, 1) := by decide +kernel
theorem dX9_receiveMessages_22 : decode cX9_receiveMessages 22 = .ok (.istore_n 2, 1) := by decide +kernel
theorem dX9_receiveMessages_23 : decode cX9_receiveMessages 23 = .ok (.aload_n 0, 1) := by decide +kernel
theorem dX9_receiveMessages_24 : decode cX9_receiveMessages 24 = .ok (.getfield 38, 3) := by decide +kernel
theorem dX9_receiveMessages_27 : decode cX9_receiveMessages 27 = .ok (.getfield 139, 3) := by decide +kernel
theorem dX9_receiveMessages_30 : decode cX9_receiveMessages 30 = .ok (.iload_n 1, 1) := by decide +kernel
theorem dX9_receiveMessages_31 : decode cX9_receiveMessages 31 = .ok (.iaload, 1) := by decide +kernel
theorem dX9_receiveMessages_32 : decode cX9_receiveMessages 32 = .ok (.tableswitch 132 0 5 #[40, 55, 70, 86, 110, 121], 40) := by decide +kernel
theorem dX9_receiveMessages_72 : decode cX9_receiveMessages 72 = .ok (.aload_n 0, 1) := by decide +kernel
theorem dX9_receiveMessages_73 : decode cX9_receiveMessages 73 = .ok (.getfield 31, 3) := by decide +kernel
theorem dX9_receiveMessages_76 : decode cX9_receiveMessages 76 = .ok (.iload_n 2, 1) := by decide +kernel
theorem dX9_receiveMessages_77 : decode cX9_receiveMessages 77 = .ok (.aload_n 0, 1) := by decide +kernel
theorem dX9_receiveMessages_78 : decode cX9_receiveMessages 78 = .ok (.getfield 42, 3) := by decide +kernel
theorem dX9_receiveMessages_81 : decode cX9_receiveMessages 81 = .ok (.invokevirtual 142, 3) := by decide +kernel
theorem dX9_receiveMessages_84 : decode cX9_receiveMessages 84 = .ok (.goto 80, 3) := by decide +kernel
theorem dX9_receiveMessages_87 : decode cX9_receiveMessages 87 = .ok (.aload_n 0, 1) := by decide +kernel
theorem dX9_receiveMessages_88 : decode cX9_receiveMessages 88 = .ok (.getfield 31, 3) := by decide +kernel
theorem dX9_receiveMessages_91 : decode cX9_receiveMessages 91 = .ok (.iload_n 2, 1) := by decide +kernel
theorem dX9_receiveMessages_92 : decode cX9_receiveMessages 92 = .ok (.aload_n 0, 1) := by decide +kernel
theorem dX9_receiveMessages_93 : decode cX9_receiveMessages 93 = .ok (.getfield 42, 3) := by decide +kernel
theorem dX9_receiveMessages_96 : decode cX9_receiveMessages 96 = .ok (.invokevirtual 146, 3) := by decide +kernel
theorem dX9_receiveMessages_99 : decode cX9_receiveMessages 99 = .ok (.goto 65, 3) := by decide +kernel
theorem dX9_receiveMessages_102 : decode cX9_receiveMessages 102 = .ok (.aload_n 0, 1) := by decide +kernel
theorem dX9_receiveMessages_103 : decode cX9_receiveMessages 103 = .ok (.getfield 31, 3) := by decide +kernel
theorem dX9_receiveMessages_106 : decode cX9_receiveMessages 106 = .ok (.iload_n 2, 1) := by decide +kernel
theorem dX9_receiveMessages_107 : decode cX9_receiveMessages 107 = .ok (.iconst 0, 1) := by decide +kernel
theorem dX9_receiveMessages_108 : decode cX9_receiveMessages 108 = .ok (.aload_n 0, 1) := by decide +kernel
theorem dX9_receiveMessages_109 : decode cX9_receiveMessages 109 = .ok (.getfield 42, 3) := by decide +kernel
theorem dX9_receiveMessages_112 : decode cX9_receiveMessages 112 = .ok (.invokevirtual 149, 3) := by decide +kernel
theorem dX9_receiveMessages_115 : decode cX9_receiveMessages 115 = .ok (.goto 49, 3) := by decide +kernel
theorem dX9_receiveMessages_118 : decode cX9_receiveMessages 118 = .ok (.aload_n 0, 1) := by decide +kernel
theorem dX9_receiveMessages_119 : decode cX9_receiveMessages 119 = .ok (.getfield 31, 3) := by decide +kernel
theorem dX9_receiveMessages_122 : decode cX9_receiveMessages 122 = .ok (.iload_n 2, 1) := by decide +kernel
theorem dX9_receiveMessages_123 : decode cX9_receiveMessages 123 = .ok (.aload_n 0, 1) := by decide +kernel
theorem dX9_receiveMessages_124 : decode cX9_receiveMessages 124 = .ok (.getfield 38, 3) := by decide +kernel
theorem dX9_receiveMessages_127 : decode cX9_receiveMessages 127 = .ok (.getfield 153, 3) := by decide +kernel
theorem dX9_receiveMessages_130 : decode cX9_receiveMessages 130 = .ok (.iload_n 1, 1) := by decide +kernel
theorem dX9_receiveMessages_131 : decode cX9_receiveMessages 131 = .ok (.iaload, 1) := by decide +kernel
theorem dX9_receiveMessages_132 : decode cX9_receiveMessages 132 = .ok (.aload_n 0, 1) := by decide +kernel
theorem dX9_receiveMessages_133 : decode cX9_receiveMessages 133 = .ok (.getfield 42, 3) := by decide +kernel
theorem dX9_receiveMessages_136 : decode cX9_receiveMessages 136 = .ok (.invokevirtual 156, 3) := by decide +kernel
theorem dX9_receiveMessages_139 : decode cX9_receiveMessages 139 = .ok (.goto 25, 3) := by decide +kernel
theorem dX9_receiveMessages_142 : decode cX9_receiveMessages 142 = .ok (.aload_n 0, 1) := by decide +kernel
theorem dX9_receiveMessages_143 : decode cX9_receiveMessages 143 = .ok (.getfield 24, 3) := by decide +kernel
theorem dX9_receiveMessages_146 : decode cX9_receiveMessages 146 = .ok (.iload_n 2, 1) := by decide +kernel
theorem dX9_receiveMessages_147 : decode cX9_receiveMessages 147 = .ok (.invokevirtual 159, 3) := by decide +kernel
theorem dX9_receiveMessages_150 : decode cX9_receiveMessages 150 = .ok (.goto 14, 3) := by decide +kernel
theorem dX9_receiveMessages_153 : decode cX9_receiveMessages 153 = .ok (.aload_n 0, 1) := by decide +kernel
theorem dX9_receiveMessages_154 : decode cX9_receiveMessages 154 = .ok (.getfield 24, 3) := by decide +kernel
theorem dX9_receiveMessages_157 : decode cX9_receiveMessages 157 = .ok (.iload_n 2, 1) := by decide +kernel
theorem dX9_receiveMessages_158 : decode cX9_receiveMessages 158 = .ok (.invokevirtual 162, 3) := by decide +kernel
theorem dX9_receiveMessages_161 : decode cX9_receiveMessages 161 = .ok (.goto 3, 3) := by decide +kernel
theorem dX9_receiveMessages_164 : decode cX9_receiveMessages 164 = .ok (.iinc 1 1, 3) := by decide +kernel
theorem dX9_receiveMessages_167 : decode cX9_receiveMessages 167 = .ok (.goto (-165), 3) := by decide +kernel
theorem dX9_receiveMessages_170 : decode cX9_receiveMessages 170 = .ok (.aload_n 0, 1) := by decide +kernel
theorem dX9_receiveMessages_171 : decode cX9_receiveMessages 171 = .ok (.getfield 38, 3) := by decide +kernel
theorem dX9_receiveMessages_174 : decode cX9_receiveMessages 174 = .ok (.iconst 0, 1) := by decide +kernel
theorem dX9_receiveMessages_175 : decode cX9_receiveMessages 175 = .ok (.putfield 133, 3) := by decide +kernel
theorem dX9_receiveMessages_178 : decode cX9_receiveMessages 178 = .ok (.return_, 1) := by decide +kernel
theorem dX9_letOutletAct_0 : decode cX9_letOutletAct 0 = .ok (.aload_n 0, 1) := by decide +kernel
theorem dX9_letOutletAct_1 : decode cX9_letOutletAct 1 = .ok (.getfield 24, 3) := by decide +kernel
theorem dX9_letOutletAct_4 : decode cX9_letOutletAct 4 = .ok (.getfield 165, 3) := by decide +kernel
theorem dX9_letOutletAct_7 : decode cX9_letOutletAct 7 = .ok (.iload_n 1, 1) := by decide +kernel
theorem dX9_letOutletAct_8 : decode cX9_letOutletAct 8 = .ok (.iaload, 1) := by decide +kernel
theorem dX9_letOutletAct_9 : decode cX9_letOutletAct 9 = .ok (.iconst 2, 1) := by decide +kernel
theorem dX9_letOutletAct_10 : decode cX9_letOutletAct 10 = .ok (.if_icmp .ne 48, 3) := by decide +kernel
theorem dX9_letOutletAct_13 : decode cX9_letOutletAct 13 = .ok (.aload_n 0, 1) := by decide +kernel
theorem dX9_letOutletAct_14 : decode cX9_letOutletAct 14 = .ok (.getfield 24, 3) := by decide +kernel
theorem dX9_letOutletAct_17 : decode cX9_letOutletAct 17 = .ok (.getfield 168, 3) := by decide +kernel
theorem dX9_letOutletAct_20 : decode cX9_letOutletAct 20 = .ok (.iload_n 1, 1) := by decide +kernel
theorem dX9_letOutletAct_21 : decode cX9_letOutletAct 21 = .ok (.iaload, 1) := by decide +kernel
theorem dX9_letOutletAct_22 : decode cX9_letOutletAct 22 = .ok (.ifCond .ne 36, 3) := by decide +kernel
theorem dX9_letOutletAct_25 : decode cX9_letOutletAct 25 = .ok (.aload_n 0, 1) := by decide +kernel
theorem dX9_letOutletAct_26 : decode cX9_letOutletAct 26 = .ok (.getfield 24, 3) := by decide +kernel
theorem dX9_letOutletAct_29 : decode cX9_letOutletAct 29 = .ok (.getfield 165, 3) := by decide +kernel
theorem dX9_letOutletAct_32 : decode cX9_letOutletAct 32 = .ok (.iload_n 1, 1) := by decide +kernel
theorem dX9_letOutletAct_33 : decode cX9_letOutletAct 33 = .ok (.iconst 3, 1) := by decide +kernel
theorem dX9_letOutletAct_34 : decode cX9_letOutletAct 34 = .ok (.iastore, 1) := by decide +kernel
theorem dX9_letOutletAct_35 : decode cX9_letOutletAct 35 = .ok (.aload_n 0, 1) := by decide +kernel
theorem dX9_letOutletAct_36 : decode cX9_letOutletAct 36 = .ok (.getfield 24, 3) := by decide +kernel
theorem dX9_letOutletAct_39 : decode cX9_letOutletAct 39 = .ok (.getfield 171, 3) := by decide +kernel
theorem dX9_letOutletAct_42 : decode cX9_letOutletAct 42 = .ok (.iload_n 1, 1) := by decide +kernel
theorem dX9_letOutletAct_43 : decode cX9_letOutletAct 43 = .ok (.aload_n 0, 1) := by decide +kernel
theorem dX9_letOutletAct_44 : decode cX9_letOutletAct 44 = .ok (.getfield 42, 3) := by decide +kernel
theorem dX9_letOutletAct_47 : decode cX9_letOutletAct 47 = .ok (.iastore, 1) := by decide +kernel
theorem dX9_letOutletAct_48 : decode cX9_letOutletAct 48 = .ok (.aload_n 0, 1) := by decide +kernel
theorem dX9_letOutletAct_49 : decode cX9_letOutletAct 49 = .ok (.getfield 38, 3) := by decide +kernel
theorem dX9_letOutletAct_52 : decode cX9_letOutletAct 52 = .ok (.iconst 1, 1) := by decide +kernel
theorem dX9_letOutletAct_53 : decode cX9_letOutletAct 53 = .ok (.iload_n 1, 1) := by decide +kernel
theorem dX9_letOutletAct_54 : decode cX9_letOutletAct 54 = .ok (.iconst (-1), 1) := by decide +kernel
theorem dX9_letOutletAct_55 : decode cX9_letOutletAct 55 = .ok (.invokevirtual 174, 3) := by decide +kernel
theorem dX9_letOutletAct_58 : decode cX9_letOutletAct 58 = .ok (.aload_n 0, 1) := by decide +kernel
theorem dX9_letOutletAct_59 : decode cX9_letOutletAct 59 = .ok (.getfield 24, 3) := by decide +kernel
theorem dX9_letOutletAct_62 : decode cX9_letOutletAct 62 = .ok (.getfield 177, 3) := by decide +kernel
theorem dX9_letOutletAct_65 : decode cX9_letOutletAct 65 = .ok (.iload_n 1, 1) := by decide +kernel
theorem dX9_letOutletAct_66 : decode cX9_letOutletAct 66 = .ok (.invokestatic 180, 3) := by decide +kernel
theorem dX9_letOutletAct_69 : decode cX9_letOutletAct 69 = .ok (.ifCond .eq 30, 3) := by decide +kernel
theorem dX9_letOutletAct_72 : decode cX9_letOutletAct 72 = .ok (.aload_n 0, 1) := by decide +kernel
theorem dX9_letOutletAct_73 : decode cX9_letOutletAct 73 = .ok (.getfield 24, 3) := by decide +kernel
theorem dX9_letOutletAct_76 : decode cX9_letOutletAct 76 = .ok (.dup, 1) := by decide +kernel
theorem dX9_letOutletAct_77 : decode cX9_letOutletAct 77 = .ok (.getfield 177, 3) := by decide +kernel
theorem dX9_letOutletAct_80 : decode cX9_letOutletAct 80 = .ok (.iconst 1, 1) := by decide +kernel
theorem dX9_letOutletAct_81 : decode cX9_letOutletAct 81 = .ok (.iload_n 1, 1) := by decide +kernel
theorem dX9_letOutletAct_82 : decode cX9_letOutletAct 82 = .ok (.ishl, 1) := by decide +kernel
theorem dX9_letOutletAct_83 : decode cX9_letOutletAct 83 = .ok (.iconst (-1), 1) := by decide +kernel
theorem dX9_letOutletAct_84 : decode cX9_letOutletAct 84 = .ok (.ixor, 1) := by decide +kernel
theorem dX9_letOutletAct_85 : decode cX9_letOutletAct 85 = .ok (.iand, 1) := by decide +kernel
theorem dX9_letOutletAct_86 : decode cX9_letOutletAct 86 = .ok (.putfield 177, 3) := by decide +kernel
theorem dX9_letOutletAct_89 : decode cX9_letOutletAct 89 = .ok (.aload_n 0, 1) := by decide +kernel
theorem dX9_letOutletAct_90 : decode cX9_letOutletAct 90 = .ok (.getfield 38, 3) := by decide +kernel
theorem dX9_letOutletAct_93 : decode cX9_letOutletAct 93 = .ok (.iconst 2, 1) := by decide +kernel
theorem dX9_letOutletAct_94 : decode cX9_letOutletAct 94 = .ok (.iload_n 1, 1) := by decide +kernel
theorem dX9_letOutletAct_95 : decode cX9_letOutletAct 95 = .ok (.iconst (-1), 1) := by decide +kernel
theorem dX9_letOutletAct_96 : decode cX9_letOutletAct 96 = .ok (.invokevirtual 174, 3) := by decide +kernel
theorem dX9_letOutletAct_99 : decode cX9_letOutletAct 99 = .ok (.aload_n 0, 1) := by decide +kernel
theorem dX9_letOutletAct_100 : decode cX9_letOutletAct 100 = .ok (.getfield 24, 3) := by decide +kernel
theorem dX9_letOutletAct_103 : decode cX9_letOutletAct 103 = .ok (.getfield 184, 3) := by decide +kernel
theorem dX9_letOutletAct_106 : decode cX9_letOutletAct 106 = .ok (.iload_n 1, 1) := by decide +kernel
theorem dX9_letOutletAct_107 : decode cX9_letOutletAct 107 = .ok (.invokestatic 180, 3) := by decide +kernel
theorem dX9_letOutletAct_110 : decode cX9_letOutletAct 110 = .ok (.ifCond .eq 38, 3) := by decide +kernel
theorem dX9_letOutletAct_113 : decode cX9_letOutletAct 113 = .ok (.aload_n 0, 1) := by decide +kernel
theorem dX9_letOutletAct_114 : decode cX9_letOutletAct 114 = .ok (.getfield 24, 3) := by decide +kernel
theorem dX9_letOutletAct_117 : decode cX9_letOutletAct 117 = .ok (.dup, 1) := by decide +kernel
theorem dX9_letOutletAct_118 : decode cX9_letOutletAct 118 = .ok (.getfield 184, 3) := by decide +kernel
theorem dX9_letOutletAct_121 : decode cX9_letOutletAct 121 = .ok (.iconst 1, 1) := by decide +kernel
theorem dX9_letOutletAct_122 : decode cX9_letOutletAct 122 = .ok (.iload_n 1, 1) := by decide +kernel
theorem dX9_letOutletAct_123 : decode cX9_letOutletAct 123 = .ok (.ishl, 1) := by decide +kernel
theorem dX9_letOutletAct_124 : decode cX9_letOutletAct 124 = .ok (.iconst (-1), 1) := by decide +kernel
theorem dX9_letOutletAct_125 : decode cX9_letOutletAct 125 = .ok (.ixor, 1) := by decide +kernel
theorem dX9_letOutletAct_126 : decode cX9_letOutletAct 126 = .ok (.iand, 1) := by decide +kernel
theorem dX9_letOutletAct_127 : decode cX9_letOutletAct 127 = .ok (.putfield 184, 3) := by decide +kernel
theorem dX9_letOutletAct_130 : decode cX9_letOutletAct 130 = .ok (.aload_n 0, 1) := by decide +kernel
theorem dX9_letOutletAct_131 : decode cX9_letOutletAct 131 = .ok (.getfield 38, 3) := by decide +kernel
theorem dX9_letOutletAct_134 : decode cX9_letOutletAct 134 = .ok (.iconst 3, 1) := by decide +kernel
theorem dX9_letOutletAct_135 : decode cX9_letOutletAct 135 = .ok (.iload_n 1, 1) := by decide +kernel
theorem dX9_letOutletAct_136 : decode cX9_letOutletAct 136 = .ok (.aload_n 0, 1) := by decide +kernel
theorem dX9_letOutletAct_137 : decode cX9_letOutletAct 137 = .ok (.getfield 24, 3) := by decide +kernel
theorem dX9_letOutletAct_140 : decode cX9_letOutletAct 140 = .ok (.getfield 165, 3) := by decide +kernel
theorem dX9_letOutletAct_143 : decode cX9_letOutletAct 143 = .ok (.iload_n 1, 1) := by decide +kernel
theorem dX9_letOutletAct_144 : decode cX9_letOutletAct 144 = .ok (.iaload, 1) := by decide +kernel
theorem dX9_letOutletAct_145 : decode cX9_letOutletAct 145 = .ok (.invokevirtual 174, 3) := by decide +kernel
theorem dX9_letOutletAct_148 : decode cX9_letOutletAct 148 = .ok (.aload_n 0, 1) := by decide +kernel
theorem dX9_letOutletAct_149 : decode cX9_letOutletAct 149 = .ok (.getfield 24, 3) := by decide +kernel
theorem dX9_letOutletAct_152 : decode cX9_letOutletAct 152 = .ok (.iload_n 1, 1) := by decide +kernel
theorem dX9_letOutletAct_153 : decode cX9_letOutletAct 153 = .ok (.aload_n 0, 1) := by decide +kernel
theorem dX9_letOutletAct_154 : decode cX9_letOutletAct 154 = .ok (.getfield 42, 3) := by decide +kernel
theorem dX9_letOutletAct_157 : decode cX9_letOutletAct 157 = .ok (.aload_n 0, 1) := by decide +kernel
theorem dX9_letOutletAct_158 : decode cX9_letOutletAct 158 = .ok (.getfield 58, 3) := by decide +kernel
theorem dX9_letOutletAct_161 : decode cX9_letOutletAct 161 = .ok (.invokevirtual 187, 3) := by decide +kernel
theorem dX9_letOutletAct_164 : decode cX9_letOutletAct 164 = .ok (.ifCond .eq 26, 3) := by decide +kernel
theorem dX9_letOutletAct_167 : decode cX9_letOutletAct 167 = .ok (.aload_n 0, 1) := by decide +kernel
theorem dX9_letOutletAct_168 : decode cX9_letOutletAct 168 = .ok (.getfield 24, 3) := by decide +kernel
theorem dX9_letOutletAct_171 : decode cX9_letOutletAct 171 = .ok (.getfield 191, 3) := by decide +kernel
theorem dX9_letOutletAct_174 : decode cX9_letOutletAct 174 = .ok (.iload_n 1, 1) := by decide +kernel
theorem dX9_letOutletAct_175 : decode cX9_letOutletAct 175 = .ok (.aload_n 0, 1) := by decide +kernel
theorem dX9_letOutletAct_176 : decode cX9_letOutletAct 176 = .ok (.getfield 42, 3) := by decide +kernel
theorem dX9_letOutletAct_179 : decode cX9_letOutletAct 179 = .ok (.iastore, 1) := by decide +kernel
theorem dX9_letOutletAct_180 : decode cX9_letOutletAct 180 = .ok (.aload_n 0, 1) := by decide +kernel
theorem dX9_letOutletAct_181 : decode cX9_letOutletAct 181 = .ok (.getfield 38, 3) := by decide +kernel
theorem dX9_letOutletAct_184 : decode cX9_letOutletAct 184 = .ok (.iconst 0, 1) := by decide +kernel
theorem dX9_letOutletAct_185 : decode cX9_letOutletAct 185 = .ok (.iload_n 1, 1) := by decide +kernel
theorem dX9_letOutletAct_186 : decode cX9_letOutletAct 186 = .ok (.iconst (-1), 1) := by decide +kernel
theorem dX9_letOutletAct_187 : decode cX9_letOutletAct 187 = .ok (.invokevirtual 174, 3) := by decide +kernel
theorem dX9_letOutletAct_190 : decode cX9_letOutletAct 190 = .ok (.return_, 1) := by decide +kernel
theorem dX9_sendPolls_0 : decode cX9_sendPolls 0 = .ok (.iconst 0, 1) := by decide +kernel
theorem dX9_sendPolls_1 : decode cX9_sendPolls 1 = .ok (.istore_n 1, 1) := by decide +kernel
theorem dX9_sendPolls_2 : decode cX9_sendPolls 2 = .ok (.iload_n 1, 1) := by decide +kernel
theorem dX9_sendPolls_3 : decode cX9_sendPolls 3 = .ok (.aload_n 0, 1) := by decide +kernel
theorem dX9_sendPolls_4 : decode cX9_sendPolls 4 = .ok (.getfield 15, 3) := by decide +kernel
theorem dX9_sendPolls_7 : decode cX9_sendPolls 7 = .ok (.getfield 108, 3) := by decide +kernel
theorem dX9_sendPolls_10 : decode cX9_sendPolls 10 = .ok (.if_icmp .ge 47, 3) := by decide +kernel
theorem dX9_sendPolls_13 : decode cX9_sendPolls 13 = .ok (.aload_n 0, 1) := by decide +kernel
theorem dX9_sendPolls_14 : decode cX9_sendPolls 14 = .ok (.getfield 31, 3) := by decide +kernel
theorem dX9_sendPolls_17 : decode cX9_sendPolls 17 = .ok (.iload_n 1, 1) := by decide +kernel
theorem dX9_sendPolls_18 : decode cX9_sendPolls 18 = .ok (.aload_n 0, 1) := by decide +kernel
theorem dX9_sendPolls_19 : decode cX9_sendPolls 19 = .ok (.getfield 42, 3) := by decide +kernel
theorem dX9_sendPolls_22 : decode cX9_sendPolls 22 = .ok (.invokevirtual 194, 3) := by decide +kernel
theorem dX9_sendPolls_25 : decode cX9_sendPolls 25 = .ok (.ifCond .eq 26, 3) := by decide +kernel
theorem dX9_sendPolls_28 : decode cX9_sendPolls 28 = .ok (.aload_n 0, 1) := by decide +kernel
theorem dX9_sendPolls_29 : decode cX9_sendPolls 29 = .ok (.getfield 31, 3) := by decide +kernel
theorem dX9_sendPolls_32 : decode cX9_sendPolls 32 = .ok (.getfield 197, 3) := by decide +kernel
theorem dX9_sendPolls_35 : decode cX9_sendPolls 35 = .ok (.iload_n 1, 1) := by decide +kernel
theorem dX9_sendPolls_36 : decode cX9_sendPolls 36 = .ok (.aload_n 0, 1) := by decide +kernel
theorem dX9_sendPolls_37 : decode cX9_sendPolls 37 = .ok (.getfield 42, 3) := by decide +kernel
theorem dX9_sendPolls_40 : decode cX9_sendPolls 40 = .ok (.iastore, 1) := by decide +kernel
theorem dX9_sendPolls_41 : decode cX9_sendPolls 41 = .ok (.aload_n 0, 1) := by decide +kernel
theorem dX9_sendPolls_42 : decode cX9_sendPolls 42 = .ok (.getfield 38, 3) := by decide +kernel
theorem dX9_sendPolls_45 : decode cX9_sendPolls 45 = .ok (.iconst 5, 1) := by decide +kernel
theorem dX9_sendPolls_46 : decode cX9_sendPolls 46 = .ok (.iload_n 1, 1) := by decide +kernel
theorem dX9_sendPolls_47 : decode cX9_sendPolls 47 = .ok (.iconst (-1), 1) := by decide +kernel
theorem dX9_sendPolls_48 : decode cX9_sendPolls 48 = .ok (.invokevirtual 174, 3) := by decide +kernel
theorem dX9_sendPolls_51 : decode cX9_sendPolls 51 = .ok (.iinc 1 1, 3) := by decide +kernel
theorem dX9_sendPolls_54 : decode cX9_sendPolls 54 = .ok (.goto (-52), 3) := by decide +kernel
theorem dX9_sendPolls_57 : decode cX9_sendPolls 57 = .ok (.return_, 1) := by decide +kernel
theorem dX9_sendGrants_0 : decode cX9_sendGrants 0 = .ok (.aload_n 0, 1) := by decide +kernel
theorem dX9_sendGrants_1 : decode cX9_sendGrants 1 = .ok (.invokevirtual 200, 3) := by decide +kernel
theorem dX9_sendGrants_4 : decode cX9_sendGrants 4 = .ok (.istore_n 1, 1) := by decide +kernel
theorem dX9_sendGrants_5 : decode cX9_sendGrants 5 = .ok (.iconst 0, 1) := by decide +kernel
theorem dX9_sendGrants_6 : decode cX9_sendGrants 6 = .ok (.istore_n 2, 1) := by decide +kernel
theorem dX9_sendGrants_7 : decode cX9_sendGrants 7 = .ok (.iload_n 2, 1) := by decide +kernel
theorem dX9_sendGrants_8 : decode cX9_sendGrants 8 = .ok (.aload_n 0, 1) := by decide +kernel
theorem dX9_sendGrants_9 : decode cX9_sendGrants 9 = .ok (.getfield 203, 3) := by decide +kernel
theorem dX9_sendGrants_12 : decode cX9_sendGrants 12 = .ok (.if_icmp .ge 47, 3) := by decide +kernel
theorem dX9_sendGrants_15 : decode cX9_sendGrants 15 = .ok (.aload_n 0, 1) := by decide +kernel
theorem dX9_sendGrants_16 : decode cX9_sendGrants 16 = .ok (.getfield 9, 3) := by decide +kernel
theorem dX9_sendGrants_19 : decode cX9_sendGrants 19 = .ok (.iload_n 2, 1) := by decide +kernel
theorem dX9_sendGrants_20 : decode cX9_sendGrants 20 = .ok (.iaload, 1) := by decide +kernel
theorem dX9_sendGrants_21 : decode cX9_sendGrants 21 = .ok (.istore_n 3, 1) := by decide +kernel
theorem dX9_sendGrants_22 : decode cX9_sendGrants 22 = .ok (.iload_n 1, 1) := by decide +kernel
theorem dX9_sendGrants_23 : decode cX9_sendGrants 23 = .ok (.iload_n 3, 1) := by decide +kernel
theorem dX9_sendGrants_24 : decode cX9_sendGrants 24 = .ok (.invokestatic 180, 3) := by decide +kernel
theorem dX9_sendGrants_27 : decode cX9_sendGrants 27 = .ok (.ifCond .eq 26, 3) := by decide +kernel
theorem dX9_sendGrants_30 : decode cX9_sendGrants 30 = .ok (.aload_n 0, 1) := by decide +kernel
theorem dX9_sendGrants_31 : decode cX9_sendGrants 31 = .ok (.getfield 31, 3) := by decide +kernel
theorem dX9_sendGrants_34 : decode cX9_sendGrants 34 = .ok (.iload_n 3, 1) := by decide +kernel
theorem dX9_sendGrants_35 : decode cX9_sendGrants 35 = .ok (.iconst 2, 1) := by decide +kernel
theorem dX9_sendGrants_36 : decode cX9_sendGrants 36 = .ok (.aload_n 0, 1) := by decide +kernel
theorem dX9_sendGrants_37 : decode cX9_sendGrants 37 = .ok (.getfield 42, 3) := by decide +kernel
theorem dX9_sendGrants_40 : decode cX9_sendGrants 40 = .ok (.invokevirtual 149, 3) := by decide +kernel
theorem dX9_sendGrants_43 : decode cX9_sendGrants 43 = .ok (.aload_n 0, 1) := by decide +kernel
theorem dX9_sendGrants_44 : decode cX9_sendGrants 44 = .ok (.getfield 38, 3) := by decide +kernel
theorem dX9_sendGrants_47 : decode cX9_sendGrants 47 = .ok (.iconst 4, 1) := by decide +kernel
theorem dX9_sendGrants_48 : decode cX9_sendGrants 48 = .ok (.iload_n 3, 1) := by decide +kernel
theorem dX9_sendGrants_49 : decode cX9_sendGrants 49 = .ok (.iconst (-1), 1) := by decide +kernel
theorem dX9_sendGrants_50 : decode cX9_sendGrants 50 = .ok (.invokevirtual 174, 3) := by decide +kernel
theorem dX9_sendGrants_53 : decode cX9_sendGrants 53 = .ok (.iinc 2 1, 3) := by decide +kernel
theorem dX9_sendGrants_56 : decode cX9_sendGrants 56 = .ok (.goto (-49), 3) := by decide +kernel
theorem dX9_sendGrants_59 : decode cX9_sendGrants 59 = .ok (.return_, 1) := by decide +kernel
theorem dX9_grantable_0 : decode cX9_grantable 0 = .ok (.aload_n 0, 1) := by decide +kernel
theorem dX9_grantable_1 : decode cX9_grantable 1 = .ok (.invokevirtual 206, 3) := by decide +kernel
theorem dX9_grantable_4 : decode cX9_grantable 4 = .ok (.aload_n 0, 1) := by decide +kernel
theorem dX9_grantable_5 : decode cX9_grantable 5 = .ok (.getfield 31, 3) := by decide +kernel
theorem dX9_grantable_8 : decode cX9_grantable 8 = .ok (.iconst 3, 1) := by decide +kernel
theorem dX9_grantable_9 : decode cX9_grantable 9 = .ok (.invokevirtual 209, 3) := by decide +kernel
theorem dX9_grantable_12 : decode cX9_grantable 12 = .ok (.istore_n 1, 1) := by decide +kernel
theorem dX9_grantable_13 : decode cX9_grantable 13 = .ok (.aload_n 0, 1) := by decide +kernel
theorem dX9_grantable_14 : decode cX9_grantable 14 = .ok (.getfield 31, 3) := by decide +kernel
theorem dX9_grantable_17 : decode cX9_grantable 17 = .ok (.invokevirtual 213, 3) := by decide +kernel
theorem dX9_grantable_20 : decode cX9_grantable 20 = .ok (.istore_n 2, 1) := by decide +kernel
theorem dX9_grantable_21 : decode cX9_grantable 21 = .ok (.iconst 0, 1) := by decide +kernel
theorem dX9_grantable_22 : decode cX9_grantable 22 = .ok (.istore_n 3, 1) := by decide +kernel
theorem dX9_grantable_23 : decode cX9_grantable 23 = .ok (.iconst 0, 1) := by decide +kernel
theorem dX9_grantable_24 : decode cX9_grantable 24 = .ok (.istore 4, 2) := by decide +kernel
theorem dX9_grantable_26 : decode cX9_grantable 26 = .ok (.iload 4, 2) := by decide +kernel
theorem dX9_grantable_28 : decode cX9_grantable 28 = .ok (.aload_n 0, 1) := by decide +kernel
theorem dX9_grantable_29 : decode cX9_grantable 29 = .ok (.getfield 203, 3) := by decide +kernel
theorem dX9_grantable_32 : decode cX9_grantable 32 = .ok (.if_icmp .ge 86, 3) := by decide +kernel
theorem dX9_grantable_35 : decode cX9_grantable 35 = .ok (.aload_n 0, 1) := by decide +kernel
theorem dX9_grantable_36 : decode cX9_grantable 36 = .ok (.getfield 9, 3) := by decide +kernel
theorem dX9_grantable_39 : decode cX9_grantable 39 = .ok (.iload 4, 2) := by decide +kernel
theorem dX9_grantable_41 : decode cX9_grantable 41 = .ok (.iaload, 1) := by decide +kernel
theorem dX9_grantable_42 : decode cX9_grantable 42 = .ok (.istore 5, 2) := by decide +kernel
theorem dX9_grantable_44 : decode cX9_grantable 44 = .ok (.aload_n 0, 1) := by decide +kernel
theorem dX9_grantable_45 : decode cX9_grantable 45 = .ok (.getfield 15, 3) := by decide +kernel
theorem dX9_grantable_48 : decode cX9_grantable 48 = .ok (.getfield 216, 3) := by decide +kernel
theorem dX9_grantable_51 : decode cX9_grantable 51 = .ok (.iload 5, 2) := by decide +kernel
theorem dX9_grantable_53 : decode cX9_grantable 53 = .ok (.iaload, 1) := by decide +kernel
theorem dX9_grantable_54 : decode cX9_grantable 54 = .ok (.iload_n 1, 1) := by decide +kernel
theorem dX9_grantable_55 : decode cX9_grantable 55 = .ok (.iconst (-1), 1) := by decide +kernel
theorem dX9_grantable_56 : decode cX9_grantable 56 = .ok (.ixor, 1) := by decide +kernel
theorem dX9_grantable_57 : decode cX9_grantable 57 = .ok (.iand, 1) := by decide +kernel
theorem dX9_grantable_58 : decode cX9_grantable 58 = .ok (.ifCond .eq 6, 3) := by decide +kernel
theorem dX9_grantable_61 : decode cX9_grantable 61 = .ok (.goto 51, 3) := by decide +kernel
theorem dX9_grantable_64 : decode cX9_grantable 64 = .ok (.aload_n 0, 1) := by decide +kernel
theorem dX9_grantable_65 : decode cX9_grantable 65 = .ok (.getfield 31, 3) := by decide +kernel
theorem dX9_grantable_68 : decode cX9_grantable 68 = .ok (.getfield 219, 3) := by decide +kernel
theorem dX9_grantable_71 : decode cX9_grantable 71 = .ok (.iload 5, 2) := by decide +kernel
theorem dX9_grantable_73 : decode cX9_grantable 73 = .ok (.iaload, 1) := by decide +kernel
theorem dX9_grantable_74 : decode cX9_grantable 74 = .ok (.istore 6, 2) := by decide +kernel
theorem dX9_grantable_76 : decode cX9_grantable 76 = .ok (.iload_n 2, 1) := by decide +kernel
theorem dX9_grantable_77 : decode cX9_grantable 77 = .ok (.iload 6, 2) := by decide +kernel
theorem dX9_grantable_79 : decode cX9_grantable 79 = .ok (.iadd, 1) := by decide +kernel
theorem dX9_grantable_80 : decode cX9_grantable 80 = .ok (.aload_n 0, 1) := by decide +kernel
theorem dX9_grantable_81 : decode cX9_grantable 81 = .ok (.getfield 54, 3) := by decide +kernel
theorem dX9_grantable_84 : decode cX9_grantable 84 = .ok (.if_icmp .gt 18, 3) := by decide +kernel
theorem dX9_grantable_87 : decode cX9_grantable 87 = .ok (.iload_n 2, 1) := by decide +kernel
theorem dX9_grantable_88 : decode cX9_grantable 88 = .ok (.iload 6, 2) := by decide +kernel
theorem dX9_grantable_90 : decode cX9_grantable 90 = .ok (.iadd, 1) := by decide +kernel
theorem dX9_grantable_91 : decode cX9_grantable 91 = .ok (.istore_n 2, 1) := by decide +kernel
theorem dX9_grantable_92 : decode cX9_grantable 92 = .ok (.iload_n 3, 1) := by decide +kernel
theorem dX9_grantable_93 : decode cX9_grantable 93 = .ok (.iconst 1, 1) := by decide +kernel
theorem dX9_grantable_94 : decode cX9_grantable 94 = .ok (.iload 5, 2) := by decide +kernel
theorem dX9_grantable_96 : decode cX9_grantable 96 = .ok (.ishl, 1) := by decide +kernel
theorem dX9_grantable_97 : decode cX9_grantable 97 = .ok (.ior, 1) := by decide +kernel
theorem dX9_grantable_98 : decode cX9_grantable 98 = .ok (.istore_n 3, 1) := by decide +kernel
theorem dX9_grantable_99 : decode cX9_grantable 99 = .ok (.goto 13, 3) := by decide +kernel
theorem dX9_grantable_102 : decode cX9_grantable 102 = .ok (.aload_n 0, 1) := by decide +kernel
theorem dX9_grantable_103 : decode cX9_grantable 103 = .ok (.getfield 63, 3) := by decide +kernel
theorem dX9_grantable_106 : decode cX9_grantable 106 = .ok (.ifCond .eq 6, 3) := by decide +kernel
theorem dX9_grantable_109 : decode cX9_grantable 109 = .ok (.goto 9, 3) := by decide +kernel
theorem dX9_grantable_112 : decode cX9_grantable 112 = .ok (.iinc 4 1, 3) := by decide +kernel
theorem dX9_grantable_115 : decode cX9_grantable 115 = .ok (.goto (-89), 3) := by decide +kernel
theorem dX9_grantable_118 : decode cX9_grantable 118 = .ok (.iload_n 3, 1) := by decide +kernel
theorem dX9_grantable_119 : decode cX9_grantable 119 = .ok (.ireturn, 1) := by decide +kernel
theorem dX9_fillQueue_0 : decode cX9_fillQueue 0 = .ok (.aload_n 0, 1) := by decide +kernel
theorem dX9_fillQueue_1 : decode cX9_fillQueue 1 = .ok (.iconst 0, 1) := by decide +kernel
theorem dX9_fillQueue_2 : decode cX9_fillQueue 2 = .ok (.putfield 203, 3) := by decide +kernel
theorem dX9_fillQueue_5 : decode cX9_fillQueue 5 = .ok (.iconst 0, 1) := by decide +kernel
theorem dX9_fillQueue_6 : decode cX9_fillQueue 6 = .ok (.istore_n 1, 1) := by decide +kernel
theorem dX9_fillQueue_7 : decode cX9_fillQueue 7 = .ok (.iload_n 1, 1) := by decide +kernel
theorem dX9_fillQueue_8 : decode cX9_fillQueue 8 = .ok (.aload_n 0, 1) := by decide +kernel
theorem dX9_fillQueue_9 : decode cX9_fillQueue 9 = .ok (.getfield 15, 3) := by decide +kernel
theorem dX9_fillQueue_12 : decode cX9_fillQueue 12 = .ok (.getfield 108, 3) := by decide +kernel
theorem dX9_fillQueue_15 : decode cX9_fillQueue 15 = .ok (.if_icmp .ge 93, 3) := by decide +kernel
theorem dX9_fillQueue_18 : decode cX9_fillQueue 18 = .ok (.aload_n 0, 1) := by decide +kernel
theorem dX9_fillQueue_19 : decode cX9_fillQueue 19 = .ok (.getfield 203, 3) := by decide +kernel
theorem dX9_fillQueue_22 : decode cX9_fillQueue 22 = .ok (.bipush 12, 2) := by decide +kernel
theorem dX9_fillQueue_24 : decode cX9_fillQueue 24 = .ok (.if_icmp .ge 84, 3) := by decide +kernel
theorem dX9_fillQueue_27 : decode cX9_fillQueue 27 = .ok (.aload_n 0, 1) := by decide +kernel
theorem dX9_fillQueue_28 : decode cX9_fillQueue 28 = .ok (.getfield 31, 3) := by decide +kernel
theorem dX9_fillQueue_31 : decode cX9_fillQueue 31 = .ok (.getfield 222, 3) := by decide +kernel
theorem dX9_fillQueue_34 : decode cX9_fillQueue 34 = .ok (.iload_n 1, 1) := by decide +kernel
theorem dX9_fillQueue_35 : decode cX9_fillQueue 35 = .ok (.iaload, 1) := by decide +kernel
theorem dX9_fillQueue_36 : decode cX9_fillQueue 36 = .ok (.iconst 1, 1) := by decide +kernel
theorem dX9_fillQueue_37 : decode cX9_fillQueue 37 = .ok (.if_icmp .ne 65, 3) := by decide +kernel
theorem dX9_fillQueue_40 : decode cX9_fillQueue 40 = .ok (.aload_n 0, 1) := by decide +kernel
theorem dX9_fillQueue_41 : decode cX9_fillQueue 41 = .ok (.getfield 203, 3) := by decide +kernel
theorem dX9_fillQueue_44 : decode cX9_fillQueue 44 = .ok (.istore_n 2, 1) := by decide +kernel
theorem dX9_fillQueue_45 : decode cX9_fillQueue 45 = .ok (.iload_n 2, 1) := by decide +kernel
theorem dX9_fillQueue_46 : decode cX9_fillQueue 46 = .ok (.ifCond .le 39, 3) := by decide +kernel
theorem dX9_fillQueue_49 : decode cX9_fillQueue 49 = .ok (.aload_n 0, 1) := by decide +kernel
theorem dX9_fillQueue_50 : decode cX9_fillQueue 50 = .ok (.iload_n 1, 1) := by decide +kernel
theorem dX9_fillQueue_51 : decode cX9_fillQueue 51 = .ok (.aload_n 0, 1) := by decide +kernel
theorem dX9_fillQueue_52 : decode cX9_fillQueue 52 = .ok (.getfield 9, 3) := by decide +kernel
theorem dX9_fillQueue_55 : decode cX9_fillQueue 55 = .ok (.iload_n 2, 1) := by decide +kernel
theorem dX9_fillQueue_56 : decode cX9_fillQueue 56 = .ok (.iconst 1, 1) := by decide +kernel
theorem dX9_fillQueue_57 : decode cX9_fillQueue 57 = .ok (.isub, 1) := by decide +kernel
theorem dX9_fillQueue_58 : decode cX9_fillQueue 58 = .ok (.iaload, 1) := by decide +kernel
theorem dX9_fillQueue_59 : decode cX9_fillQueue 59 = .ok (.invokevirtual 225, 3) := by decide +kernel
theorem dX9_fillQueue_62 : decode cX9_fillQueue 62 = .ok (.ifCond .eq 23, 3) := by decide +kernel
theorem dX9_fillQueue_65 : decode cX9_fillQueue 65 = .ok (.aload_n 0, 1) := by decide +kernel
theorem dX9_fillQueue_66 : decode cX9_fillQueue 66 = .ok (.getfield 9, 3) := by decide +kernel
theorem dX9_fillQueue_69 : decode cX9_fillQueue 69 = .ok (.iload_n 2, 1) := by decide +kernel
theorem dX9_fillQueue_70 : decode cX9_fillQueue 70 = .ok (.aload_n 0, 1) := by decide +kernel
theorem dX9_fillQueue_71 : decode cX9_fillQueue 71 = .ok (.getfield 9, 3) := by decide +kernel
theorem dX9_fillQueue_74 : decode cX9_fillQueue 74 = .ok (.iload_n 2, 1) := by decide +kernel
theorem dX9_fillQueue_75 : decode cX9_fillQueue 75 = .ok (.iconst 1, 1) := by decide +kernel
theorem dX9_fillQueue_76 : decode cX9_fillQueue 76 = .ok (.isub, 1) := by decide +kernel
theorem dX9_fillQueue_77 : decode cX9_fillQueue 77 = .ok (.iaload, 1) := by decide +kernel
theorem dX9_fillQueue_78 : decode cX9_fillQueue 78 = .ok (.iastore, 1) := by decide +kernel
theorem dX9_fillQueue_79 : decode cX9_fillQueue 79 = .ok (.iinc 2 (-1), 3) := by decide +kernel
theorem dX9_fillQueue_82 : decode cX9_fillQueue 82 = .ok (.goto (-37), 3) := by decide +kernel
theorem dX9_fillQueue_85 : decode cX9_fillQueue 85 = .ok (.aload_n 0, 1) := by decide +kernel
theorem dX9_fillQueue_86 : decode cX9_fillQueue 86 = .ok (.getfield 9, 3) := by decide +kernel
theorem dX9_fillQueue_89 : decode cX9_fillQueue 89 = .ok (.iload_n 2, 1) := by decide +kernel
theorem dX9_fillQueue_90 : decode cX9_fillQueue 90 = .ok (.iload_n 1, 1) := by decide +kernel
theorem dX9_fillQueue_91 : decode cX9_fillQueue 91 = .ok (.iastore, 1) := by decide +kernel
theorem dX9_fillQueue_92 : decode cX9_fillQueue 92 = .ok (.aload_n 0, 1) := by decide +kernel
theorem dX9_fillQueue_93 : decode cX9_fillQueue 93 = .ok (.dup, 1) := by decide +kernel
theorem dX9_fillQueue_94 : decode cX9_fillQueue 94 = .ok (.getfield 203, 3) := by decide +kernel
theorem dX9_fillQueue_97 : decode cX9_fillQueue 97 = .ok (.iconst 1, 1) := by decide +kernel
theorem dX9_fillQueue_98 : decode cX9_fillQueue 98 = .ok (.iadd, 1) := by decide +kernel
theorem dX9_fillQueue_99 : decode cX9_fillQueue 99 = .ok (.putfield 203, 3) := by decide +kernel
theorem dX9_fillQueue_102 : decode cX9_fillQueue 102 = .ok (.iinc 1 1, 3) := by decide +kernel
theorem dX9_fillQueue_105 : decode cX9_fillQueue 105 = .ok (.goto (-98), 3) := by decide +kernel
theorem dX9_fillQueue_108 : decode cX9_fillQueue 108 = .ok (.return_, 1) := by decide +kernel
theorem dX9_isAhead_0 : decode cX9_isAhead 0 = .ok (.aload_n 0, 1) := by decide +kernel
theorem dX9_isAhead_1 : decode cX9_isAhead 1 = .ok (.getfield 24, 3) := by decide +kernel
theorem dX9_isAhead_4 : decode cX9_isAhead 4 = .ok (.getfield 228, 3) := by decide +kernel
theorem dX9_isAhead_7 : decode cX9_isAhead 7 = .ok (.iload_n 1, 1) := by decide +kernel
theorem dX9_isAhead_8 : decode cX9_isAhead 8 = .ok (.iaload, 1) := by decide +kernel
theorem dX9_isAhead_9 : decode cX9_isAhead 9 = .ok (.aload_n 0, 1) := by decide +kernel
theorem dX9_isAhead_10 : decode cX9_isAhead 10 = .ok (.getfield 24, 3) := by decide +kernel
theorem dX9_isAhead_13 : decode cX9_isAhead 13 = .ok (.getfield 228, 3) := by decide +kernel
theorem dX9_isAhead_16 : decode cX9_isAhead 16 = .ok (.iload_n 2, 1) := by decide +kernel
theorem dX9_isAhead_17 : decode cX9_isAhead 17 = .ok (.iaload, 1) := by decide +kernel
theorem dX9_isAhead_18 : decode cX9_isAhead 18 = .ok (.if_icmp .eq 30, 3) := by decide +kernel
theorem dX9_isAhead_21 : decode cX9_isAhead 21 = .ok (.aload_n 0, 1) := by decide +kernel
theorem dX9_isAhead_22 : decode cX9_isAhead 22 = .ok (.getfield 24, 3) := by decide +kernel
theorem dX9_isAhead_25 : decode cX9_isAhead 25 = .ok (.getfield 228, 3) := by decide +kernel
theorem dX9_isAhead_28 : decode cX9_isAhead 28 = .ok (.iload_n 1, 1) := by decide +kernel
theorem dX9_isAhead_29 : decode cX9_isAhead 29 = .ok (.iaload, 1) := by decide +kernel
theorem dX9_isAhead_30 : decode cX9_isAhead 30 = .ok (.aload_n 0, 1) := by decide +kernel
theorem dX9_isAhead_31 : decode cX9_isAhead 31 = .ok (.getfield 24, 3) := by decide +kernel
theorem dX9_isAhead_34 : decode cX9_isAhead 34 = .ok (.getfield 228, 3) := by decide +kernel
theorem dX9_isAhead_37 : decode cX9_isAhead 37 = .ok (.iload_n 2, 1) := by decide +kernel
theorem dX9_isAhead_38 : decode cX9_isAhead 38 = .ok (.iaload, 1) := by decide +kernel
theorem dX9_isAhead_39 : decode cX9_isAhead 39 = .ok (.if_icmp .le 7, 3) := by decide +kernel
theorem dX9_isAhead_42 : decode cX9_isAhead 42 = .ok (.iconst 1, 1) := by decide +kernel
theorem dX9_isAhead_43 : decode cX9_isAhead 43 = .ok (.goto 4, 3) := by decide +kernel
theorem dX9_isAhead_46 : decode cX9_isAhead 46 = .ok (.iconst 0, 1) := by decide +kernel
theorem dX9_isAhead_47 : decode cX9_isAhead 47 = .ok (.ireturn, 1) := by decide +kernel
theorem dX9_isAhead_48 : decode cX9_isAhead 48 = .ok (.aload_n 0, 1) := by decide +kernel
theorem dX9_isAhead_49 : decode cX9_isAhead 49 = .ok (.getfield 31, 3) := by decide +kernel
theorem dX9_isAhead_52 : decode cX9_isAhead 52 = .ok (.getfield 231, 3) := by decide +kernel
theorem dX9_isAhead_55 : decode cX9_isAhead 55 = .ok (.getfield 235, 3) := by decide +kernel
theorem dX9_isAhead_58 : decode cX9_isAhead 58 = .ok (.iload_n 1, 1) := by decide +kernel
theorem dX9_isAhead_59 : decode cX9_isAhead 59 = .ok (.iaload, 1) := by decide +kernel
theorem dX9_isAhead_60 : decode cX9_isAhead 60 = .ok (.istore_n 3, 1) := by decide +kernel
theorem dX9_isAhead_61 : decode cX9_isAhead 61 = .ok (.aload_n 0, 1) := by decide +kernel
theorem dX9_isAhead_62 : decode cX9_isAhead 62 = .ok (.getfield 31, 3) := by decide +kernel
theorem dX9_isAhead_65 : decode cX9_isAhead 65 = .ok (.getfield 231, 3) := by decide +kernel
theorem dX9_isAhead_68 : decode cX9_isAhead 68 = .ok (.getfield 235, 3) := by decide +kernel
theorem dX9_isAhead_71 : decode cX9_isAhead 71 = .ok (.iload_n 2, 1) := by decide +kernel
theorem dX9_isAhead_72 : decode cX9_isAhead 72 = .ok (.iaload, 1) := by decide +kernel
theorem dX9_isAhead_73 : decode cX9_isAhead 73 = .ok (.istore 4, 2) := by decide +kernel
theorem dX9_isAhead_75 : decode cX9_isAhead 75 = .ok (.iload_n 3, 1) := by decide +kernel
theorem dX9_isAhead_76 : decode cX9_isAhead 76 = .ok (.iconst (-1), 1) := by decide +kernel
theorem dX9_isAhead_77 : decode cX9_isAhead 77 = .ok (.if_icmp .eq 19, 3) := by decide +kernel
theorem dX9_isAhead_80 : decode cX9_isAhead 80 = .ok (.iload 4, 2) := by decide +kernel
theorem dX9_isAhead_82 : decode cX9_isAhead 82 = .ok (.iconst (-1), 1) := by decide +kernel
theorem dX9_isAhead_83 : decode cX9_isAhead 83 = .ok (.if_icmp .eq 9, 3) := by decide +kernel
theorem dX9_isAhead_86 : decode cX9_isAhead 86 = .ok (.iload_n 3, 1) := by decide +kernel
theorem dX9_isAhead_87 : decode cX9_isAhead 87 = .ok (.iload 4, 2) := by decide +kernel
theorem dX9_isAhead_89 : decode cX9_isAhead 89 = .ok (.if_icmp .ge 7, 3) := by decide +kernel
theorem dX9_isAhead_92 : decode cX9_isAhead 92 = .ok (.iconst 1, 1) := by decide +kernel
theorem dX9_isAhead_93 : decode cX9_isAhead 93 = .ok (.goto 4, 3) := by decide +kernel
theorem dX9_isAhead_96 : decode cX9_isAhead 96 = .ok (.iconst 0, 1) := by decide +kernel
theorem dX9_isAhead_97 : decode cX9_isAhead 97 = .ok (.ireturn, 1) := by decide +kernel
theorem dX9_readMeter_0 : decode cX9_readMeter 0 = .ok (.aload_n 0, 1) := by decide +kernel
theorem dX9_readMeter_1 : decode cX9_readMeter 1 = .ok (.invokevirtual 240, 3) := by decide +kernel
theorem dX9_readMeter_4 : decode cX9_readMeter 4 = .ok (.istore_n 1, 1) := by decide +kernel
theorem dX9_readMeter_5 : decode cX9_readMeter 5 = .ok (.aload_n 0, 1) := by decide +kernel
theorem dX9_readMeter_6 : decode cX9_readMeter 6 = .ok (.aload_n 0, 1) := by decide +kernel
theorem dX9_readMeter_7 : decode cX9_readMeter 7 = .ok (.getfield 70, 3) := by decide +kernel
theorem dX9_readMeter_10 : decode cX9_readMeter 10 = .ok (.iload_n 1, 1) := by decide +kernel
theorem dX9_readMeter_11 : decode cX9_readMeter 11 = .ok (.invokestatic 122, 3) := by decide +kernel
theorem dX9_readMeter_14 : decode cX9_readMeter 14 = .ok (.putfield 70, 3) := by decide +kernel
theorem dX9_readMeter_17 : decode cX9_readMeter 17 = .ok (.aload_n 0, 1) := by decide +kernel
theorem dX9_readMeter_18 : decode cX9_readMeter 18 = .ok (.getfield 24, 3) := by decide +kernel
theorem dX9_readMeter_21 : decode cX9_readMeter 21 = .ok (.invokevirtual 243, 3) := by decide +kernel
theorem dX9_readMeter_24 : decode cX9_readMeter 24 = .ok (.aload_n 0, 1) := by decide +kernel
theorem dX9_readMeter_25 : decode cX9_readMeter 25 = .ok (.dup, 1) := by decide +kernel
theorem dX9_readMeter_26 : decode cX9_readMeter 26 = .ok (.getfield 42, 3) := by decide +kernel
theorem dX9_readMeter_29 : decode cX9_readMeter 29 = .ok (.iconst 1, 1) := by decide +kernel
theorem dX9_readMeter_30 : decode cX9_readMeter 30 = .ok (.iadd, 1) := by decide +kernel
theorem dX9_readMeter_31 : decode cX9_readMeter 31 = .ok (.putfield 42, 3) := by decide +kernel
theorem dX9_readMeter_34 : decode cX9_readMeter 34 = .ok (.iload_n 1, 1) := by decide +kernel
theorem dX9_readMeter_35 : decode cX9_readMeter 35 = .ok (.aload_n 0, 1) := by decide +kernel
theorem dX9_readMeter_36 : decode cX9_readMeter 36 = .ok (.getfield 54, 3) := by decide +kernel
theorem dX9_readMeter_39 : decode cX9_readMeter 39 = .ok (.if_icmp .le 18, 3) := by decide +kernel
theorem dX9_readMeter_42 : decode cX9_readMeter 42 = .ok (.aload_n 0, 1) := by decide +kernel
theorem dX9_readMeter_43 : decode cX9_readMeter 43 = .ok (.dup, 1) := by decide +kernel
theorem dX9_readMeter_44 : decode cX9_readMeter 44 = .ok (.getfield 67, 3) := by decide +kernel
theorem dX9_readMeter_47 : decode cX9_readMeter 47 = .ok (.iconst 1, 1) := by decide +kernel
theorem dX9_readMeter_48 : decode cX9_readMeter 48 = .ok (.iadd, 1) := by decide +kernel
theorem dX9_readMeter_49 : decode cX9_readMeter 49 = .ok (.putfield 67, 3) := by decide +kernel
theorem dX9_readMeter_52 : decode cX9_readMeter 52 = .ok (.aload_n 0, 1) := by decide +kernel
theorem dX9_readMeter_53 : decode cX9_readMeter 53 = .ok (.iconst 5, 1) := by decide +kernel
theorem dX9_readMeter_54 : decode cX9_readMeter 54 = .ok (.invokevirtual 90, 3) := by decide +kernel
theorem dX9_readMeter_57 : decode cX9_readMeter 57 = .ok (.return_, 1) := by decide +kernel
theorem dX9_drawOfAll_0 : decode cX9_drawOfAll 0 = .ok (.iconst 0, 1) := by decide +kernel
theorem dX9_drawOfAll_1 : decode cX9_drawOfAll 1 = .ok (.istore_n 1, 1) := by decide +kernel
theorem dX9_drawOfAll_2 : decode cX9_drawOfAll 2 = .ok (.iconst 0, 1) := by decide +kernel
theorem dX9_drawOfAll_3 : decode cX9_drawOfAll 3 = .ok (.istore_n 2, 1) := by decide +kernel
theorem dX9_drawOfAll_4 : decode cX9_drawOfAll 4 = .ok (.iload_n 2, 1) := by decide +kernel
theorem dX9_drawOfAll_5 : decode cX9_drawOfAll 5 = .ok (.aload_n 0, 1) := by decide +kernel
theorem dX9_drawOfAll_6 : decode cX9_drawOfAll 6 = .ok (.getfield 15, 3) := by decide +kernel
theorem dX9_drawOfAll_9 : decode cX9_drawOfAll 9 = .ok (.getfield 108, 3) := by decide +kernel
theorem dX9_drawOfAll_12 : decode cX9_drawOfAll 12 = .ok (.if_icmp .ge 20, 3) := by decide +kernel
theorem dX9_drawOfAll_15 : decode cX9_drawOfAll 15 = .ok (.iload_n 1, 1) := by decide +kernel
theorem dX9_drawOfAll_16 : decode cX9_drawOfAll 16 = .ok (.aload_n 0, 1) := by decide +kernel
theorem dX9_drawOfAll_17 : decode cX9_drawOfAll 17 = .ok (.getfield 24, 3) := by decide +kernel
theorem dX9_drawOfAll_20 : decode cX9_drawOfAll 20 = .ok (.iload_n 2, 1) := by decide +kernel
theorem dX9_drawOfAll_21 : decode cX9_drawOfAll 21 = .ok (.invokevirtual 246, 3) := by decide +kernel
theorem dX9_drawOfAll_24 : decode cX9_drawOfAll 24 = .ok (.iadd, 1) := by decide +kernel
theorem dX9_drawOfAll_25 : decode cX9_drawOfAll 25 = .ok (.istore_n 1, 1) := by decide +kernel
theorem dX9_drawOfAll_26 : decode cX9_drawOfAll 26 = .ok (.iinc 2 1, 3) := by decide +kernel
theorem dX9_drawOfAll_29 : decode cX9_drawOfAll 29 = .ok (.goto (-25), 3) := by decide +kernel
theorem dX9_drawOfAll_32 : decode cX9_drawOfAll 32 = .ok (.iload_n 1, 1) := by decide +kernel
theorem dX9_drawOfAll_33 : decode cX9_drawOfAll 33 = .ok (.ireturn, 1) := by decide +kernel
theorem dX9_entitled_0 : decode cX9_entitled 0 = .ok (.iconst 0, 1) := by decide +kernel
theorem dX9_entitled_1 : decode cX9_entitled 1 = .ok (.istore_n 1, 1) := by decide +kernel
theorem dX9_entitled_2 : decode cX9_entitled 2 = .ok (.iconst 0, 1) := by decide +kernel
theorem dX9_entitled_3 : decode cX9_entitled 3 = .ok (.istore_n 2, 1) := by decide +kernel
theorem dX9_entitled_4 : decode cX9_entitled 4 = .ok (.iload_n 2, 1) := by decide +kernel
theorem dX9_entitled_5 : decode cX9_entitled 5 = .ok (.aload_n 0, 1) := by decide +kernel
theorem dX9_entitled_6 : decode cX9_entitled 6 = .ok (.getfield 15, 3) := by decide +kernel
theorem dX9_entitled_9 : decode cX9_entitled 9 = .ok (.getfield 108, 3) := by decide +kernel
theorem dX9_entitled_12 : decode cX9_entitled 12 = .ok (.if_icmp .ge 93, 3) := by decide +kernel
theorem dX9_entitled_15 : decode cX9_entitled 15 = .ok (.iload_n 1, 1) := by decide +kernel
theorem dX9_entitled_16 : decode cX9_entitled 16 = .ok (.istore_n 3, 1) := by decide +kernel
theorem dX9_entitled_17 : decode cX9_entitled 17 = .ok (.iconst 0, 1) := by decide +kernel
theorem dX9_entitled_18 : decode cX9_entitled 18 = .ok (.istore 4, 2) := by decide +kernel
theorem dX9_entitled_20 : decode cX9_entitled 20 = .ok (.iload 4, 2) := by decide +kernel
theorem dX9_entitled_22 : decode cX9_entitled 22 = .ok (.aload_n 0, 1) := by decide +kernel
theorem dX9_entitled_23 : decode cX9_entitled 23 = .ok (.getfield 15, 3) := by decide +kernel
theorem dX9_entitled_26 : decode cX9_entitled 26 = .ok (.getfield 108, 3) := by decide +kernel
theorem dX9_entitled_29 : decode cX9_entitled 29 = .ok (.if_icmp .ge 62, 3) := by decide +kernel
theorem dX9_entitled_32 : decode cX9_entitled 32 = .ok (.aload_n 0, 1) := by decide +kernel
theorem dX9_entitled_33 : decode cX9_entitled 33 = .ok (.getfield 24, 3) := by decide +kernel
theorem dX9_entitled_36 : decode cX9_entitled 36 = .ok (.iload 4, 2) := by decide +kernel
theorem dX9_entitled_38 : decode cX9_entitled 38 = .ok (.invokevirtual 249, 3) := by decide +kernel
theorem dX9_entitled_41 : decode cX9_entitled 41 = .ok (.ifCond .eq 44, 3) := by decide +kernel
theorem dX9_entitled_44 : decode cX9_entitled 44 = .ok (.aload_n 0, 1) := by decide +kernel
theorem dX9_entitled_45 : decode cX9_entitled 45 = .ok (.getfield 15, 3) := by decide +kernel
theorem dX9_entitled_48 : decode cX9_entitled 48 = .ok (.getfield 253, 3) := by decide +kernel
theorem dX9_entitled_51 : decode cX9_entitled 51 = .ok (.iload 4, 2) := by decide +kernel
theorem dX9_entitled_53 : decode cX9_entitled 53 = .ok (.iaload, 1) := by decide +kernel
theorem dX9_entitled_54 : decode cX9_entitled 54 = .ok (.aload_n 0, 1) := by decide +kernel
theorem dX9_entitled_55 : decode cX9_entitled 55 = .ok (.getfield 54, 3) := by decide +kernel
theorem dX9_entitled_58 : decode cX9_entitled 58 = .ok (.if_icmp .gt 27, 3) := by decide +kernel
theorem dX9_entitled_61 : decode cX9_entitled 61 = .ok (.aload_n 0, 1) := by decide +kernel
theorem dX9_entitled_62 : decode cX9_entitled 62 = .ok (.getfield 15, 3) := by decide +kernel
theorem dX9_entitled_65 : decode cX9_entitled 65 = .ok (.getfield 216, 3) := by decide +kernel
theorem dX9_entitled_68 : decode cX9_entitled 68 = .ok (.iload 4, 2) := by decide +kernel
theorem dX9_entitled_70 : decode cX9_entitled 70 = .ok (.iaload, 1) := by decide +kernel
theorem dX9_entitled_71 : decode cX9_entitled 71 = .ok (.iload_n 1, 1) := by decide +kernel
theorem dX9_entitled_72 : decode cX9_entitled 72 = .ok (.iconst (-1), 1) := by decide +kernel
theorem dX9_entitled_73 : decode cX9_entitled 73 = .ok (.ixor, 1) := by decide +kernel
theorem dX9_entitled_74 : decode cX9_entitled 74 = .ok (.iand, 1) := by decide +kernel
theorem dX9_entitled_75 : decode cX9_entitled 75 = .ok (.ifCond .ne 10, 3) := by decide +kernel
theorem dX9_entitled_78 : decode cX9_entitled 78 = .ok (.iload_n 1, 1) := by decide +kernel
theorem dX9_entitled_79 : decode cX9_entitled 79 = .ok (.iconst 1, 1) := by decide +kernel
theorem dX9_entitled_80 : decode cX9_entitled 80 = .ok (.iload 4, 2) := by decide +kernel
theorem dX9_entitled_82 : decode cX9_entitled 82 = .ok (.ishl, 1) := by decide +kernel
theorem dX9_entitled_83 : decode cX9_entitled 83 = .ok (.ior, 1) := by decide +kernel
theorem dX9_entitled_84 : decode cX9_entitled 84 = .ok (.istore_n 1, 1) := by decide +kernel
theorem dX9_entitled_85 : decode cX9_entitled 85 = .ok (.iinc 4 1, 3) := by decide +kernel
theorem dX9_entitled_88 : decode cX9_entitled 88 = .ok (.goto (-68), 3) := by decide +kernel
theorem dX9_entitled_91 : decode cX9_entitled 91 = .ok (.iload_n 1, 1) := by decide +kernel
theorem dX9_entitled_92 : decode cX9_entitled 92 = .ok (.iload_n 3, 1) := by decide +kernel
theorem dX9_entitled_93 : decode cX9_entitled 93 = .ok (.if_icmp .ne 6, 3) := by decide +kernel
theorem dX9_entitled_96 : decode cX9_entitled 96 = .ok (.goto 9, 3) := by decide +kernel
theorem dX9_entitled_99 : decode cX9_entitled 99 = .ok (.iinc 2 1, 3) := by decide +kernel
theorem dX9_entitled_102 : decode cX9_entitled 102 = .ok (.goto (-98), 3) := by decide +kernel
theorem dX9_entitled_105 : decode cX9_entitled 105 = .ok (.iload_n 1, 1) := by decide +kernel
theorem dX9_entitled_106 : decode cX9_entitled 106 = .ok (.ireturn, 1) := by decide +kernel
theorem dX9_reasonAgainst_0 : decode cX9_reasonAgainst 0 = .ok (.aload_n 0, 1) := by decide +kernel
theorem dX9_reasonAgainst_1 : decode cX9_reasonAgainst 1 = .ok (.getfield 24, 3) := by decide +kernel
theorem dX9_reasonAgainst_4 : decode cX9_reasonAgainst 4 = .ok (.iload_n 1, 1) := by decide +kernel
theorem dX9_reasonAgainst_5 : decode cX9_reasonAgainst 5 = .ok (.invokevirtual 249, 3) := by decide +kernel
theorem dX9_reasonAgainst_8 : decode cX9_reasonAgainst 8 = .ok (.ifCond .ne 5, 3) := by decide +kernel
theorem dX9_reasonAgainst_11 : decode cX9_reasonAgainst 11 = .ok (.iconst 1, 1) := by decide +kernel
theorem dX9_reasonAgainst_12 : decode cX9_reasonAgainst 12 = .ok (.ireturn, 1) := by decide +kernel
theorem dX9_reasonAgainst_13 : decode cX9_reasonAgainst 13 = .ok (.aload_n 0, 1) := by decide +kernel
theorem dX9_reasonAgainst_14 : decode cX9_reasonAgainst 14 = .ok (.getfield 24, 3) := by decide +kernel
theorem dX9_reasonAgainst_17 : decode cX9_reasonAgainst 17 = .ok (.getfield 165, 3) := by decide +kernel
theorem dX9_reasonAgainst_20 : decode cX9_reasonAgainst 20 = .ok (.iload_n 1, 1) := by decide +kernel
theorem dX9_reasonAgainst_21 : decode cX9_reasonAgainst 21 = .ok (.iaload, 1) := by decide +kernel
theorem dX9_reasonAgainst_22 : decode cX9_reasonAgainst 22 = .ok (.iconst 1, 1) := by decide +kernel
theorem dX9_reasonAgainst_23 : decode cX9_reasonAgainst 23 = .ok (.if_icmp .eq 5, 3) := by decide +kernel
theorem dX9_reasonAgainst_26 : decode cX9_reasonAgainst 26 = .ok (.iconst 2, 1) := by decide +kernel
theorem dX9_reasonAgainst_27 : decode cX9_reasonAgainst 27 = .ok (.ireturn, 1) := by decide +kernel
theorem dX9_reasonAgainst_28 : decode cX9_reasonAgainst 28 = .ok (.aload_n 0, 1) := by decide +kernel
theorem dX9_reasonAgainst_29 : decode cX9_reasonAgainst 29 = .ok (.invokevirtual 94, 3) := by decide +kernel
theorem dX9_reasonAgainst_32 : decode cX9_reasonAgainst 32 = .ok (.ifCond .eq 5, 3) := by decide +kernel
theorem dX9_reasonAgainst_35 : decode cX9_reasonAgainst 35 = .ok (.iconst 3, 1) := by decide +kernel
theorem dX9_reasonAgainst_36 : decode cX9_reasonAgainst 36 = .ok (.ireturn, 1) := by decide +kernel
theorem dX9_reasonAgainst_37 : decode cX9_reasonAgainst 37 = .ok (.aload_n 0, 1) := by decide +kernel
theorem dX9_reasonAgainst_38 : decode cX9_reasonAgainst 38 = .ok (.getfield 31, 3) := by decide +kernel
theorem dX9_reasonAgainst_41 : decode cX9_reasonAgainst 41 = .ok (.getfield 222, 3) := by decide +kernel
theorem dX9_reasonAgainst_44 : decode cX9_reasonAgainst 44 = .ok (.iload_n 1, 1) := by decide +kernel
theorem dX9_reasonAgainst_45 : decode cX9_reasonAgainst 45 = .ok (.iaload, 1) := by decide +kernel
theorem dX9_reasonAgainst_46 : decode cX9_reasonAgainst 46 = .ok (.iconst 1, 1) := by decide +kernel
theorem dX9_reasonAgainst_47 : decode cX9_reasonAgainst 47 = .ok (.if_icmp .eq 5, 3) := by decide +kernel
theorem dX9_reasonAgainst_50 : decode cX9_reasonAgainst 50 = .ok (.iconst 4, 1) := by decide +kernel
theorem dX9_reasonAgainst_51 : decode cX9_reasonAgainst 51 = .ok (.ireturn, 1) := by decide +kernel
theorem dX9_reasonAgainst_52 : decode cX9_reasonAgainst 52 = .ok (.aload_n 0, 1) := by decide +kernel
theorem dX9_reasonAgainst_53 : decode cX9_reasonAgainst 53 = .ok (.getfield 15, 3) := by decide +kernel
theorem dX9_reasonAgainst_56 : decode cX9_reasonAgainst 56 = .ok (.getfield 216, 3) := by decide +kernel
theorem dX9_reasonAgainst_59 : decode cX9_reasonAgainst 59 = .ok (.iload_n 1, 1) := by decide +kernel
theorem dX9_reasonAgainst_60 : decode cX9_reasonAgainst 60 = .ok (.iaload, 1) := by decide +kernel
theorem dX9_reasonAgainst_61 : decode cX9_reasonAgainst 61 = .ok (.aload_n 0, 1) := by decide +kernel
theorem dX9_reasonAgainst_62 : decode cX9_reasonAgainst 62 = .ok (.getfield 31, 3) := by decide +kernel
theorem dX9_reasonAgainst_65 : decode cX9_reasonAgainst 65 = .ok (.iconst 3, 1) := by decide +kernel
theorem dX9_reasonAgainst_66 : decode cX9_reasonAgainst 66 = .ok (.invokevirtual 209, 3) := by decide +kernel
theorem dX9_reasonAgainst_69 : decode cX9_reasonAgainst 69 = .ok (.iconst (-1), 1) := by decide +kernel
theorem dX9_reasonAgainst_70 : decode cX9_reasonAgainst 70 = .ok (.ixor, 1) := by decide +kernel
theorem dX9_reasonAgainst_71 : decode cX9_reasonAgainst 71 = .ok (.iand, 1) := by decide +kernel
theorem dX9_reasonAgainst_72 : decode cX9_reasonAgainst 72 = .ok (.ifCond .eq 5, 3) := by decide +kernel
theorem dX9_reasonAgainst_75 : decode cX9_reasonAgainst 75 = .ok (.iconst 5, 1) := by decide +kernel
theorem dX9_reasonAgainst_76 : decode cX9_reasonAgainst 76 = .ok (.ireturn, 1) := by decide +kernel
theorem dX9_reasonAgainst_77 : decode cX9_reasonAgainst 77 = .ok (.aload_n 0, 1) := by decide +kernel
theorem dX9_reasonAgainst_78 : decode cX9_reasonAgainst 78 = .ok (.getfield 31, 3) := by decide +kernel
theorem dX9_reasonAgainst_81 : decode cX9_reasonAgainst 81 = .ok (.getfield 219, 3) := by decide +kernel
theorem dX9_reasonAgainst_84 : decode cX9_reasonAgainst 84 = .ok (.iload_n 1, 1) := by decide +kernel
theorem dX9_reasonAgainst_85 : decode cX9_reasonAgainst 85 = .ok (.iaload, 1) := by decide +kernel
theorem dX9_reasonAgainst_86 : decode cX9_reasonAgainst 86 = .ok (.aload_n 0, 1) := by decide +kernel
theorem dX9_reasonAgainst_87 : decode cX9_reasonAgainst 87 = .ok (.getfield 54, 3) := by decide +kernel
theorem dX9_reasonAgainst_90 : decode cX9_reasonAgainst 90 = .ok (.if_icmp .le 6, 3) := by decide +kernel
theorem dX9_reasonAgainst_93 : decode cX9_reasonAgainst 93 = .ok (.bipush 6, 2) := by decide +kernel
theorem dX9_reasonAgainst_95 : decode cX9_reasonAgainst 95 = .ok (.ireturn, 1) := by decide +kernel
theorem dX9_reasonAgainst_96 : decode cX9_reasonAgainst 96 = .ok (.aload_n 0, 1) := by decide +kernel
theorem dX9_reasonAgainst_97 : decode cX9_reasonAgainst 97 = .ok (.invokevirtual 200, 3) := by decide +kernel
theorem dX9_reasonAgainst_100 : decode cX9_reasonAgainst 100 = .ok (.iload_n 1, 1) := by decide +kernel
theorem dX9_reasonAgainst_101 : decode cX9_reasonAgainst 101 = .ok (.invokestatic 180, 3) := by decide +kernel
theorem dX9_reasonAgainst_104 : decode cX9_reasonAgainst 104 = .ok (.ifCond .eq 7, 3) := by decide +kernel
theorem dX9_reasonAgainst_107 : decode cX9_reasonAgainst 107 = .ok (.iconst 0, 1) := by decide +kernel
theorem dX9_reasonAgainst_108 : decode cX9_reasonAgainst 108 = .ok (.goto 5, 3) := by decide +kernel
theorem dX9_reasonAgainst_111 : decode cX9_reasonAgainst 111 = .ok (.bipush 7, 2) := by decide +kernel
theorem dX9_reasonAgainst_113 : decode cX9_reasonAgainst 113 = .ok (.ireturn, 1) := by decide +kernel
