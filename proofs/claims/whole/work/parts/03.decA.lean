theorem dX0_init_0 : decode cX0_init 0 = .ok (.aload_n 0, 1) := by decide +kernel
theorem dX0_init_1 : decode cX0_init 1 = .ok (.invokespecial 1, 3) := by decide +kernel
theorem dX0_init_4 : decode cX0_init 4 = .ok (.aload_n 0, 1) := by decide +kernel
theorem dX0_init_5 : decode cX0_init 5 = .ok (.new 7, 3) := by decide +kernel
theorem dX0_init_8 : decode cX0_init 8 = .ok (.dup, 1) := by decide +kernel
theorem dX0_init_9 : decode cX0_init 9 = .ok (.invokespecial 9, 3) := by decide +kernel
theorem dX0_init_12 : decode cX0_init 12 = .ok (.putfield 10, 3) := by decide +kernel
theorem dX0_init_15 : decode cX0_init 15 = .ok (.aload_n 0, 1) := by decide +kernel
theorem dX0_init_16 : decode cX0_init 16 = .ok (.iconst 0, 1) := by decide +kernel
theorem dX0_init_17 : decode cX0_init 17 = .ok (.putfield 16, 3) := by decide +kernel
theorem dX0_init_20 : decode cX0_init 20 = .ok (.aload_n 0, 1) := by decide +kernel
theorem dX0_init_21 : decode cX0_init 21 = .ok (.iconst 0, 1) := by decide +kernel
theorem dX0_init_22 : decode cX0_init 22 = .ok (.putfield 20, 3) := by decide +kernel
theorem dX0_init_25 : decode cX0_init 25 = .ok (.return_, 1) := by decide +kernel
theorem dX1_init_0 : decode cX1_init 0 = .ok (.aload_n 0, 1) := by decide +kernel
theorem dX1_init_1 : decode cX1_init 1 = .ok (.invokespecial 3, 3) := by decide +kernel
theorem dX1_init_4 : decode cX1_init 4 = .ok (.aload_n 0, 1) := by decide +kernel
theorem dX1_init_5 : decode cX1_init 5 = .ok (.bipush 20, 2) := by decide +kernel
theorem dX1_init_7 : decode cX1_init 7 = .ok (.anewarray 9, 3) := by decide +kernel
theorem dX1_init_10 : decode cX1_init 10 = .ok (.putfield 11, 3) := by decide +kernel
theorem dX1_init_13 : decode cX1_init 13 = .ok (.aload_n 0, 1) := by decide +kernel
theorem dX1_init_14 : decode cX1_init 14 = .ok (.iconst 0, 1) := by decide +kernel
theorem dX1_init_15 : decode cX1_init 15 = .ok (.putfield 17, 3) := by decide +kernel
theorem dX1_init_18 : decode cX1_init 18 = .ok (.aload_n 0, 1) := by decide +kernel
theorem dX1_init_19 : decode cX1_init 19 = .ok (.iconst 0, 1) := by decide +kernel
theorem dX1_init_20 : decode cX1_init 20 = .ok (.putfield 21, 3) := by decide +kernel
theorem dX1_init_23 : decode cX1_init 23 = .ok (.iconst 0, 1) := by decide +kernel
theorem dX1_init_24 : decode cX1_init 24 = .ok (.istore_n 1, 1) := by decide +kernel
theorem dX1_init_25 : decode cX1_init 25 = .ok (.iload_n 1, 1) := by decide +kernel
theorem dX1_init_26 : decode cX1_init 26 = .ok (.aload_n 0, 1) := by decide +kernel
theorem dX1_init_27 : decode cX1_init 27 = .ok (.getfield 11, 3) := by decide +kernel
theorem dX1_init_30 : decode cX1_init 30 = .ok (.arraylength, 1) := by decide +kernel
theorem dX1_init_31 : decode cX1_init 31 = .ok (.if_icmp .ge 22, 3) := by decide +kernel
theorem dX1_init_34 : decode cX1_init 34 = .ok (.aload_n 0, 1) := by decide +kernel
theorem dX1_init_35 : decode cX1_init 35 = .ok (.getfield 11, 3) := by decide +kernel
theorem dX1_init_38 : decode cX1_init 38 = .ok (.iload_n 1, 1) := by decide +kernel
theorem dX1_init_39 : decode cX1_init 39 = .ok (.new 9, 3) := by decide +kernel
theorem dX1_init_42 : decode cX1_init 42 = .ok (.dup, 1) := by decide +kernel
theorem dX1_init_43 : decode cX1_init 43 = .ok (.invokespecial 24, 3) := by decide +kernel
theorem dX1_init_46 : decode cX1_init 46 = .ok (.aastore, 1) := by decide +kernel
theorem dX1_init_47 : decode cX1_init 47 = .ok (.iinc 1 1, 3) := by decide +kernel
theorem dX1_init_50 : decode cX1_init 50 = .ok (.goto (-25), 3) := by decide +kernel
theorem dX1_init_53 : decode cX1_init 53 = .ok (.return_, 1) := by decide +kernel
theorem dX1_acts_0 : decode cX1_acts 0 = .ok (.aload_n 0, 1) := by decide +kernel
theorem dX1_acts_1 : decode cX1_acts 1 = .ok (.getfield 21, 3) := by decide +kernel
theorem dX1_acts_4 : decode cX1_acts 4 = .ok (.ireturn, 1) := by decide +kernel
theorem dX1_clear_0 : decode cX1_clear 0 = .ok (.aload_n 0, 1) := by decide +kernel
theorem dX1_clear_1 : decode cX1_clear 1 = .ok (.iconst 0, 1) := by decide +kernel
theorem dX1_clear_2 : decode cX1_clear 2 = .ok (.putfield 21, 3) := by decide +kernel
theorem dX1_clear_5 : decode cX1_clear 5 = .ok (.return_, 1) := by decide +kernel
theorem dX1_put_0 : decode cX1_put 0 = .ok (.aload_n 0, 1) := by decide +kernel
theorem dX1_put_1 : decode cX1_put 1 = .ok (.aload_n 0, 1) := by decide +kernel
theorem dX1_put_2 : decode cX1_put 2 = .ok (.getfield 17, 3) := by decide +kernel
theorem dX1_put_5 : decode cX1_put 5 = .ok (.invokevirtual 25, 3) := by decide +kernel
theorem dX1_put_8 : decode cX1_put 8 = .ok (.astore_n 2, 1) := by decide +kernel
theorem dX1_put_9 : decode cX1_put 9 = .ok (.aload_n 2, 1) := by decide +kernel
theorem dX1_put_10 : decode cX1_put 10 = .ok (.ifnull 48, 3) := by decide +kernel
theorem dX1_put_13 : decode cX1_put 13 = .ok (.aload_n 2, 1) := by decide +kernel
theorem dX1_put_14 : decode cX1_put 14 = .ok (.aload_n 1, 1) := by decide +kernel
theorem dX1_put_15 : decode cX1_put 15 = .ok (.invokevirtual 29, 3) := by decide +kernel
theorem dX1_put_18 : decode cX1_put 18 = .ok (.aload_n 0, 1) := by decide +kernel
theorem dX1_put_19 : decode cX1_put 19 = .ok (.aload_n 0, 1) := by decide +kernel
theorem dX1_put_20 : decode cX1_put 20 = .ok (.getfield 17, 3) := by decide +kernel
theorem dX1_put_23 : decode cX1_put 23 = .ok (.iconst 1, 1) := by decide +kernel
theorem dX1_put_24 : decode cX1_put 24 = .ok (.iadd, 1) := by decide +kernel
theorem dX1_put_25 : decode cX1_put 25 = .ok (.bipush 20, 2) := by decide +kernel
theorem dX1_put_27 : decode cX1_put 27 = .ok (.if_icmp .ge 12, 3) := by decide +kernel
theorem dX1_put_30 : decode cX1_put 30 = .ok (.aload_n 0, 1) := by decide +kernel
theorem dX1_put_31 : decode cX1_put 31 = .ok (.getfield 17, 3) := by decide +kernel
theorem dX1_put_34 : decode cX1_put 34 = .ok (.iconst 1, 1) := by decide +kernel
theorem dX1_put_35 : decode cX1_put 35 = .ok (.iadd, 1) := by decide +kernel
theorem dX1_put_36 : decode cX1_put 36 = .ok (.goto 4, 3) := by decide +kernel
theorem dX1_put_39 : decode cX1_put 39 = .ok (.iconst 0, 1) := by decide +kernel
theorem dX1_put_40 : decode cX1_put 40 = .ok (.putfield 17, 3) := by decide +kernel
theorem dX1_put_43 : decode cX1_put 43 = .ok (.aload_n 0, 1) := by decide +kernel
theorem dX1_put_44 : decode cX1_put 44 = .ok (.bipush 20, 2) := by decide +kernel
theorem dX1_put_46 : decode cX1_put 46 = .ok (.aload_n 0, 1) := by decide +kernel
theorem dX1_put_47 : decode cX1_put 47 = .ok (.getfield 21, 3) := by decide +kernel
theorem dX1_put_50 : decode cX1_put 50 = .ok (.iconst 1, 1) := by decide +kernel
theorem dX1_put_51 : decode cX1_put 51 = .ok (.iadd, 1) := by decide +kernel
theorem dX1_put_52 : decode cX1_put 52 = .ok (.invokestatic 33, 3) := by decide +kernel
theorem dX1_put_55 : decode cX1_put 55 = .ok (.putfield 21, 3) := by decide +kernel
theorem dX1_put_58 : decode cX1_put 58 = .ok (.return_, 1) := by decide +kernel
theorem dX1_takeBack_0 : decode cX1_takeBack 0 = .ok (.aload_n 0, 1) := by decide +kernel
theorem dX1_takeBack_1 : decode cX1_takeBack 1 = .ok (.getfield 17, 3) := by decide +kernel
theorem dX1_takeBack_4 : decode cX1_takeBack 4 = .ok (.ifCond .le 12, 3) := by decide +kernel
theorem dX1_takeBack_7 : decode cX1_takeBack 7 = .ok (.aload_n 0, 1) := by decide +kernel
theorem dX1_takeBack_8 : decode cX1_takeBack 8 = .ok (.getfield 17, 3) := by decide +kernel
theorem dX1_takeBack_11 : decode cX1_takeBack 11 = .ok (.iconst 1, 1) := by decide +kernel
theorem dX1_takeBack_12 : decode cX1_takeBack 12 = .ok (.isub, 1) := by decide +kernel
theorem dX1_takeBack_13 : decode cX1_takeBack 13 = .ok (.goto 5, 3) := by decide +kernel
theorem dX1_takeBack_16 : decode cX1_takeBack 16 = .ok (.bipush 19, 2) := by decide +kernel
theorem dX1_takeBack_18 : decode cX1_takeBack 18 = .ok (.istore_n 2, 1) := by decide +kernel
theorem dX1_takeBack_19 : decode cX1_takeBack 19 = .ok (.aload_n 0, 1) := by decide +kernel
theorem dX1_takeBack_20 : decode cX1_takeBack 20 = .ok (.iload_n 2, 1) := by decide +kernel
theorem dX1_takeBack_21 : decode cX1_takeBack 21 = .ok (.invokevirtual 25, 3) := by decide +kernel
theorem dX1_takeBack_24 : decode cX1_takeBack 24 = .ok (.astore_n 3, 1) := by decide +kernel
theorem dX1_takeBack_25 : decode cX1_takeBack 25 = .ok (.aload_n 3, 1) := by decide +kernel
theorem dX1_takeBack_26 : decode cX1_takeBack 26 = .ok (.ifnull 30, 3) := by decide +kernel
theorem dX1_takeBack_29 : decode cX1_takeBack 29 = .ok (.aload_n 0, 1) := by decide +kernel
theorem dX1_takeBack_30 : decode cX1_takeBack 30 = .ok (.getfield 21, 3) := by decide +kernel
theorem dX1_takeBack_33 : decode cX1_takeBack 33 = .ok (.ifCond .le 23, 3) := by decide +kernel
theorem dX1_takeBack_36 : decode cX1_takeBack 36 = .ok (.aload_n 1, 1) := by decide +kernel
theorem dX1_takeBack_37 : decode cX1_takeBack 37 = .ok (.aload_n 3, 1) := by decide +kernel
theorem dX1_takeBack_38 : decode cX1_takeBack 38 = .ok (.invokevirtual 29, 3) := by decide +kernel
theorem dX1_takeBack_41 : decode cX1_takeBack 41 = .ok (.aload_n 0, 1) := by decide +kernel
theorem dX1_takeBack_42 : decode cX1_takeBack 42 = .ok (.iload_n 2, 1) := by decide +kernel
theorem dX1_takeBack_43 : decode cX1_takeBack 43 = .ok (.putfield 17, 3) := by decide +kernel
theorem dX1_takeBack_46 : decode cX1_takeBack 46 = .ok (.aload_n 0, 1) := by decide +kernel
theorem dX1_takeBack_47 : decode cX1_takeBack 47 = .ok (.dup, 1) := by decide +kernel
theorem dX1_takeBack_48 : decode cX1_takeBack 48 = .ok (.getfield 21, 3) := by decide +kernel
theorem dX1_takeBack_51 : decode cX1_takeBack 51 = .ok (.iconst 1, 1) := by decide +kernel
theorem dX1_takeBack_52 : decode cX1_takeBack 52 = .ok (.isub, 1) := by decide +kernel
theorem dX1_takeBack_53 : decode cX1_takeBack 53 = .ok (.putfield 21, 3) := by decide +kernel
theorem dX1_takeBack_56 : decode cX1_takeBack 56 = .ok (.return_, 1) := by decide +kernel
theorem dX1_slotOf_0 : decode cX1_slotOf 0 = .ok (.iload_n 1, 1) := by decide +kernel
theorem dX1_slotOf_1 : decode cX1_slotOf 1 = .ok (.ifCond .lt 21, 3) := by decide +kernel
theorem dX1_slotOf_4 : decode cX1_slotOf 4 = .ok (.iload_n 1, 1) := by decide +kernel
theorem dX1_slotOf_5 : decode cX1_slotOf 5 = .ok (.aload_n 0, 1) := by decide +kernel
theorem dX1_slotOf_6 : decode cX1_slotOf 6 = .ok (.getfield 11, 3) := by decide +kernel
theorem dX1_slotOf_9 : decode cX1_slotOf 9 = .ok (.arraylength, 1) := by decide +kernel
theorem dX1_slotOf_10 : decode cX1_slotOf 10 = .ok (.if_icmp .ge 12, 3) := by decide +kernel
theorem dX1_slotOf_13 : decode cX1_slotOf 13 = .ok (.aload_n 0, 1) := by decide +kernel
theorem dX1_slotOf_14 : decode cX1_slotOf 14 = .ok (.getfield 11, 3) := by decide +kernel
theorem dX1_slotOf_17 : decode cX1_slotOf 17 = .ok (.iload_n 1, 1) := by decide +kernel
theorem dX1_slotOf_18 : decode cX1_slotOf 18 = .ok (.aaload, 1) := by decide +kernel
theorem dX1_slotOf_19 : decode cX1_slotOf 19 = .ok (.goto 4, 3) := by decide +kernel
theorem dX1_slotOf_22 : decode cX1_slotOf 22 = .ok (.aconst_null, 1) := by decide +kernel
theorem dX1_slotOf_23 : decode cX1_slotOf 23 = .ok (.areturn, 1) := by decide +kernel
theorem dX2_init_0 : decode cX2_init 0 = .ok (.aload_n 0, 1) := by decide +kernel
theorem dX2_init_1 : decode cX2_init 1 = .ok (.invokespecial 3, 3) := by decide +kernel
theorem dX2_init_4 : decode cX2_init 4 = .ok (.aload_n 0, 1) := by decide +kernel
theorem dX2_init_5 : decode cX2_init 5 = .ok (.new 9, 3) := by decide +kernel
theorem dX2_init_8 : decode cX2_init 8 = .ok (.dup, 1) := by decide +kernel
theorem dX2_init_9 : decode cX2_init 9 = .ok (.iconst 1, 1) := by decide +kernel
theorem dX2_init_10 : decode cX2_init 10 = .ok (.bipush 7, 2) := by decide +kernel
theorem dX2_init_12 : decode cX2_init 12 = .ok (.invokespecial 11, 3) := by decide +kernel
theorem dX2_init_15 : decode cX2_init 15 = .ok (.putfield 14, 3) := by decide +kernel
theorem dX2_init_18 : decode cX2_init 18 = .ok (.aload_n 0, 1) := by decide +kernel
theorem dX2_init_19 : decode cX2_init 19 = .ok (.new 9, 3) := by decide +kernel
theorem dX2_init_22 : decode cX2_init 22 = .ok (.dup, 1) := by decide +kernel
theorem dX2_init_23 : decode cX2_init 23 = .ok (.iconst 1, 1) := by decide +kernel
theorem dX2_init_24 : decode cX2_init 24 = .ok (.bipush 7, 2) := by decide +kernel
theorem dX2_init_26 : decode cX2_init 26 = .ok (.invokespecial 11, 3) := by decide +kernel
theorem dX2_init_29 : decode cX2_init 29 = .ok (.putfield 20, 3) := by decide +kernel
theorem dX2_init_32 : decode cX2_init 32 = .ok (.aload_n 0, 1) := by decide +kernel
theorem dX2_init_33 : decode cX2_init 33 = .ok (.iconst 0, 1) := by decide +kernel
theorem dX2_init_34 : decode cX2_init 34 = .ok (.putfield 23, 3) := by decide +kernel
theorem dX2_init_37 : decode cX2_init 37 = .ok (.aload_n 0, 1) := by decide +kernel
theorem dX2_init_38 : decode cX2_init 38 = .ok (.iconst 0, 1) := by decide +kernel
theorem dX2_init_39 : decode cX2_init 39 = .ok (.putfield 27, 3) := by decide +kernel
theorem dX2_init_42 : decode cX2_init 42 = .ok (.aload_n 0, 1) := by decide +kernel
theorem dX2_init_43 : decode cX2_init 43 = .ok (.ldc2_w 30, 3) := by decide +kernel
theorem dX2_init_46 : decode cX2_init 46 = .ok (.putfield 32, 3) := by decide +kernel
theorem dX2_init_49 : decode cX2_init 49 = .ok (.aload_n 0, 1) := by decide +kernel
theorem dX2_init_50 : decode cX2_init 50 = .ok (.iconst 0, 1) := by decide +kernel
theorem dX2_init_51 : decode cX2_init 51 = .ok (.putfield 36, 3) := by decide +kernel
theorem dX2_init_54 : decode cX2_init 54 = .ok (.aload_n 0, 1) := by decide +kernel
theorem dX2_init_55 : decode cX2_init 55 = .ok (.aload_n 1, 1) := by decide +kernel
theorem dX2_init_56 : decode cX2_init 56 = .ok (.putfield 40, 3) := by decide +kernel
theorem dX2_init_59 : decode cX2_init 59 = .ok (.return_, 1) := by decide +kernel
theorem dX2_forget_0 : decode cX2_forget 0 = .ok (.aload_n 0, 1) := by decide +kernel
theorem dX2_forget_1 : decode cX2_forget 1 = .ok (.iconst 0, 1) := by decide +kernel
theorem dX2_forget_2 : decode cX2_forget 2 = .ok (.putfield 36, 3) := by decide +kernel
theorem dX2_forget_5 : decode cX2_forget 5 = .ok (.return_, 1) := by decide +kernel
theorem dX2_isDone_0 : decode cX2_isDone 0 = .ok (.aload_n 0, 1) := by decide +kernel
theorem dX2_isDone_1 : decode cX2_isDone 1 = .ok (.getfield 36, 3) := by decide +kernel
theorem dX2_isDone_4 : decode cX2_isDone 4 = .ok (.ireturn, 1) := by decide +kernel
theorem dX2_howMuch_0 : decode cX2_howMuch 0 = .ok (.aload_n 0, 1) := by decide +kernel
theorem dX2_howMuch_1 : decode cX2_howMuch 1 = .ok (.getfield 32, 3) := by decide +kernel
theorem dX2_howMuch_4 : decode cX2_howMuch 4 = .ok (.l2i, 1) := by decide +kernel
theorem dX2_howMuch_5 : decode cX2_howMuch 5 = .ok (.ireturn, 1) := by decide +kernel
theorem dX2_pointsIn_0 : decode cX2_pointsIn 0 = .ok (.aload_n 0, 1) := by decide +kernel
theorem dX2_pointsIn_1 : decode cX2_pointsIn 1 = .ok (.getfield 20, 3) := by decide +kernel
theorem dX2_pointsIn_4 : decode cX2_pointsIn 4 = .ok (.iload_n 1, 1) := by decide +kernel
theorem dX2_pointsIn_5 : decode cX2_pointsIn 5 = .ok (.invokevirtual 44, 3) := by decide +kernel
theorem dX2_pointsIn_8 : decode cX2_pointsIn 8 = .ok (.ifCond .eq 15, 3) := by decide +kernel
theorem dX2_pointsIn_11 : decode cX2_pointsIn 11 = .ok (.aload_n 0, 1) := by decide +kernel
theorem dX2_pointsIn_12 : decode cX2_pointsIn 12 = .ok (.getfield 20, 3) := by decide +kernel
theorem dX2_pointsIn_15 : decode cX2_pointsIn 15 = .ok (.iload_n 1, 1) := by decide +kernel
theorem dX2_pointsIn_16 : decode cX2_pointsIn 16 = .ok (.iconst 0, 1) := by decide +kernel
theorem dX2_pointsIn_17 : decode cX2_pointsIn 17 = .ok (.invokevirtual 48, 3) := by decide +kernel
theorem dX2_pointsIn_20 : decode cX2_pointsIn 20 = .ok (.goto 4, 3) := by decide +kernel
theorem dX2_pointsIn_23 : decode cX2_pointsIn 23 = .ok (.iconst (-1), 1) := by decide +kernel
theorem dX2_pointsIn_24 : decode cX2_pointsIn 24 = .ok (.ireturn, 1) := by decide +kernel
theorem dX2_findBest_0 : decode cX2_findBest 0 = .ok (.aload_n 0, 1) := by decide +kernel
theorem dX2_findBest_1 : decode cX2_findBest 1 = .ok (.aload_n 1, 1) := by decide +kernel
theorem dX2_findBest_2 : decode cX2_findBest 2 = .ok (.getfield 52, 3) := by decide +kernel
theorem dX2_findBest_5 : decode cX2_findBest 5 = .ok (.putfield 23, 3) := by decide +kernel
theorem dX2_findBest_8 : decode cX2_findBest 8 = .ok (.aload_n 0, 1) := by decide +kernel
theorem dX2_findBest_9 : decode cX2_findBest 9 = .ok (.iload_n 2, 1) := by decide +kernel
theorem dX2_findBest_10 : decode cX2_findBest 10 = .ok (.putfield 27, 3) := by decide +kernel
theorem dX2_findBest_13 : decode cX2_findBest 13 = .ok (.aload_n 0, 1) := by decide +kernel
theorem dX2_findBest_14 : decode cX2_findBest 14 = .ok (.ldc2_w 30, 3) := by decide +kernel
theorem dX2_findBest_17 : decode cX2_findBest 17 = .ok (.putfield 32, 3) := by decide +kernel
theorem dX2_findBest_20 : decode cX2_findBest 20 = .ok (.aload_n 0, 1) := by decide +kernel
theorem dX2_findBest_21 : decode cX2_findBest 21 = .ok (.getfield 14, 3) := by decide +kernel
theorem dX2_findBest_24 : decode cX2_findBest 24 = .ok (.invokevirtual 57, 3) := by decide +kernel
theorem dX2_findBest_27 : decode cX2_findBest 27 = .ok (.aload_n 0, 1) := by decide +kernel
theorem dX2_findBest_28 : decode cX2_findBest 28 = .ok (.getfield 23, 3) := by decide +kernel
theorem dX2_findBest_31 : decode cX2_findBest 31 = .ok (.istore_n 3, 1) := by decide +kernel
theorem dX2_findBest_32 : decode cX2_findBest 32 = .ok (.iload_n 3, 1) := by decide +kernel
theorem dX2_findBest_33 : decode cX2_findBest 33 = .ok (.aload_n 0, 1) := by decide +kernel
theorem dX2_findBest_34 : decode cX2_findBest 34 = .ok (.getfield 40, 3) := by decide +kernel
theorem dX2_findBest_37 : decode cX2_findBest 37 = .ok (.getfield 60, 3) := by decide +kernel
theorem dX2_findBest_40 : decode cX2_findBest 40 = .ok (.invokevirtual 65, 3) := by decide +kernel
theorem dX2_findBest_43 : decode cX2_findBest 43 = .ok (.if_icmp .ge 17, 3) := by decide +kernel
theorem dX2_findBest_46 : decode cX2_findBest 46 = .ok (.aload_n 0, 1) := by decide +kernel
theorem dX2_findBest_47 : decode cX2_findBest 47 = .ok (.getfield 14, 3) := by decide +kernel
theorem dX2_findBest_50 : decode cX2_findBest 50 = .ok (.iconst 0, 1) := by decide +kernel
theorem dX2_findBest_51 : decode cX2_findBest 51 = .ok (.invokevirtual 69, 3) := by decide +kernel
theorem dX2_findBest_54 : decode cX2_findBest 54 = .ok (.iinc 3 1, 3) := by decide +kernel
theorem dX2_findBest_57 : decode cX2_findBest 57 = .ok (.goto (-25), 3) := by decide +kernel
theorem dX2_findBest_60 : decode cX2_findBest 60 = .ok (.aload_n 0, 1) := by decide +kernel
theorem dX2_findBest_61 : decode cX2_findBest 61 = .ok (.iconst 0, 1) := by decide +kernel
theorem dX2_findBest_62 : decode cX2_findBest 62 = .ok (.aload_n 1, 1) := by decide +kernel
theorem dX2_findBest_63 : decode cX2_findBest 63 = .ok (.getfield 73, 3) := by decide +kernel
theorem dX2_findBest_66 : decode cX2_findBest 66 = .ok (.aload_n 1, 1) := by decide +kernel
theorem dX2_findBest_67 : decode cX2_findBest 67 = .ok (.getfield 76, 3) := by decide +kernel
theorem dX2_findBest_70 : decode cX2_findBest 70 = .ok (.ldc 79, 2) := by decide +kernel
theorem dX2_findBest_72 : decode cX2_findBest 72 = .ok (.invokevirtual 80, 3) := by decide +kernel
theorem dX2_findBest_75 : decode cX2_findBest 75 = .ok (.aload_n 0, 1) := by decide +kernel
theorem dX2_findBest_76 : decode cX2_findBest 76 = .ok (.iconst 1, 1) := by decide +kernel
theorem dX2_findBest_77 : decode cX2_findBest 77 = .ok (.putfield 36, 3) := by decide +kernel
theorem dX2_findBest_80 : decode cX2_findBest 80 = .ok (.return_, 1) := by decide +kernel
theorem dX2_tryFrom_0 : decode cX2_tryFrom 0 = .ok (.iload 4, 2) := by decide +kernel
theorem dX2_tryFrom_2 : decode cX2_tryFrom 2 = .ok (.i2l, 1) := by decide +kernel
theorem dX2_tryFrom_3 : decode cX2_tryFrom 3 = .ok (.iconst 0, 1) := by decide +kernel
theorem dX2_tryFrom_4 : decode cX2_tryFrom 4 = .ok (.aload_n 0, 1) := by decide +kernel
theorem dX2_tryFrom_5 : decode cX2_tryFrom 5 = .ok (.getfield 27, 3) := by decide +kernel
theorem dX2_tryFrom_8 : decode cX2_tryFrom 8 = .ok (.iload_n 3, 1) := by decide +kernel
theorem dX2_tryFrom_9 : decode cX2_tryFrom 9 = .ok (.iadd, 1) := by decide +kernel
theorem dX2_tryFrom_10 : decode cX2_tryFrom 10 = .ok (.invokestatic 84, 3) := by decide +kernel
theorem dX2_tryFrom_13 : decode cX2_tryFrom 13 = .ok (.i2l, 1) := by decide +kernel
theorem dX2_tryFrom_14 : decode cX2_tryFrom 14 = .ok (.lmul, 1) := by decide +kernel
theorem dX2_tryFrom_15 : decode cX2_tryFrom 15 = .ok (.ldc2_w 89, 3) := by decide +kernel
theorem dX2_tryFrom_18 : decode cX2_tryFrom 18 = .ok (.ldiv, 1) := by decide +kernel
theorem dX2_tryFrom_19 : decode cX2_tryFrom 19 = .ok (.lstore 5, 2) := by decide +kernel
theorem dX2_tryFrom_21 : decode cX2_tryFrom 21 = .ok (.lload 5, 2) := by decide +kernel
theorem dX2_tryFrom_23 : decode cX2_tryFrom 23 = .ok (.aload_n 0, 1) := by decide +kernel
theorem dX2_tryFrom_24 : decode cX2_tryFrom 24 = .ok (.getfield 32, 3) := by decide +kernel
theorem dX2_tryFrom_27 : decode cX2_tryFrom 27 = .ok (.lcmp, 1) := by decide +kernel
theorem dX2_tryFrom_28 : decode cX2_tryFrom 28 = .ok (.ifCond .gt 4, 3) := by decide +kernel
theorem dX2_tryFrom_31 : decode cX2_tryFrom 31 = .ok (.return_, 1) := by decide +kernel
theorem dX2_tryFrom_32 : decode cX2_tryFrom 32 = .ok (.iload_n 1, 1) := by decide +kernel
theorem dX2_tryFrom_33 : decode cX2_tryFrom 33 = .ok (.aload_n 0, 1) := by decide +kernel
theorem dX2_tryFrom_34 : decode cX2_tryFrom 34 = .ok (.getfield 14, 3) := by decide +kernel
theorem dX2_tryFrom_37 : decode cX2_tryFrom 37 = .ok (.invokevirtual 65, 3) := by decide +kernel
theorem dX2_tryFrom_40 : decode cX2_tryFrom 40 = .ok (.if_icmp .lt 21, 3) := by decide +kernel
theorem dX2_tryFrom_43 : decode cX2_tryFrom 43 = .ok (.aload_n 0, 1) := by decide +kernel
theorem dX2_tryFrom_44 : decode cX2_tryFrom 44 = .ok (.lload 5, 2) := by decide +kernel
theorem dX2_tryFrom_46 : decode cX2_tryFrom 46 = .ok (.putfield 32, 3) := by decide +kernel
theorem dX2_tryFrom_49 : decode cX2_tryFrom 49 = .ok (.aload_n 0, 1) := by decide +kernel
theorem dX2_tryFrom_50 : decode cX2_tryFrom 50 = .ok (.getfield 20, 3) := by decide +kernel
theorem dX2_tryFrom_53 : decode cX2_tryFrom 53 = .ok (.aload_n 0, 1) := by decide +kernel
theorem dX2_tryFrom_54 : decode cX2_tryFrom 54 = .ok (.getfield 14, 3) := by decide +kernel
theorem dX2_tryFrom_57 : decode cX2_tryFrom 57 = .ok (.invokevirtual 91, 3) := by decide +kernel
theorem dX2_tryFrom_60 : decode cX2_tryFrom 60 = .ok (.return_, 1) := by decide +kernel
theorem dX2_tryFrom_61 : decode cX2_tryFrom 61 = .ok (.iconst 0, 1) := by decide +kernel
theorem dX2_tryFrom_62 : decode cX2_tryFrom 62 = .ok (.istore 7, 2) := by decide +kernel
theorem dX2_tryFrom_64 : decode cX2_tryFrom 64 = .ok (.iload 7, 2) := by decide +kernel
theorem dX2_tryFrom_66 : decode cX2_tryFrom 66 = .ok (.iconst 2, 1) := by decide +kernel
theorem dX2_tryFrom_67 : decode cX2_tryFrom 67 = .ok (.if_icmp .gt 23, 3) := by decide +kernel
theorem dX2_tryFrom_70 : decode cX2_tryFrom 70 = .ok (.aload_n 0, 1) := by decide +kernel
theorem dX2_tryFrom_71 : decode cX2_tryFrom 71 = .ok (.iload_n 1, 1) := by decide +kernel
theorem dX2_tryFrom_72 : decode cX2_tryFrom 72 = .ok (.iload 7, 2) := by decide +kernel
theorem dX2_tryFrom_74 : decode cX2_tryFrom 74 = .ok (.iload_n 2, 1) := by decide +kernel
theorem dX2_tryFrom_75 : decode cX2_tryFrom 75 = .ok (.iload 7, 2) := by decide +kernel
theorem dX2_tryFrom_77 : decode cX2_tryFrom 77 = .ok (.iadd, 1) := by decide +kernel
theorem dX2_tryFrom_78 : decode cX2_tryFrom 78 = .ok (.iload_n 3, 1) := by decide +kernel
theorem dX2_tryFrom_79 : decode cX2_tryFrom 79 = .ok (.iload 4, 2) := by decide +kernel
theorem dX2_tryFrom_81 : decode cX2_tryFrom 81 = .ok (.invokevirtual 95, 3) := by decide +kernel
theorem dX2_tryFrom_84 : decode cX2_tryFrom 84 = .ok (.iinc 7 1, 3) := by decide +kernel
theorem dX2_tryFrom_87 : decode cX2_tryFrom 87 = .ok (.goto (-23), 3) := by decide +kernel
theorem dX2_tryFrom_90 : decode cX2_tryFrom 90 = .ok (.return_, 1) := by decide +kernel
theorem dX2_tryPoints_0 : decode cX2_tryPoints 0 = .ok (.aload_n 0, 1) := by decide +kernel
theorem dX2_tryPoints_1 : decode cX2_tryPoints 1 = .ok (.getfield 23, 3) := by decide +kernel
theorem dX2_tryPoints_4 : decode cX2_tryPoints 4 = .ok (.iload_n 1, 1) := by decide +kernel
theorem dX2_tryPoints_5 : decode cX2_tryPoints 5 = .ok (.iadd, 1) := by decide +kernel
theorem dX2_tryPoints_6 : decode cX2_tryPoints 6 = .ok (.istore 6, 2) := by decide +kernel
theorem dX2_tryPoints_8 : decode cX2_tryPoints 8 = .ok (.iload 4, 2) := by decide +kernel
theorem dX2_tryPoints_10 : decode cX2_tryPoints 10 = .ok (.iload_n 2, 1) := by decide +kernel
theorem dX2_tryPoints_11 : decode cX2_tryPoints 11 = .ok (.aload_n 0, 1) := by decide +kernel
theorem dX2_tryPoints_12 : decode cX2_tryPoints 12 = .ok (.getfield 40, 3) := by decide +kernel
theorem dX2_tryPoints_15 : decode cX2_tryPoints 15 = .ok (.getfield 60, 3) := by decide +kernel
theorem dX2_tryPoints_18 : decode cX2_tryPoints 18 = .ok (.iload 6, 2) := by decide +kernel
theorem dX2_tryPoints_20 : decode cX2_tryPoints 20 = .ok (.iconst 2, 1) := by decide +kernel
theorem dX2_tryPoints_21 : decode cX2_tryPoints 21 = .ok (.invokevirtual 48, 3) := by decide +kernel
theorem dX2_tryPoints_24 : decode cX2_tryPoints 24 = .ok (.imul, 1) := by decide +kernel
theorem dX2_tryPoints_25 : decode cX2_tryPoints 25 = .ok (.isub, 1) := by decide +kernel
theorem dX2_tryPoints_26 : decode cX2_tryPoints 26 = .ok (.istore 7, 2) := by decide +kernel
theorem dX2_tryPoints_28 : decode cX2_tryPoints 28 = .ok (.iload_n 3, 1) := by decide +kernel
theorem dX2_tryPoints_29 : decode cX2_tryPoints 29 = .ok (.bipush 9, 2) := by decide +kernel
theorem dX2_tryPoints_31 : decode cX2_tryPoints 31 = .ok (.if_icmp .gt 8, 3) := by decide +kernel
theorem dX2_tryPoints_34 : decode cX2_tryPoints 34 = .ok (.iload 7, 2) := by decide +kernel
theorem dX2_tryPoints_36 : decode cX2_tryPoints 36 = .ok (.ifCond .ge 4, 3) := by decide +kernel
theorem dX2_tryPoints_39 : decode cX2_tryPoints 39 = .ok (.return_, 1) := by decide +kernel
theorem dX2_tryPoints_40 : decode cX2_tryPoints 40 = .ok (.aload_n 0, 1) := by decide +kernel
theorem dX2_tryPoints_41 : decode cX2_tryPoints 41 = .ok (.getfield 14, 3) := by decide +kernel
theorem dX2_tryPoints_44 : decode cX2_tryPoints 44 = .ok (.iload_n 1, 1) := by decide +kernel
theorem dX2_tryPoints_45 : decode cX2_tryPoints 45 = .ok (.iconst 0, 1) := by decide +kernel
theorem dX2_tryPoints_46 : decode cX2_tryPoints 46 = .ok (.iload_n 2, 1) := by decide +kernel
theorem dX2_tryPoints_47 : decode cX2_tryPoints 47 = .ok (.invokevirtual 99, 3) := by decide +kernel
theorem dX2_tryPoints_50 : decode cX2_tryPoints 50 = .ok (.aload_n 0, 1) := by decide +kernel
theorem dX2_tryPoints_51 : decode cX2_tryPoints 51 = .ok (.iload_n 1, 1) := by decide +kernel
theorem dX2_tryPoints_52 : decode cX2_tryPoints 52 = .ok (.iconst 1, 1) := by decide +kernel
theorem dX2_tryPoints_53 : decode cX2_tryPoints 53 = .ok (.iadd, 1) := by decide +kernel
theorem dX2_tryPoints_54 : decode cX2_tryPoints 54 = .ok (.iconst 0, 1) := by decide +kernel
theorem dX2_tryPoints_55 : decode cX2_tryPoints 55 = .ok (.iload_n 3, 1) := by decide +kernel
theorem dX2_tryPoints_56 : decode cX2_tryPoints 56 = .ok (.iconst 1, 1) := by decide +kernel
theorem dX2_tryPoints_57 : decode cX2_tryPoints 57 = .ok (.isub, 1) := by decide +kernel
theorem dX2_tryPoints_58 : decode cX2_tryPoints 58 = .ok (.invokestatic 84, 3) := by decide +kernel
theorem dX2_tryPoints_61 : decode cX2_tryPoints 61 = .ok (.iload 7, 2) := by decide +kernel
theorem dX2_tryPoints_63 : decode cX2_tryPoints 63 = .ok (.aload_n 0, 1) := by decide +kernel
theorem dX2_tryPoints_64 : decode cX2_tryPoints 64 = .ok (.getfield 40, 3) := by decide +kernel
theorem dX2_tryPoints_67 : decode cX2_tryPoints 67 = .ok (.iload 6, 2) := by decide +kernel
theorem dX2_tryPoints_69 : decode cX2_tryPoints 69 = .ok (.iload_n 3, 1) := by decide +kernel
theorem dX2_tryPoints_70 : decode cX2_tryPoints 70 = .ok (.iload 5, 2) := by decide +kernel
theorem dX2_tryPoints_72 : decode cX2_tryPoints 72 = .ok (.invokevirtual 103, 3) := by decide +kernel
theorem dX2_tryPoints_75 : decode cX2_tryPoints 75 = .ok (.invokevirtual 80, 3) := by decide +kernel
theorem dX2_tryPoints_78 : decode cX2_tryPoints 78 = .ok (.return_, 1) := by decide +kernel
theorem dX3_init_0 : decode cX3_init 0 = .ok (.aload_n 0, 1) := by decide +kernel
theorem dX3_init_1 : decode cX3_init 1 = .ok (.invokespecial 3, 3) := by decide +kernel
theorem dX3_init_4 : decode cX3_init 4 = .ok (.aload_n 0, 1) := by decide +kernel
theorem dX3_init_5 : decode cX3_init 5 = .ok (.new 9, 3) := by decide +kernel
theorem dX3_init_8 : decode cX3_init 8 = .ok (.dup, 1) := by decide +kernel
theorem dX3_init_9 : decode cX3_init 9 = .ok (.invokespecial 11, 3) := by decide +kernel
theorem dX3_init_12 : decode cX3_init 12 = .ok (.putfield 12, 3) := by decide +kernel
theorem dX3_init_15 : decode cX3_init 15 = .ok (.aload_n 0, 1) := by decide +kernel
theorem dX3_init_16 : decode cX3_init 16 = .ok (.iconst 0, 1) := by decide +kernel
theorem dX3_init_17 : decode cX3_init 17 = .ok (.putfield 18, 3) := by decide +kernel
theorem dX3_init_20 : decode cX3_init 20 = .ok (.aload_n 0, 1) := by decide +kernel
theorem dX3_init_21 : decode cX3_init 21 = .ok (.iconst 0, 1) := by decide +kernel
theorem dX3_init_22 : decode cX3_init 22 = .ok (.putfield 22, 3) := by decide +kernel
theorem dX3_init_25 : decode cX3_init 25 = .ok (.aload_n 0, 1) := by decide +kernel
theorem dX3_init_26 : decode cX3_init 26 = .ok (.iconst (-1), 1) := by decide +kernel
theorem dX3_init_27 : decode cX3_init 27 = .ok (.putfield 25, 3) := by decide +kernel
theorem dX3_init_30 : decode cX3_init 30 = .ok (.aload_n 0, 1) := by decide +kernel
theorem dX3_init_31 : decode cX3_init 31 = .ok (.aload_n 1, 1) := by decide +kernel
theorem dX3_init_32 : decode cX3_init 32 = .ok (.putfield 28, 3) := by decide +kernel
theorem dX3_init_35 : decode cX3_init 35 = .ok (.return_, 1) := by decide +kernel
theorem dX3_readText_0 : decode cX3_readText 0 = .ok (.aload_n 0, 1) := by decide +kernel
theorem dX3_readText_1 : decode cX3_readText 1 = .ok (.iconst 0, 1) := by decide +kernel
theorem dX3_readText_2 : decode cX3_readText 2 = .ok (.putfield 18, 3) := by decide +kernel
theorem dX3_readText_5 : decode cX3_readText 5 = .ok (.aload_n 0, 1) := by decide +kernel
theorem dX3_readText_6 : decode cX3_readText 6 = .ok (.iconst 0, 1) := by decide +kernel
theorem dX3_readText_7 : decode cX3_readText 7 = .ok (.putfield 22, 3) := by decide +kernel
theorem dX3_readText_10 : decode cX3_readText 10 = .ok (.aload_n 0, 1) := by decide +kernel
theorem dX3_readText_11 : decode cX3_readText 11 = .ok (.iconst (-1), 1) := by decide +kernel
theorem dX3_readText_12 : decode cX3_readText 12 = .ok (.putfield 25, 3) := by decide +kernel
theorem dX3_readText_15 : decode cX3_readText 15 = .ok (.aload_n 0, 1) := by decide +kernel
theorem dX3_readText_16 : decode cX3_readText 16 = .ok (.getfield 12, 3) := by decide +kernel
theorem dX3_readText_19 : decode cX3_readText 19 = .ok (.invokevirtual 32, 3) := by decide +kernel
theorem dX3_readText_22 : decode cX3_readText 22 = .ok (.aload_n 0, 1) := by decide +kernel
theorem dX3_readText_23 : decode cX3_readText 23 = .ok (.invokevirtual 35, 3) := by decide +kernel
theorem dX3_readText_26 : decode cX3_readText 26 = .ok (.iconst 0, 1) := by decide +kernel
theorem dX3_readText_27 : decode cX3_readText 27 = .ok (.istore_n 1, 1) := by decide +kernel
theorem dX3_readText_28 : decode cX3_readText 28 = .ok (.iload_n 1, 1) := by decide +kernel
theorem dX3_readText_29 : decode cX3_readText 29 = .ok (.sipush 220, 3) := by decide +kernel
theorem dX3_readText_32 : decode cX3_readText 32 = .ok (.if_icmp .ge 38, 3) := by decide +kernel
theorem dX3_readText_35 : decode cX3_readText 35 = .ok (.aload_n 0, 1) := by decide +kernel
theorem dX3_readText_36 : decode cX3_readText 36 = .ok (.getfield 18, 3) := by decide +kernel
theorem dX3_readText_39 : decode cX3_readText 39 = .ok (.aload_n 0, 1) := by decide +kernel
theorem dX3_readText_40 : decode cX3_readText 40 = .ok (.getfield 28, 3) := by decide +kernel
theorem dX3_readText_43 : decode cX3_readText 43 = .ok (.invokevirtual 38, 3) := by decide +kernel
theorem dX3_readText_46 : decode cX3_readText 46 = .ok (.if_icmp .ge 24, 3) := by decide +kernel
theorem dX3_readText_49 : decode cX3_readText 49 = .ok (.aload_n 0, 1) := by decide +kernel
theorem dX3_readText_50 : decode cX3_readText 50 = .ok (.getfield 22, 3) := by decide +kernel
theorem dX3_readText_53 : decode cX3_readText 53 = .ok (.ifCond .ne 17, 3) := by decide +kernel
theorem dX3_readText_56 : decode cX3_readText 56 = .ok (.aload_n 0, 1) := by decide +kernel
theorem dX3_readText_57 : decode cX3_readText 57 = .ok (.invokevirtual 44, 3) := by decide +kernel
theorem dX3_readText_60 : decode cX3_readText 60 = .ok (.aload_n 0, 1) := by decide +kernel
theorem dX3_readText_61 : decode cX3_readText 61 = .ok (.invokevirtual 35, 3) := by decide +kernel
theorem dX3_readText_64 : decode cX3_readText 64 = .ok (.iinc 1 1, 3) := by decide +kernel
theorem dX3_readText_67 : decode cX3_readText 67 = .ok (.goto (-39), 3) := by decide +kernel
theorem dX3_readText_70 : decode cX3_readText 70 = .ok (.aload_n 0, 1) := by decide +kernel
theorem dX3_readText_71 : decode cX3_readText 71 = .ok (.getfield 22, 3) := by decide +kernel
theorem dX3_readText_74 : decode cX3_readText 74 = .ok (.ireturn, 1) := by decide +kernel
theorem dX3_placeOfFault_0 : decode cX3_placeOfFault 0 = .ok (.aload_n 0, 1) := by decide +kernel
theorem dX3_placeOfFault_1 : decode cX3_placeOfFault 1 = .ok (.getfield 25, 3) := by decide +kernel
theorem dX3_placeOfFault_4 : decode cX3_placeOfFault 4 = .ok (.ireturn, 1) := by decide +kernel
theorem dX3_whatWasRead_0 : decode cX3_whatWasRead 0 = .ok (.aload_n 0, 1) := by decide +kernel
theorem dX3_whatWasRead_1 : decode cX3_whatWasRead 1 = .ok (.getfield 12, 3) := by decide +kernel
theorem dX3_whatWasRead_4 : decode cX3_whatWasRead 4 = .ok (.areturn, 1) := by decide +kernel
theorem dX3_letter_0 : decode cX3_letter 0 = .ok (.aload_n 0, 1) := by decide +kernel
theorem dX3_letter_1 : decode cX3_letter 1 = .ok (.getfield 28, 3) := by decide +kernel
theorem dX3_letter_4 : decode cX3_letter 4 = .ok (.aload_n 0, 1) := by decide +kernel
theorem dX3_letter_5 : decode cX3_letter 5 = .ok (.getfield 18, 3) := by decide +kernel
theorem dX3_letter_8 : decode cX3_letter 8 = .ok (.iconst 0, 1) := by decide +kernel
theorem dX3_letter_9 : decode cX3_letter 9 = .ok (.invokevirtual 47, 3) := by decide +kernel
theorem dX3_letter_12 : decode cX3_letter 12 = .ok (.ireturn, 1) := by decide +kernel
theorem dX3_refuse_0 : decode cX3_refuse 0 = .ok (.aload_n 0, 1) := by decide +kernel
theorem dX3_refuse_1 : decode cX3_refuse 1 = .ok (.iload_n 1, 1) := by decide +kernel
theorem dX3_refuse_2 : decode cX3_refuse 2 = .ok (.putfield 22, 3) := by decide +kernel
theorem dX3_refuse_5 : decode cX3_refuse 5 = .ok (.aload_n 0, 1) := by decide +kernel
theorem dX3_refuse_6 : decode cX3_refuse 6 = .ok (.iload_n 2, 1) := by decide +kernel
theorem dX3_refuse_7 : decode cX3_refuse 7 = .ok (.putfield 25, 3) := by decide +kernel
theorem dX3_refuse_10 : decode cX3_refuse 10 = .ok (.return_, 1) := by decide +kernel
theorem dX3_skipBlanks_0 : decode cX3_skipBlanks 0 = .ok (.iconst 0, 1) := by decide +kernel
theorem dX3_skipBlanks_1 : decode cX3_skipBlanks 1 = .ok (.istore_n 1, 1) := by decide +kernel
theorem dX3_skipBlanks_2 : decode cX3_skipBlanks 2 = .ok (.iload_n 1, 1) := by decide +kernel
theorem dX3_skipBlanks_3 : decode cX3_skipBlanks 3 = .ok (.sipush 220, 3) := by decide +kernel
theorem dX3_skipBlanks_6 : decode cX3_skipBlanks 6 = .ok (.if_icmp .ge 28, 3) := by decide +kernel
theorem dX3_skipBlanks_9 : decode cX3_skipBlanks 9 = .ok (.aload_n 0, 1) := by decide +kernel
theorem dX3_skipBlanks_10 : decode cX3_skipBlanks 10 = .ok (.invokevirtual 51, 3) := by decide +kernel
theorem dX3_skipBlanks_13 : decode cX3_skipBlanks 13 = .ok (.bipush 32, 2) := by decide +kernel
theorem dX3_skipBlanks_15 : decode cX3_skipBlanks 15 = .ok (.if_icmp .ne 19, 3) := by decide +kernel
theorem dX3_skipBlanks_18 : decode cX3_skipBlanks 18 = .ok (.aload_n 0, 1) := by decide +kernel
theorem dX3_skipBlanks_19 : decode cX3_skipBlanks 19 = .ok (.dup, 1) := by decide +kernel
theorem dX3_skipBlanks_20 : decode cX3_skipBlanks 20 = .ok (.getfield 18, 3) := by decide +kernel
theorem dX3_skipBlanks_23 : decode cX3_skipBlanks 23 = .ok (.iconst 1, 1) := by decide +kernel
theorem dX3_skipBlanks_24 : decode cX3_skipBlanks 24 = .ok (.iadd, 1) := by decide +kernel
theorem dX3_skipBlanks_25 : decode cX3_skipBlanks 25 = .ok (.putfield 18, 3) := by decide +kernel
theorem dX3_skipBlanks_28 : decode cX3_skipBlanks 28 = .ok (.iinc 1 1, 3) := by decide +kernel
theorem dX3_skipBlanks_31 : decode cX3_skipBlanks 31 = .ok (.goto (-29), 3) := by decide +kernel
theorem dX3_skipBlanks_34 : decode cX3_skipBlanks 34 = .ok (.return_, 1) := by decide +kernel
theorem dX3_readClause_0 : decode cX3_readClause 0 = .ok (.aload_n 0, 1) := by decide +kernel
theorem dX3_readClause_1 : decode cX3_readClause 1 = .ok (.invokevirtual 51, 3) := by decide +kernel
theorem dX3_readClause_4 : decode cX3_readClause 4 = .ok (.invokestatic 54, 3) := by decide +kernel
theorem dX3_readClause_7 : decode cX3_readClause 7 = .ok (.istore_n 1, 1) := by decide +kernel
theorem dX3_readClause_8 : decode cX3_readClause 8 = .ok (.iload_n 1, 1) := by decide +kernel
theorem dX3_readClause_9 : decode cX3_readClause 9 = .ok (.iconst (-1), 1) := by decide +kernel
theorem dX3_readClause_10 : decode cX3_readClause 10 = .ok (.if_icmp .eq 20, 3) := by decide +kernel
theorem dX3_readClause_13 : decode cX3_readClause 13 = .ok (.iload_n 1, 1) := by decide +kernel
theorem dX3_readClause_14 : decode cX3_readClause 14 = .ok (.ifCond .eq 26, 3) := by decide +kernel
theorem dX3_readClause_17 : decode cX3_readClause 17 = .ok (.aload_n 0, 1) := by decide +kernel
theorem dX3_readClause_18 : decode cX3_readClause 18 = .ok (.getfield 12, 3) := by decide +kernel
theorem dX3_readClause_21 : decode cX3_readClause 21 = .ok (.getfield 58, 3) := by decide +kernel
theorem dX3_readClause_24 : decode cX3_readClause 24 = .ok (.invokevirtual 38, 3) := by decide +kernel
theorem dX3_readClause_27 : decode cX3_readClause 27 = .ok (.ifCond .ne 13, 3) := by decide +kernel
theorem dX3_readClause_30 : decode cX3_readClause 30 = .ok (.aload_n 0, 1) := by decide +kernel
theorem dX3_readClause_31 : decode cX3_readClause 31 = .ok (.iconst 1, 1) := by decide +kernel
theorem dX3_readClause_32 : decode cX3_readClause 32 = .ok (.aload_n 0, 1) := by decide +kernel
theorem dX3_readClause_33 : decode cX3_readClause 33 = .ok (.getfield 18, 3) := by decide +kernel
theorem dX3_readClause_36 : decode cX3_readClause 36 = .ok (.invokevirtual 61, 3) := by decide +kernel
theorem dX3_readClause_39 : decode cX3_readClause 39 = .ok (.return_, 1) := by decide +kernel
theorem dX3_readClause_40 : decode cX3_readClause 40 = .ok (.aload_n 0, 1) := by decide +kernel
theorem dX3_readClause_41 : decode cX3_readClause 41 = .ok (.iload_n 1, 1) := by decide +kernel
theorem dX3_readClause_42 : decode cX3_readClause 42 = .ok (.invokevirtual 65, 3) := by decide +kernel
theorem dX3_readClause_45 : decode cX3_readClause 45 = .ok (.astore_n 2, 1) := by decide +kernel
theorem dX3_readClause_46 : decode cX3_readClause 46 = .ok (.aload_n 2, 1) := by decide +kernel
theorem dX3_readClause_47 : decode cX3_readClause 47 = .ok (.invokevirtual 69, 3) := by decide +kernel
theorem dX3_readClause_50 : decode cX3_readClause 50 = .ok (.ifCond .eq 13, 3) := by decide +kernel
theorem dX3_readClause_53 : decode cX3_readClause 53 = .ok (.aload_n 0, 1) := by decide +kernel
theorem dX3_readClause_54 : decode cX3_readClause 54 = .ok (.iconst 3, 1) := by decide +kernel
theorem dX3_readClause_55 : decode cX3_readClause 55 = .ok (.aload_n 0, 1) := by decide +kernel
theorem dX3_readClause_56 : decode cX3_readClause 56 = .ok (.getfield 18, 3) := by decide +kernel
theorem dX3_readClause_59 : decode cX3_readClause 59 = .ok (.invokevirtual 61, 3) := by decide +kernel
theorem dX3_readClause_62 : decode cX3_readClause 62 = .ok (.return_, 1) := by decide +kernel
theorem dX3_readClause_63 : decode cX3_readClause 63 = .ok (.aload_n 0, 1) := by decide +kernel
theorem dX3_readClause_64 : decode cX3_readClause 64 = .ok (.dup, 1) := by decide +kernel
theorem dX3_readClause_65 : decode cX3_readClause 65 = .ok (.getfield 18, 3) := by decide +kernel
theorem dX3_readClause_68 : decode cX3_readClause 68 = .ok (.iconst 1, 1) := by decide +kernel
theorem dX3_readClause_69 : decode cX3_readClause 69 = .ok (.iadd, 1) := by decide +kernel
theorem dX3_readClause_70 : decode cX3_readClause 70 = .ok (.putfield 18, 3) := by decide +kernel
theorem dX3_readClause_73 : decode cX3_readClause 73 = .ok (.aload_n 2, 1) := by decide +kernel
theorem dX3_readClause_74 : decode cX3_readClause 74 = .ok (.invokevirtual 73, 3) := by decide +kernel
theorem dX3_readClause_77 : decode cX3_readClause 77 = .ok (.istore_n 3, 1) := by decide +kernel
theorem dX3_readClause_78 : decode cX3_readClause 78 = .ok (.iconst 0, 1) := by decide +kernel
theorem dX3_readClause_79 : decode cX3_readClause 79 = .ok (.istore 4, 2) := by decide +kernel
theorem dX3_readClause_81 : decode cX3_readClause 81 = .ok (.iload 4, 2) := by decide +kernel
theorem dX3_readClause_83 : decode cX3_readClause 83 = .ok (.aload_n 2, 1) := by decide +kernel
theorem dX3_readClause_84 : decode cX3_readClause 84 = .ok (.invokevirtual 76, 3) := by decide +kernel
theorem dX3_readClause_87 : decode cX3_readClause 87 = .ok (.if_icmp .ge 37, 3) := by decide +kernel
theorem dX3_readClause_90 : decode cX3_readClause 90 = .ok (.aload_n 0, 1) := by decide +kernel
theorem dX3_readClause_91 : decode cX3_readClause 91 = .ok (.getfield 22, 3) := by decide +kernel
theorem dX3_readClause_94 : decode cX3_readClause 94 = .ok (.ifCond .ne 30, 3) := by decide +kernel
theorem dX3_readClause_97 : decode cX3_readClause 97 = .ok (.aload_n 0, 1) := by decide +kernel
theorem dX3_readClause_98 : decode cX3_readClause 98 = .ok (.invokevirtual 35, 3) := by decide +kernel
theorem dX3_readClause_101 : decode cX3_readClause 101 = .ok (.aload_n 2, 1) := by decide +kernel
theorem dX3_readClause_102 : decode cX3_readClause 102 = .ok (.iload_n 3, 1) := by decide +kernel
theorem dX3_readClause_103 : decode cX3_readClause 103 = .ok (.iload 4, 2) := by decide +kernel
theorem dX3_readClause_105 : decode cX3_readClause 105 = .ok (.aload_n 0, 1) := by decide +kernel
theorem dX3_readClause_106 : decode cX3_readClause 106 = .ok (.iload_n 1, 1) := by decide +kernel
theorem dX3_readClause_107 : decode cX3_readClause 107 = .ok (.iconst 4, 1) := by decide +kernel
theorem dX3_readClause_108 : decode cX3_readClause 108 = .ok (.imul, 1) := by decide +kernel
theorem dX3_readClause_109 : decode cX3_readClause 109 = .ok (.iload 4, 2) := by decide +kernel
theorem dX3_readClause_111 : decode cX3_readClause 111 = .ok (.iadd, 1) := by decide +kernel
theorem dX3_readClause_112 : decode cX3_readClause 112 = .ok (.invokevirtual 79, 3) := by decide +kernel
theorem dX3_readClause_115 : decode cX3_readClause 115 = .ok (.invokevirtual 82, 3) := by decide +kernel
theorem dX3_readClause_118 : decode cX3_readClause 118 = .ok (.iinc 4 1, 3) := by decide +kernel
theorem dX3_readClause_121 : decode cX3_readClause 121 = .ok (.goto (-40), 3) := by decide +kernel
theorem dX3_readClause_124 : decode cX3_readClause 124 = .ok (.aload_n 0, 1) := by decide +kernel
theorem dX3_readClause_125 : decode cX3_readClause 125 = .ok (.getfield 22, 3) := by decide +kernel
theorem dX3_readClause_128 : decode cX3_readClause 128 = .ok (.ifCond .ne 11, 3) := by decide +kernel
theorem dX3_readClause_131 : decode cX3_readClause 131 = .ok (.aload_n 0, 1) := by decide +kernel
theorem dX3_readClause_132 : decode cX3_readClause 132 = .ok (.invokevirtual 35, 3) := by decide +kernel
theorem dX3_readClause_135 : decode cX3_readClause 135 = .ok (.aload_n 0, 1) := by decide +kernel
theorem dX3_readClause_136 : decode cX3_readClause 136 = .ok (.invokevirtual 86, 3) := by decide +kernel
theorem dX3_readClause_139 : decode cX3_readClause 139 = .ok (.return_, 1) := by decide +kernel
theorem dX3_wordOf_0 : decode cX3_wordOf 0 = .ok (.iload_n 0, 1) := by decide +kernel
theorem dX3_wordOf_1 : decode cX3_wordOf 1 = .ok (.lookupswitch 41 #[(108, 37), (109, 39), (115, 35)], 35) := by decide +kernel
theorem dX3_wordOf_36 : decode cX3_wordOf 36 = .ok (.iconst 0, 1) := by decide +kernel
theorem dX3_wordOf_37 : decode cX3_wordOf 37 = .ok (.ireturn, 1) := by decide +kernel
theorem dX3_wordOf_38 : decode cX3_wordOf 38 = .ok (.iconst 1, 1) := by decide +kernel
theorem dX3_wordOf_39 : decode cX3_wordOf 39 = .ok (.ireturn, 1) := by decide +kernel
theorem dX3_wordOf_40 : decode cX3_wordOf 40 = .ok (.iconst 2, 1) := by decide +kernel
theorem dX3_wordOf_41 : decode cX3_wordOf 41 = .ok (.ireturn, 1) := by decide +kernel
theorem dX3_wordOf_42 : decode cX3_wordOf 42 = .ok (.iconst (-1), 1) := by decide +kernel
theorem dX3_wordOf_43 : decode cX3_wordOf 43 = .ok (.ireturn, 1) := by decide +kernel
theorem dX3_clausesOf_0 : decode cX3_clausesOf 0 = .ok (.iload_n 1, 1) := by decide +kernel
theorem dX3_clausesOf_1 : decode cX3_clausesOf 1 = .ok (.ifCond .ne 11, 3) := by decide +kernel
theorem dX3_clausesOf_4 : decode cX3_clausesOf 4 = .ok (.aload_n 0, 1) := by decide +kernel
theorem dX3_clausesOf_5 : decode cX3_clausesOf 5 = .ok (.getfield 12, 3) := by decide +kernel
theorem dX3_clausesOf_8 : decode cX3_clausesOf 8 = .ok (.getfield 58, 3) := by decide +kernel
theorem dX3_clausesOf_11 : decode cX3_clausesOf 11 = .ok (.areturn, 1) := by decide +kernel
theorem dX3_clausesOf_12 : decode cX3_clausesOf 12 = .ok (.iload_n 1, 1) := by decide +kernel
theorem dX3_clausesOf_13 : decode cX3_clausesOf 13 = .ok (.iconst 1, 1) := by decide +kernel
theorem dX3_clausesOf_14 : decode cX3_clausesOf 14 = .ok (.if_icmp .ne 13, 3) := by decide +kernel
theorem dX3_clausesOf_17 : decode cX3_clausesOf 17 = .ok (.aload_n 0, 1) := by decide +kernel
theorem dX3_clausesOf_18 : decode cX3_clausesOf 18 = .ok (.getfield 12, 3) := by decide +kernel
theorem dX3_clausesOf_21 : decode cX3_clausesOf 21 = .ok (.getfield 89, 3) := by decide +kernel
theorem dX3_clausesOf_24 : decode cX3_clausesOf 24 = .ok (.goto 10, 3) := by decide +kernel
theorem dX3_clausesOf_27 : decode cX3_clausesOf 27 = .ok (.aload_n 0, 1) := by decide +kernel
theorem dX3_clausesOf_28 : decode cX3_clausesOf 28 = .ok (.getfield 12, 3) := by decide +kernel
theorem dX3_clausesOf_31 : decode cX3_clausesOf 31 = .ok (.getfield 92, 3) := by decide +kernel
theorem dX3_clausesOf_34 : decode cX3_clausesOf 34 = .ok (.areturn, 1) := by decide +kernel
theorem dX3_readNumber_0 : decode cX3_readNumber 0 = .ok (.aload_n 0, 1) := by decide +kernel
theorem dX3_readNumber_1 : decode cX3_readNumber 1 = .ok (.getfield 18, 3) := by decide +kernel
theorem dX3_readNumber_4 : decode cX3_readNumber 4 = .ok (.istore_n 2, 1) := by decide +kernel
theorem dX3_readNumber_5 : decode cX3_readNumber 5 = .ok (.iconst 0, 1) := by decide +kernel
theorem dX3_readNumber_6 : decode cX3_readNumber 6 = .ok (.istore_n 3, 1) := by decide +kernel
theorem dX3_readNumber_7 : decode cX3_readNumber 7 = .ok (.iconst 0, 1) := by decide +kernel
theorem dX3_readNumber_8 : decode cX3_readNumber 8 = .ok (.istore 4, 2) := by decide +kernel
theorem dX3_readNumber_10 : decode cX3_readNumber 10 = .ok (.iload 4, 2) := by decide +kernel
theorem dX3_readNumber_12 : decode cX3_readNumber 12 = .ok (.sipush 220, 3) := by decide +kernel
theorem dX3_readNumber_15 : decode cX3_readNumber 15 = .ok (.if_icmp .ge 56, 3) := by decide +kernel
theorem dX3_readNumber_18 : decode cX3_readNumber 18 = .ok (.aload_n 0, 1) := by decide +kernel
theorem dX3_readNumber_19 : decode cX3_readNumber 19 = .ok (.invokevirtual 51, 3) := by decide +kernel
theorem dX3_readNumber_22 : decode cX3_readNumber 22 = .ok (.bipush 48, 2) := by decide +kernel
theorem dX3_readNumber_24 : decode cX3_readNumber 24 = .ok (.if_icmp .lt 47, 3) := by decide +kernel
theorem dX3_readNumber_27 : decode cX3_readNumber 27 = .ok (.aload_n 0, 1) := by decide +kernel
theorem dX3_readNumber_28 : decode cX3_readNumber 28 = .ok (.invokevirtual 51, 3) := by decide +kernel
theorem dX3_readNumber_31 : decode cX3_readNumber 31 = .ok (.bipush 57, 2) := by decide +kernel
theorem dX3_readNumber_33 : decode cX3_readNumber 33 = .ok (.if_icmp .gt 38, 3) := by decide +kernel
theorem dX3_readNumber_36 : decode cX3_readNumber 36 = .ok (.iload_n 3, 1) := by decide +kernel
theorem dX3_readNumber_37 : decode cX3_readNumber 37 = .ok (.sipush 999, 3) := by decide +kernel
theorem dX3_readNumber_40 : decode cX3_readNumber 40 = .ok (.invokestatic 95, 3) := by decide +kernel
theorem dX3_readNumber_43 : decode cX3_readNumber 43 = .ok (.bipush 10, 2) := by decide +kernel
theorem dX3_readNumber_45 : decode cX3_readNumber 45 = .ok (.imul, 1) := by decide +kernel
theorem dX3_readNumber_46 : decode cX3_readNumber 46 = .ok (.aload_n 0, 1) := by decide +kernel
theorem dX3_readNumber_47 : decode cX3_readNumber 47 = .ok (.invokevirtual 51, 3) := by decide +kernel
theorem dX3_readNumber_50 : decode cX3_readNumber 50 = .ok (.iadd, 1) := by decide +kernel
theorem dX3_readNumber_51 : decode cX3_readNumber 51 = .ok (.bipush 48, 2) := by decide +kernel
theorem dX3_readNumber_53 : decode cX3_readNumber 53 = .ok (.isub, 1) := by decide +kernel
theorem dX3_readNumber_54 : decode cX3_readNumber 54 = .ok (.istore_n 3, 1) := by decide +kernel
theorem dX3_readNumber_55 : decode cX3_readNumber 55 = .ok (.aload_n 0, 1) := by decide +kernel
theorem dX3_readNumber_56 : decode cX3_readNumber 56 = .ok (.dup, 1) := by decide +kernel
theorem dX3_readNumber_57 : decode cX3_readNumber 57 = .ok (.getfield 18, 3) := by decide +kernel
theorem dX3_readNumber_60 : decode cX3_readNumber 60 = .ok (.iconst 1, 1) := by decide +kernel
theorem dX3_readNumber_61 : decode cX3_readNumber 61 = .ok (.iadd, 1) := by decide +kernel
theorem dX3_readNumber_62 : decode cX3_readNumber 62 = .ok (.putfield 18, 3) := by decide +kernel
theorem dX3_readNumber_65 : decode cX3_readNumber 65 = .ok (.iinc 4 1, 3) := by decide +kernel
theorem dX3_readNumber_68 : decode cX3_readNumber 68 = .ok (.goto (-58), 3) := by decide +kernel
theorem dX3_readNumber_71 : decode cX3_readNumber 71 = .ok (.aload_n 0, 1) := by decide +kernel
theorem dX3_readNumber_72 : decode cX3_readNumber 72 = .ok (.getfield 18, 3) := by decide +kernel
theorem dX3_readNumber_75 : decode cX3_readNumber 75 = .ok (.iload_n 2, 1) := by decide +kernel
theorem dX3_readNumber_76 : decode cX3_readNumber 76 = .ok (.isub, 1) := by decide +kernel
theorem dX3_readNumber_77 : decode cX3_readNumber 77 = .ok (.istore 4, 2) := by decide +kernel
theorem dX3_readNumber_79 : decode cX3_readNumber 79 = .ok (.iload 4, 2) := by decide +kernel
theorem dX3_readNumber_81 : decode cX3_readNumber 81 = .ok (.ifCond .ne 12, 3) := by decide +kernel
theorem dX3_readNumber_84 : decode cX3_readNumber 84 = .ok (.aload_n 0, 1) := by decide +kernel
theorem dX3_readNumber_85 : decode cX3_readNumber 85 = .ok (.iconst 1, 1) := by decide +kernel
theorem dX3_readNumber_86 : decode cX3_readNumber 86 = .ok (.iload_n 2, 1) := by decide +kernel
theorem dX3_readNumber_87 : decode cX3_readNumber 87 = .ok (.invokevirtual 61, 3) := by decide +kernel
theorem dX3_readNumber_90 : decode cX3_readNumber 90 = .ok (.goto 23, 3) := by decide +kernel
theorem dX3_readNumber_93 : decode cX3_readNumber 93 = .ok (.iload 4, 2) := by decide +kernel
theorem dX3_readNumber_95 : decode cX3_readNumber 95 = .ok (.iconst 3, 1) := by decide +kernel
theorem dX3_readNumber_96 : decode cX3_readNumber 96 = .ok (.if_icmp .gt 11, 3) := by decide +kernel
theorem dX3_readNumber_99 : decode cX3_readNumber 99 = .ok (.iload_n 1, 1) := by decide +kernel
theorem dX3_readNumber_100 : decode cX3_readNumber 100 = .ok (.iload_n 3, 1) := by decide +kernel
theorem dX3_readNumber_101 : decode cX3_readNumber 101 = .ok (.invokestatic 100, 3) := by decide +kernel
theorem dX3_readNumber_104 : decode cX3_readNumber 104 = .ok (.ifCond .ne 9, 3) := by decide +kernel
theorem dX3_readNumber_107 : decode cX3_readNumber 107 = .ok (.aload_n 0, 1) := by decide +kernel
theorem dX3_readNumber_108 : decode cX3_readNumber 108 = .ok (.iconst 2, 1) := by decide +kernel
theorem dX3_readNumber_109 : decode cX3_readNumber 109 = .ok (.iload_n 2, 1) := by decide +kernel
theorem dX3_readNumber_110 : decode cX3_readNumber 110 = .ok (.invokevirtual 61, 3) := by decide +kernel
theorem dX3_readNumber_113 : decode cX3_readNumber 113 = .ok (.iload_n 3, 1) := by decide +kernel
theorem dX3_readNumber_114 : decode cX3_readNumber 114 = .ok (.ireturn, 1) := by decide +kernel
theorem dX3_isWithin_0 : decode cX3_isWithin 0 = .ok (.iload_n 0, 1) := by decide +kernel
theorem dX3_isWithin_1 : decode cX3_isWithin 1 = .ok (.ifCond .lt 19, 3) := by decide +kernel
theorem dX3_isWithin_4 : decode cX3_isWithin 4 = .ok (.iload_n 0, 1) := by decide +kernel
theorem dX3_isWithin_5 : decode cX3_isWithin 5 = .ok (.getstatic 104, 3) := by decide +kernel
theorem dX3_isWithin_8 : decode cX3_isWithin 8 = .ok (.arraylength, 1) := by decide +kernel
theorem dX3_isWithin_9 : decode cX3_isWithin 9 = .ok (.if_icmp .ge 11, 3) := by decide +kernel
theorem dX3_isWithin_12 : decode cX3_isWithin 12 = .ok (.iload_n 0, 1) := by decide +kernel
theorem dX3_isWithin_13 : decode cX3_isWithin 13 = .ok (.getstatic 108, 3) := by decide +kernel
theorem dX3_isWithin_16 : decode cX3_isWithin 16 = .ok (.arraylength, 1) := by decide +kernel
theorem dX3_isWithin_17 : decode cX3_isWithin 17 = .ok (.if_icmp .lt 5, 3) := by decide +kernel
theorem dX3_isWithin_20 : decode cX3_isWithin 20 = .ok (.iconst 0, 1) := by decide +kernel
theorem dX3_isWithin_21 : decode cX3_isWithin 21 = .ok (.ireturn, 1) := by decide +kernel
theorem dX3_isWithin_22 : decode cX3_isWithin 22 = .ok (.iload_n 1, 1) := by decide +kernel
theorem dX3_isWithin_23 : decode cX3_isWithin 23 = .ok (.getstatic 104, 3) := by decide +kernel
theorem dX3_isWithin_26 : decode cX3_isWithin 26 = .ok (.iload_n 0, 1) := by decide +kernel
theorem dX3_isWithin_27 : decode cX3_isWithin 27 = .ok (.iaload, 1) := by decide +kernel
theorem dX3_isWithin_28 : decode cX3_isWithin 28 = .ok (.if_icmp .lt 16, 3) := by decide +kernel
theorem dX3_isWithin_31 : decode cX3_isWithin 31 = .ok (.iload_n 1, 1) := by decide +kernel
theorem dX3_isWithin_32 : decode cX3_isWithin 32 = .ok (.getstatic 108, 3) := by decide +kernel
theorem dX3_isWithin_35 : decode cX3_isWithin 35 = .ok (.iload_n 0, 1) := by decide +kernel
theorem dX3_isWithin_36 : decode cX3_isWithin 36 = .ok (.iaload, 1) := by decide +kernel
theorem dX3_isWithin_37 : decode cX3_isWithin 37 = .ok (.if_icmp .gt 7, 3) := by decide +kernel
theorem dX3_isWithin_40 : decode cX3_isWithin 40 = .ok (.iconst 1, 1) := by decide +kernel
theorem dX3_isWithin_41 : decode cX3_isWithin 41 = .ok (.goto 4, 3) := by decide +kernel
theorem dX3_isWithin_44 : decode cX3_isWithin 44 = .ok (.iconst 0, 1) := by decide +kernel
theorem dX3_isWithin_45 : decode cX3_isWithin 45 = .ok (.ireturn, 1) := by decide +kernel
theorem dX3_readEnd_0 : decode cX3_readEnd 0 = .ok (.aload_n 0, 1) := by decide +kernel
theorem dX3_readEnd_1 : decode cX3_readEnd 1 = .ok (.invokevirtual 51, 3) := by decide +kernel
theorem dX3_readEnd_4 : decode cX3_readEnd 4 = .ok (.bipush 59, 2) := by decide +kernel
theorem dX3_readEnd_6 : decode cX3_readEnd 6 = .ok (.if_icmp .ne 16, 3) := by decide +kernel
theorem dX3_readEnd_9 : decode cX3_readEnd 9 = .ok (.aload_n 0, 1) := by decide +kernel
theorem dX3_readEnd_10 : decode cX3_readEnd 10 = .ok (.dup, 1) := by decide +kernel
theorem dX3_readEnd_11 : decode cX3_readEnd 11 = .ok (.getfield 18, 3) := by decide +kernel
theorem dX3_readEnd_14 : decode cX3_readEnd 14 = .ok (.iconst 1, 1) := by decide +kernel
theorem dX3_readEnd_15 : decode cX3_readEnd 15 = .ok (.iadd, 1) := by decide +kernel
theorem dX3_readEnd_16 : decode cX3_readEnd 16 = .ok (.putfield 18, 3) := by decide +kernel
theorem dX3_readEnd_19 : decode cX3_readEnd 19 = .ok (.goto 12, 3) := by decide +kernel
theorem dX3_readEnd_22 : decode cX3_readEnd 22 = .ok (.aload_n 0, 1) := by decide +kernel
theorem dX3_readEnd_23 : decode cX3_readEnd 23 = .ok (.iconst 1, 1) := by decide +kernel
theorem dX3_readEnd_24 : decode cX3_readEnd 24 = .ok (.aload_n 0, 1) := by decide +kernel
theorem dX3_readEnd_25 : decode cX3_readEnd 25 = .ok (.getfield 18, 3) := by decide +kernel
theorem dX3_readEnd_28 : decode cX3_readEnd 28 = .ok (.invokevirtual 61, 3) := by decide +kernel
theorem dX3_readEnd_31 : decode cX3_readEnd 31 = .ok (.return_, 1) := by decide +kernel
theorem dX4_init_0 : decode cX4_init 0 = .ok (.aload_n 0, 1) := by decide +kernel
theorem dX4_init_1 : decode cX4_init 1 = .ok (.invokespecial 3, 3) := by decide +kernel
theorem dX4_init_4 : decode cX4_init 4 = .ok (.aload_n 0, 1) := by decide +kernel
theorem dX4_init_5 : decode cX4_init 5 = .ok (.new 9, 3) := by decide +kernel
theorem dX4_init_8 : decode cX4_init 8 = .ok (.dup, 1) := by decide +kernel
theorem dX4_init_9 : decode cX4_init 9 = .ok (.iconst 5, 1) := by decide +kernel
theorem dX4_init_10 : decode cX4_init 10 = .ok (.bipush 8, 2) := by decide +kernel
theorem dX4_init_12 : decode cX4_init 12 = .ok (.invokespecial 11, 3) := by decide +kernel
theorem dX4_init_15 : decode cX4_init 15 = .ok (.putfield 14, 3) := by decide +kernel
theorem dX4_init_18 : decode cX4_init 18 = .ok (.aload_n 0, 1) := by decide +kernel
theorem dX4_init_19 : decode cX4_init 19 = .ok (.iconst 0, 1) := by decide +kernel
theorem dX4_init_20 : decode cX4_init 20 = .ok (.putfield 20, 3) := by decide +kernel
theorem dX4_init_23 : decode cX4_init 23 = .ok (.aload_n 0, 1) := by decide +kernel
theorem dX4_init_24 : decode cX4_init 24 = .ok (.iconst 0, 1) := by decide +kernel
theorem dX4_init_25 : decode cX4_init 25 = .ok (.putfield 24, 3) := by decide +kernel
theorem dX4_init_28 : decode cX4_init 28 = .ok (.aload_n 0, 1) := by decide +kernel
theorem dX4_init_29 : decode cX4_init 29 = .ok (.iconst 0, 1) := by decide +kernel
theorem dX4_init_30 : decode cX4_init 30 = .ok (.putfield 27, 3) := by decide +kernel
theorem dX4_init_33 : decode cX4_init 33 = .ok (.aload_n 0, 1) := by decide +kernel
theorem dX4_init_34 : decode cX4_init 34 = .ok (.iconst 0, 1) := by decide +kernel
theorem dX4_init_35 : decode cX4_init 35 = .ok (.putfield 30, 3) := by decide +kernel
theorem dX4_init_38 : decode cX4_init 38 = .ok (.return_, 1) := by decide +kernel
theorem dX4_begin_0 : decode cX4_begin 0 = .ok (.aload_n 0, 1) := by decide +kernel
theorem dX4_begin_1 : decode cX4_begin 1 = .ok (.getfield 14, 3) := by decide +kernel
theorem dX4_begin_4 : decode cX4_begin 4 = .ok (.invokevirtual 34, 3) := by decide +kernel
theorem dX4_begin_7 : decode cX4_begin 7 = .ok (.aload_n 0, 1) := by decide +kernel
theorem dX4_begin_8 : decode cX4_begin 8 = .ok (.aload_n 1, 1) := by decide +kernel
theorem dX4_begin_9 : decode cX4_begin 9 = .ok (.getfield 37, 3) := by decide +kernel
theorem dX4_begin_12 : decode cX4_begin 12 = .ok (.iconst 0, 1) := by decide +kernel
theorem dX4_begin_13 : decode cX4_begin 13 = .ok (.iconst 2, 1) := by decide +kernel
theorem dX4_begin_14 : decode cX4_begin 14 = .ok (.invokevirtual 42, 3) := by decide +kernel
theorem dX4_begin_17 : decode cX4_begin 17 = .ok (.putfield 20, 3) := by decide +kernel
theorem dX4_begin_20 : decode cX4_begin 20 = .ok (.aload_n 0, 1) := by decide +kernel
theorem dX4_begin_21 : decode cX4_begin 21 = .ok (.aload_n 1, 1) := by decide +kernel
theorem dX4_begin_22 : decode cX4_begin 22 = .ok (.getfield 37, 3) := by decide +kernel
theorem dX4_begin_25 : decode cX4_begin 25 = .ok (.iconst 0, 1) := by decide +kernel
theorem dX4_begin_26 : decode cX4_begin 26 = .ok (.iconst 3, 1) := by decide +kernel
theorem dX4_begin_27 : decode cX4_begin 27 = .ok (.invokevirtual 42, 3) := by decide +kernel
theorem dX4_begin_30 : decode cX4_begin 30 = .ok (.putfield 24, 3) := by decide +kernel
theorem dX4_begin_33 : decode cX4_begin 33 = .ok (.aload_n 0, 1) := by decide +kernel
theorem dX4_begin_34 : decode cX4_begin 34 = .ok (.iconst 0, 1) := by decide +kernel
theorem dX4_begin_35 : decode cX4_begin 35 = .ok (.putfield 27, 3) := by decide +kernel
theorem dX4_begin_38 : decode cX4_begin 38 = .ok (.aload_n 0, 1) := by decide +kernel
theorem dX4_begin_39 : decode cX4_begin 39 = .ok (.iconst 0, 1) := by decide +kernel
theorem dX4_begin_40 : decode cX4_begin 40 = .ok (.putfield 30, 3) := by decide +kernel
theorem dX4_begin_43 : decode cX4_begin 43 = .ok (.return_, 1) := by decide +kernel
theorem dX4_become_0 : decode cX4_become 0 = .ok (.aload_n 0, 1) := by decide +kernel
theorem dX4_become_1 : decode cX4_become 1 = .ok (.getfield 14, 3) := by decide +kernel
theorem dX4_become_4 : decode cX4_become 4 = .ok (.aload_n 1, 1) := by decide +kernel
theorem dX4_become_5 : decode cX4_become 5 = .ok (.getfield 14, 3) := by decide +kernel
theorem dX4_become_8 : decode cX4_become 8 = .ok (.invokevirtual 46, 3) := by decide +kernel
theorem dX4_become_11 : decode cX4_become 11 = .ok (.aload_n 0, 1) := by decide +kernel
theorem dX4_become_12 : decode cX4_become 12 = .ok (.aload_n 1, 1) := by decide +kernel
theorem dX4_become_13 : decode cX4_become 13 = .ok (.getfield 20, 3) := by decide +kernel
theorem dX4_become_16 : decode cX4_become 16 = .ok (.putfield 20, 3) := by decide +kernel
theorem dX4_become_19 : decode cX4_become 19 = .ok (.aload_n 0, 1) := by decide +kernel
theorem dX4_become_20 : decode cX4_become 20 = .ok (.aload_n 1, 1) := by decide +kernel
theorem dX4_become_21 : decode cX4_become 21 = .ok (.getfield 24, 3) := by decide +kernel
theorem dX4_become_24 : decode cX4_become 24 = .ok (.putfield 24, 3) := by decide +kernel
theorem dX4_become_27 : decode cX4_become 27 = .ok (.aload_n 0, 1) := by decide +kernel
theorem dX4_become_28 : decode cX4_become 28 = .ok (.aload_n 1, 1) := by decide +kernel
theorem dX4_become_29 : decode cX4_become 29 = .ok (.getfield 27, 3) := by decide +kernel
theorem dX4_become_32 : decode cX4_become 32 = .ok (.putfield 27, 3) := by decide +kernel
theorem dX4_become_35 : decode cX4_become 35 = .ok (.aload_n 0, 1) := by decide +kernel
theorem dX4_become_36 : decode cX4_become 36 = .ok (.aload_n 1, 1) := by decide +kernel
theorem dX4_become_37 : decode cX4_become 37 = .ok (.getfield 30, 3) := by decide +kernel
theorem dX4_become_40 : decode cX4_become 40 = .ok (.putfield 30, 3) := by decide +kernel
theorem dX4_become_43 : decode cX4_become 43 = .ok (.return_, 1) := by decide +kernel
theorem dX4_sailOn_0 : decode cX4_sailOn 0 = .ok (.iload_n 1, 1) := by decide +kernel
theorem dX4_sailOn_1 : decode cX4_sailOn 1 = .ok (.ifCond .eq 30, 3) := by decide +kernel
theorem dX4_sailOn_4 : decode cX4_sailOn 4 = .ok (.aload_n 0, 1) := by decide +kernel
theorem dX4_sailOn_5 : decode cX4_sailOn 5 = .ok (.dup, 1) := by decide +kernel
theorem dX4_sailOn_6 : decode cX4_sailOn 6 = .ok (.getfield 27, 3) := by decide +kernel
theorem dX4_sailOn_9 : decode cX4_sailOn 9 = .ok (.iconst 1, 1) := by decide +kernel
theorem dX4_sailOn_10 : decode cX4_sailOn 10 = .ok (.iadd, 1) := by decide +kernel
theorem dX4_sailOn_11 : decode cX4_sailOn 11 = .ok (.putfield 27, 3) := by decide +kernel
theorem dX4_sailOn_14 : decode cX4_sailOn 14 = .ok (.aload_n 0, 1) := by decide +kernel
theorem dX4_sailOn_15 : decode cX4_sailOn 15 = .ok (.iconst 0, 1) := by decide +kernel
theorem dX4_sailOn_16 : decode cX4_sailOn 16 = .ok (.aload_n 0, 1) := by decide +kernel
theorem dX4_sailOn_17 : decode cX4_sailOn 17 = .ok (.getfield 20, 3) := by decide +kernel
theorem dX4_sailOn_20 : decode cX4_sailOn 20 = .ok (.iconst 1, 1) := by decide +kernel
theorem dX4_sailOn_21 : decode cX4_sailOn 21 = .ok (.isub, 1) := by decide +kernel
theorem dX4_sailOn_22 : decode cX4_sailOn 22 = .ok (.invokestatic 50, 3) := by decide +kernel
theorem dX4_sailOn_25 : decode cX4_sailOn 25 = .ok (.putfield 20, 3) := by decide +kernel
theorem dX4_sailOn_28 : decode cX4_sailOn 28 = .ok (.goto 8, 3) := by decide +kernel
theorem dX4_sailOn_31 : decode cX4_sailOn 31 = .ok (.aload_n 0, 1) := by decide +kernel
theorem dX4_sailOn_32 : decode cX4_sailOn 32 = .ok (.iconst 1, 1) := by decide +kernel
theorem dX4_sailOn_33 : decode cX4_sailOn 33 = .ok (.putfield 30, 3) := by decide +kernel
theorem dX4_sailOn_36 : decode cX4_sailOn 36 = .ok (.return_, 1) := by decide +kernel
theorem dX4_lentBy_0 : decode cX4_lentBy 0 = .ok (.iconst 0, 1) := by decide +kernel
theorem dX4_lentBy_1 : decode cX4_lentBy 1 = .ok (.istore_n 2, 1) := by decide +kernel
theorem dX4_lentBy_2 : decode cX4_lentBy 2 = .ok (.iconst 0, 1) := by decide +kernel
theorem dX4_lentBy_3 : decode cX4_lentBy 3 = .ok (.istore_n 3, 1) := by decide +kernel
theorem dX4_lentBy_4 : decode cX4_lentBy 4 = .ok (.iload_n 3, 1) := by decide +kernel
theorem dX4_lentBy_5 : decode cX4_lentBy 5 = .ok (.aload_n 0, 1) := by decide +kernel
theorem dX4_lentBy_6 : decode cX4_lentBy 6 = .ok (.getfield 14, 3) := by decide +kernel
theorem dX4_lentBy_9 : decode cX4_lentBy 9 = .ok (.invokevirtual 55, 3) := by decide +kernel
theorem dX4_lentBy_12 : decode cX4_lentBy 12 = .ok (.if_icmp .ge 38, 3) := by decide +kernel
theorem dX4_lentBy_15 : decode cX4_lentBy 15 = .ok (.iload_n 2, 1) := by decide +kernel
theorem dX4_lentBy_16 : decode cX4_lentBy 16 = .ok (.aload_n 0, 1) := by decide +kernel
theorem dX4_lentBy_17 : decode cX4_lentBy 17 = .ok (.getfield 14, 3) := by decide +kernel
theorem dX4_lentBy_20 : decode cX4_lentBy 20 = .ok (.iload_n 3, 1) := by decide +kernel
theorem dX4_lentBy_21 : decode cX4_lentBy 21 = .ok (.iconst 0, 1) := by decide +kernel
theorem dX4_lentBy_22 : decode cX4_lentBy 22 = .ok (.invokevirtual 42, 3) := by decide +kernel
theorem dX4_lentBy_25 : decode cX4_lentBy 25 = .ok (.iload_n 1, 1) := by decide +kernel
theorem dX4_lentBy_26 : decode cX4_lentBy 26 = .ok (.if_icmp .ne 15, 3) := by decide +kernel
theorem dX4_lentBy_29 : decode cX4_lentBy 29 = .ok (.aload_n 0, 1) := by decide +kernel
theorem dX4_lentBy_30 : decode cX4_lentBy 30 = .ok (.getfield 14, 3) := by decide +kernel
theorem dX4_lentBy_33 : decode cX4_lentBy 33 = .ok (.iload_n 3, 1) := by decide +kernel
theorem dX4_lentBy_34 : decode cX4_lentBy 34 = .ok (.iconst 1, 1) := by decide +kernel
theorem dX4_lentBy_35 : decode cX4_lentBy 35 = .ok (.invokevirtual 42, 3) := by decide +kernel
theorem dX4_lentBy_38 : decode cX4_lentBy 38 = .ok (.goto 4, 3) := by decide +kernel
theorem dX4_lentBy_41 : decode cX4_lentBy 41 = .ok (.iconst 0, 1) := by decide +kernel
theorem dX4_lentBy_42 : decode cX4_lentBy 42 = .ok (.iadd, 1) := by decide +kernel
theorem dX4_lentBy_43 : decode cX4_lentBy 43 = .ok (.istore_n 2, 1) := by decide +kernel
theorem dX4_lentBy_44 : decode cX4_lentBy 44 = .ok (.iinc 3 1, 3) := by decide +kernel
theorem dX4_lentBy_47 : decode cX4_lentBy 47 = .ok (.goto (-43), 3) := by decide +kernel
theorem dX4_lentBy_50 : decode cX4_lentBy 50 = .ok (.iload_n 2, 1) := by decide +kernel
theorem dX4_lentBy_51 : decode cX4_lentBy 51 = .ok (.ireturn, 1) := by decide +kernel
theorem dX4_dueFrom_0 : decode cX4_dueFrom 0 = .ok (.iconst 0, 1) := by decide +kernel
theorem dX4_dueFrom_1 : decode cX4_dueFrom 1 = .ok (.istore_n 3, 1) := by decide +kernel
theorem dX4_dueFrom_2 : decode cX4_dueFrom 2 = .ok (.iload_n 1, 1) := by decide +kernel
theorem dX4_dueFrom_3 : decode cX4_dueFrom 3 = .ok (.istore 4, 2) := by decide +kernel
theorem dX4_dueFrom_5 : decode cX4_dueFrom 5 = .ok (.iload 4, 2) := by decide +kernel
theorem dX4_dueFrom_7 : decode cX4_dueFrom 7 = .ok (.aload_n 0, 1) := by decide +kernel
theorem dX4_dueFrom_8 : decode cX4_dueFrom 8 = .ok (.getfield 14, 3) := by decide +kernel
theorem dX4_dueFrom_11 : decode cX4_dueFrom 11 = .ok (.invokevirtual 55, 3) := by decide +kernel
theorem dX4_dueFrom_14 : decode cX4_dueFrom 14 = .ok (.if_icmp .ge 40, 3) := by decide +kernel
theorem dX4_dueFrom_17 : decode cX4_dueFrom 17 = .ok (.iload_n 3, 1) := by decide +kernel
theorem dX4_dueFrom_18 : decode cX4_dueFrom 18 = .ok (.aload_n 0, 1) := by decide +kernel
theorem dX4_dueFrom_19 : decode cX4_dueFrom 19 = .ok (.getfield 14, 3) := by decide +kernel
theorem dX4_dueFrom_22 : decode cX4_dueFrom 22 = .ok (.iload 4, 2) := by decide +kernel
theorem dX4_dueFrom_24 : decode cX4_dueFrom 24 = .ok (.iconst 2, 1) := by decide +kernel
theorem dX4_dueFrom_25 : decode cX4_dueFrom 25 = .ok (.invokevirtual 42, 3) := by decide +kernel
theorem dX4_dueFrom_28 : decode cX4_dueFrom 28 = .ok (.iload_n 2, 1) := by decide +kernel
theorem dX4_dueFrom_29 : decode cX4_dueFrom 29 = .ok (.if_icmp .ne 16, 3) := by decide +kernel
theorem dX4_dueFrom_32 : decode cX4_dueFrom 32 = .ok (.aload_n 0, 1) := by decide +kernel
theorem dX4_dueFrom_33 : decode cX4_dueFrom 33 = .ok (.getfield 14, 3) := by decide +kernel
theorem dX4_dueFrom_36 : decode cX4_dueFrom 36 = .ok (.iload 4, 2) := by decide +kernel
theorem dX4_dueFrom_38 : decode cX4_dueFrom 38 = .ok (.iconst 3, 1) := by decide +kernel
theorem dX4_dueFrom_39 : decode cX4_dueFrom 39 = .ok (.invokevirtual 42, 3) := by decide +kernel
theorem dX4_dueFrom_42 : decode cX4_dueFrom 42 = .ok (.goto 4, 3) := by decide +kernel
theorem dX4_dueFrom_45 : decode cX4_dueFrom 45 = .ok (.iconst 0, 1) := by decide +kernel
theorem dX4_dueFrom_46 : decode cX4_dueFrom 46 = .ok (.iadd, 1) := by decide +kernel
theorem dX4_dueFrom_47 : decode cX4_dueFrom 47 = .ok (.istore_n 3, 1) := by decide +kernel
theorem dX4_dueFrom_48 : decode cX4_dueFrom 48 = .ok (.iinc 4 1, 3) := by decide +kernel
theorem dX4_dueFrom_51 : decode cX4_dueFrom 51 = .ok (.goto (-46), 3) := by decide +kernel
theorem dX4_dueFrom_54 : decode cX4_dueFrom 54 = .ok (.iload_n 3, 1) := by decide +kernel
theorem dX4_dueFrom_55 : decode cX4_dueFrom 55 = .ok (.ireturn, 1) := by decide +kernel
theorem dX4_rankOf_0 : decode cX4_rankOf 0 = .ok (.aload_n 0, 1) := by decide +kernel
theorem dX4_rankOf_1 : decode cX4_rankOf 1 = .ok (.getfield 14, 3) := by decide +kernel
theorem dX4_rankOf_4 : decode cX4_rankOf 4 = .ok (.iload_n 1, 1) := by decide +kernel
theorem dX4_rankOf_5 : decode cX4_rankOf 5 = .ok (.iconst 2, 1) := by decide +kernel
theorem dX4_rankOf_6 : decode cX4_rankOf 6 = .ok (.invokevirtual 42, 3) := by decide +kernel
theorem dX4_rankOf_9 : decode cX4_rankOf 9 = .ok (.istore_n 2, 1) := by decide +kernel
theorem dX4_rankOf_10 : decode cX4_rankOf 10 = .ok (.iload_n 2, 1) := by decide +kernel
theorem dX4_rankOf_11 : decode cX4_rankOf 11 = .ok (.ifCond .ne 12, 3) := by decide +kernel
theorem dX4_rankOf_14 : decode cX4_rankOf 14 = .ok (.aload_n 0, 1) := by decide +kernel
theorem dX4_rankOf_15 : decode cX4_rankOf 15 = .ok (.iconst 0, 1) := by decide +kernel
theorem dX4_rankOf_16 : decode cX4_rankOf 16 = .ok (.iconst 1, 1) := by decide +kernel
theorem dX4_rankOf_17 : decode cX4_rankOf 17 = .ok (.invokevirtual 59, 3) := by decide +kernel
theorem dX4_rankOf_20 : decode cX4_rankOf 20 = .ok (.goto 4, 3) := by decide +kernel
theorem dX4_rankOf_23 : decode cX4_rankOf 23 = .ok (.iconst 0, 1) := by decide +kernel
theorem dX4_rankOf_24 : decode cX4_rankOf 24 = .ok (.istore_n 3, 1) := by decide +kernel
theorem dX4_rankOf_25 : decode cX4_rankOf 25 = .ok (.iload_n 3, 1) := by decide +kernel
theorem dX4_rankOf_26 : decode cX4_rankOf 26 = .ok (.aload_n 0, 1) := by decide +kernel
theorem dX4_rankOf_27 : decode cX4_rankOf 27 = .ok (.iload_n 1, 1) := by decide +kernel
theorem dX4_rankOf_28 : decode cX4_rankOf 28 = .ok (.iconst 1, 1) := by decide +kernel
theorem dX4_rankOf_29 : decode cX4_rankOf 29 = .ok (.iadd, 1) := by decide +kernel
theorem dX4_rankOf_30 : decode cX4_rankOf 30 = .ok (.iload_n 2, 1) := by decide +kernel
theorem dX4_rankOf_31 : decode cX4_rankOf 31 = .ok (.invokevirtual 59, 3) := by decide +kernel
theorem dX4_rankOf_34 : decode cX4_rankOf 34 = .ok (.iadd, 1) := by decide +kernel
theorem dX4_rankOf_35 : decode cX4_rankOf 35 = .ok (.ireturn, 1) := by decide +kernel
theorem dX4_paidOf_0 : decode cX4_paidOf 0 = .ok (.aload_n 0, 1) := by decide +kernel
theorem dX4_paidOf_1 : decode cX4_paidOf 1 = .ok (.getfield 14, 3) := by decide +kernel
theorem dX4_paidOf_4 : decode cX4_paidOf 4 = .ok (.iload_n 1, 1) := by decide +kernel
theorem dX4_paidOf_5 : decode cX4_paidOf 5 = .ok (.iconst 2, 1) := by decide +kernel
theorem dX4_paidOf_6 : decode cX4_paidOf 6 = .ok (.invokevirtual 42, 3) := by decide +kernel
theorem dX4_paidOf_9 : decode cX4_paidOf 9 = .ok (.istore 4, 2) := by decide +kernel
theorem dX4_paidOf_11 : decode cX4_paidOf 11 = .ok (.iload 4, 2) := by decide +kernel
theorem dX4_paidOf_13 : decode cX4_paidOf 13 = .ok (.iconst 1, 1) := by decide +kernel
theorem dX4_paidOf_14 : decode cX4_paidOf 14 = .ok (.if_icmp .ne 7, 3) := by decide +kernel
theorem dX4_paidOf_17 : decode cX4_paidOf 17 = .ok (.iload_n 3, 1) := by decide +kernel
theorem dX4_paidOf_18 : decode cX4_paidOf 18 = .ok (.goto 4, 3) := by decide +kernel
theorem dX4_paidOf_21 : decode cX4_paidOf 21 = .ok (.iload_n 2, 1) := by decide +kernel
theorem dX4_paidOf_22 : decode cX4_paidOf 22 = .ok (.istore 5, 2) := by decide +kernel
theorem dX4_paidOf_24 : decode cX4_paidOf 24 = .ok (.iload 5, 2) := by decide +kernel
theorem dX4_paidOf_26 : decode cX4_paidOf 26 = .ok (.aload_n 0, 1) := by decide +kernel
theorem dX4_paidOf_27 : decode cX4_paidOf 27 = .ok (.iload_n 1, 1) := by decide +kernel
theorem dX4_paidOf_28 : decode cX4_paidOf 28 = .ok (.iconst 1, 1) := by decide +kernel
theorem dX4_paidOf_29 : decode cX4_paidOf 29 = .ok (.iadd, 1) := by decide +kernel
theorem dX4_paidOf_30 : decode cX4_paidOf 30 = .ok (.iload 4, 2) := by decide +kernel
theorem dX4_paidOf_32 : decode cX4_paidOf 32 = .ok (.invokevirtual 62, 3) := by decide +kernel
theorem dX4_paidOf_35 : decode cX4_paidOf 35 = .ok (.isub, 1) := by decide +kernel
theorem dX4_paidOf_36 : decode cX4_paidOf 36 = .ok (.istore 6, 2) := by decide +kernel
theorem dX4_paidOf_38 : decode cX4_paidOf 38 = .ok (.iconst 0, 1) := by decide +kernel
theorem dX4_paidOf_39 : decode cX4_paidOf 39 = .ok (.iload 6, 2) := by decide +kernel
theorem dX4_paidOf_41 : decode cX4_paidOf 41 = .ok (.aload_n 0, 1) := by decide +kernel
theorem dX4_paidOf_42 : decode cX4_paidOf 42 = .ok (.getfield 14, 3) := by decide +kernel
theorem dX4_paidOf_45 : decode cX4_paidOf 45 = .ok (.iload_n 1, 1) := by decide +kernel
theorem dX4_paidOf_46 : decode cX4_paidOf 46 = .ok (.iconst 3, 1) := by decide +kernel
theorem dX4_paidOf_47 : decode cX4_paidOf 47 = .ok (.invokevirtual 42, 3) := by decide +kernel
theorem dX4_paidOf_50 : decode cX4_paidOf 50 = .ok (.invokestatic 65, 3) := by decide +kernel
theorem dX4_paidOf_53 : decode cX4_paidOf 53 = .ok (.invokestatic 50, 3) := by decide +kernel
theorem dX4_paidOf_56 : decode cX4_paidOf 56 = .ok (.ireturn, 1) := by decide +kernel
theorem dX4_countFrom_0 : decode cX4_countFrom 0 = .ok (.iconst 0, 1) := by decide +kernel
theorem dX4_countFrom_1 : decode cX4_countFrom 1 = .ok (.istore_n 3, 1) := by decide +kernel
theorem dX4_countFrom_2 : decode cX4_countFrom 2 = .ok (.iload_n 1, 1) := by decide +kernel
theorem dX4_countFrom_3 : decode cX4_countFrom 3 = .ok (.istore 4, 2) := by decide +kernel
theorem dX4_countFrom_5 : decode cX4_countFrom 5 = .ok (.iload 4, 2) := by decide +kernel
theorem dX4_countFrom_7 : decode cX4_countFrom 7 = .ok (.aload_n 0, 1) := by decide +kernel
theorem dX4_countFrom_8 : decode cX4_countFrom 8 = .ok (.getfield 14, 3) := by decide +kernel
theorem dX4_countFrom_11 : decode cX4_countFrom 11 = .ok (.invokevirtual 55, 3) := by decide +kernel
theorem dX4_countFrom_14 : decode cX4_countFrom 14 = .ok (.if_icmp .ge 31, 3) := by decide +kernel
theorem dX4_countFrom_17 : decode cX4_countFrom 17 = .ok (.iload_n 3, 1) := by decide +kernel
theorem dX4_countFrom_18 : decode cX4_countFrom 18 = .ok (.aload_n 0, 1) := by decide +kernel
theorem dX4_countFrom_19 : decode cX4_countFrom 19 = .ok (.getfield 14, 3) := by decide +kernel
theorem dX4_countFrom_22 : decode cX4_countFrom 22 = .ok (.iload 4, 2) := by decide +kernel
theorem dX4_countFrom_24 : decode cX4_countFrom 24 = .ok (.iconst 2, 1) := by decide +kernel
theorem dX4_countFrom_25 : decode cX4_countFrom 25 = .ok (.invokevirtual 42, 3) := by decide +kernel
theorem dX4_countFrom_28 : decode cX4_countFrom 28 = .ok (.iload_n 2, 1) := by decide +kernel
theorem dX4_countFrom_29 : decode cX4_countFrom 29 = .ok (.if_icmp .ne 7, 3) := by decide +kernel
theorem dX4_countFrom_32 : decode cX4_countFrom 32 = .ok (.iconst 1, 1) := by decide +kernel
theorem dX4_countFrom_33 : decode cX4_countFrom 33 = .ok (.goto 4, 3) := by decide +kernel
theorem dX4_countFrom_36 : decode cX4_countFrom 36 = .ok (.iconst 0, 1) := by decide +kernel
theorem dX4_countFrom_37 : decode cX4_countFrom 37 = .ok (.iadd, 1) := by decide +kernel
theorem dX4_countFrom_38 : decode cX4_countFrom 38 = .ok (.istore_n 3, 1) := by decide +kernel
theorem dX4_countFrom_39 : decode cX4_countFrom 39 = .ok (.iinc 4 1, 3) := by decide +kernel
theorem dX4_countFrom_42 : decode cX4_countFrom 42 = .ok (.goto (-37), 3) := by decide +kernel
theorem dX4_countFrom_45 : decode cX4_countFrom 45 = .ok (.iload_n 3, 1) := by decide +kernel
theorem dX4_countFrom_46 : decode cX4_countFrom 46 = .ok (.ireturn, 1) := by decide +kernel
theorem dX5_init_0 : decode cX5_init 0 = .ok (.aload_n 0, 1) := by decide +kernel
theorem dX5_init_1 : decode cX5_init 1 = .ok (.invokespecial 3, 3) := by decide +kernel
theorem dX5_init_4 : decode cX5_init 4 = .ok (.aload_n 0, 1) := by decide +kernel
theorem dX5_init_5 : decode cX5_init 5 = .ok (.iconst 0, 1) := by decide +kernel
theorem dX5_init_6 : decode cX5_init 6 = .ok (.putfield 9, 3) := by decide +kernel
theorem dX5_init_9 : decode cX5_init 9 = .ok (.aload_n 0, 1) := by decide +kernel
theorem dX5_init_10 : decode cX5_init 10 = .ok (.iload_n 1, 1) := by decide +kernel
theorem dX5_init_11 : decode cX5_init 11 = .ok (.putfield 15, 3) := by decide +kernel
theorem dX5_init_14 : decode cX5_init 14 = .ok (.aload_n 0, 1) := by decide +kernel
theorem dX5_init_15 : decode cX5_init 15 = .ok (.iload_n 2, 1) := by decide +kernel
theorem dX5_init_16 : decode cX5_init 16 = .ok (.putfield 18, 3) := by decide +kernel
theorem dX5_init_19 : decode cX5_init 19 = .ok (.aload_n 0, 1) := by decide +kernel
theorem dX5_init_20 : decode cX5_init 20 = .ok (.iconst 0, 1) := by decide +kernel
theorem dX5_init_21 : decode cX5_init 21 = .ok (.iload_n 1, 1) := by decide +kernel
theorem dX5_init_22 : decode cX5_init 22 = .ok (.iload_n 2, 1) := by decide +kernel
theorem dX5_init_23 : decode cX5_init 23 = .ok (.imul, 1) := by decide +kernel
theorem dX5_init_24 : decode cX5_init 24 = .ok (.invokestatic 21, 3) := by decide +kernel
theorem dX5_init_27 : decode cX5_init 27 = .ok (.newarray .int, 2) := by decide +kernel
theorem dX5_init_29 : decode cX5_init 29 = .ok (.putfield 27, 3) := by decide +kernel
theorem dX5_init_32 : decode cX5_init 32 = .ok (.return_, 1) := by decide +kernel
theorem dX5_width_0 : decode cX5_width 0 = .ok (.aload_n 0, 1) := by decide +kernel
theorem dX5_width_1 : decode cX5_width 1 = .ok (.getfield 15, 3) := by decide +kernel
theorem dX5_width_4 : decode cX5_width 4 = .ok (.ireturn, 1) := by decide +kernel
theorem dX5_rows_0 : decode cX5_rows 0 = .ok (.aload_n 0, 1) := by decide +kernel
theorem dX5_rows_1 : decode cX5_rows 1 = .ok (.getfield 9, 3) := by decide +kernel
theorem dX5_rows_4 : decode cX5_rows 4 = .ok (.ireturn, 1) := by decide +kernel
theorem dX5_has_0 : decode cX5_has 0 = .ok (.iload_n 1, 1) := by decide +kernel
theorem dX5_has_1 : decode cX5_has 1 = .ok (.ifCond .lt 15, 3) := by decide +kernel
theorem dX5_has_4 : decode cX5_has 4 = .ok (.iload_n 1, 1) := by decide +kernel
theorem dX5_has_5 : decode cX5_has 5 = .ok (.aload_n 0, 1) := by decide +kernel
theorem dX5_has_6 : decode cX5_has 6 = .ok (.getfield 9, 3) := by decide +kernel
theorem dX5_has_9 : decode cX5_has 9 = .ok (.if_icmp .ge 7, 3) := by decide +kernel
theorem dX5_has_12 : decode cX5_has 12 = .ok (.iconst 1, 1) := by decide +kernel
theorem dX5_has_13 : decode cX5_has 13 = .ok (.goto 4, 3) := by decide +kernel
theorem dX5_has_16 : decode cX5_has 16 = .ok (.iconst 0, 1) := by decide +kernel
theorem dX5_has_17 : decode cX5_has 17 = .ok (.ireturn, 1) := by decide +kernel
theorem dX5_isFull_0 : decode cX5_isFull 0 = .ok (.aload_n 0, 1) := by decide +kernel
theorem dX5_isFull_1 : decode cX5_isFull 1 = .ok (.getfield 9, 3) := by decide +kernel
theorem dX5_isFull_4 : decode cX5_isFull 4 = .ok (.aload_n 0, 1) := by decide +kernel
theorem dX5_isFull_5 : decode cX5_isFull 5 = .ok (.getfield 18, 3) := by decide +kernel
theorem dX5_isFull_8 : decode cX5_isFull 8 = .ok (.if_icmp .lt 7, 3) := by decide +kernel
theorem dX5_isFull_11 : decode cX5_isFull 11 = .ok (.iconst 1, 1) := by decide +kernel
theorem dX5_isFull_12 : decode cX5_isFull 12 = .ok (.goto 4, 3) := by decide +kernel
theorem dX5_isFull_15 : decode cX5_isFull 15 = .ok (.iconst 0, 1) := by decide +kernel
theorem dX5_isFull_16 : decode cX5_isFull 16 = .ok (.ireturn, 1) := by decide +kernel
theorem dX5_clear_0 : decode cX5_clear 0 = .ok (.aload_n 0, 1) := by decide +kernel
theorem dX5_clear_1 : decode cX5_clear 1 = .ok (.iconst 0, 1) := by decide +kernel
theorem dX5_clear_2 : decode cX5_clear 2 = .ok (.putfield 9, 3) := by decide +kernel
theorem dX5_clear_5 : decode cX5_clear 5 = .ok (.return_, 1) := by decide +kernel
theorem dX5_get_0 : decode cX5_get 0 = .ok (.aload_n 0, 1) := by decide +kernel
theorem dX5_get_1 : decode cX5_get 1 = .ok (.iload_n 1, 1) := by decide +kernel
theorem dX5_get_2 : decode cX5_get 2 = .ok (.iload_n 2, 1) := by decide +kernel
theorem dX5_get_3 : decode cX5_get 3 = .ok (.invokevirtual 31, 3) := by decide +kernel
theorem dX5_get_6 : decode cX5_get 6 = .ok (.istore_n 3, 1) := by decide +kernel
theorem dX5_get_7 : decode cX5_get 7 = .ok (.iload_n 3, 1) := by decide +kernel
theorem dX5_get_8 : decode cX5_get 8 = .ok (.ifCond .lt 21, 3) := by decide +kernel
theorem dX5_get_11 : decode cX5_get 11 = .ok (.iload_n 3, 1) := by decide +kernel
theorem dX5_get_12 : decode cX5_get 12 = .ok (.aload_n 0, 1) := by decide +kernel
theorem dX5_get_13 : decode cX5_get 13 = .ok (.getfield 27, 3) := by decide +kernel
theorem dX5_get_16 : decode cX5_get 16 = .ok (.arraylength, 1) := by decide +kernel
theorem dX5_get_17 : decode cX5_get 17 = .ok (.if_icmp .ge 12, 3) := by decide +kernel
theorem dX5_get_20 : decode cX5_get 20 = .ok (.aload_n 0, 1) := by decide +kernel
theorem dX5_get_21 : decode cX5_get 21 = .ok (.getfield 27, 3) := by decide +kernel
theorem dX5_get_24 : decode cX5_get 24 = .ok (.iload_n 3, 1) := by decide +kernel
theorem dX5_get_25 : decode cX5_get 25 = .ok (.iaload, 1) := by decide +kernel
theorem dX5_get_26 : decode cX5_get 26 = .ok (.goto 4, 3) := by decide +kernel
theorem dX5_get_29 : decode cX5_get 29 = .ok (.iconst 0, 1) := by decide +kernel
theorem dX5_get_30 : decode cX5_get 30 = .ok (.ireturn, 1) := by decide +kernel
theorem dX5_set_0 : decode cX5_set 0 = .ok (.aload_n 0, 1) := by decide +kernel
theorem dX5_set_1 : decode cX5_set 1 = .ok (.iload_n 1, 1) := by decide +kernel
theorem dX5_set_2 : decode cX5_set 2 = .ok (.iload_n 2, 1) := by decide +kernel
theorem dX5_set_3 : decode cX5_set 3 = .ok (.invokevirtual 31, 3) := by decide +kernel
theorem dX5_set_6 : decode cX5_set 6 = .ok (.istore 4, 2) := by decide +kernel
theorem dX5_set_8 : decode cX5_set 8 = .ok (.iload 4, 2) := by decide +kernel
theorem dX5_set_10 : decode cX5_set 10 = .ok (.ifCond .lt 21, 3) := by decide +kernel
theorem dX5_set_13 : decode cX5_set 13 = .ok (.iload 4, 2) := by decide +kernel
theorem dX5_set_15 : decode cX5_set 15 = .ok (.aload_n 0, 1) := by decide +kernel
theorem dX5_set_16 : decode cX5_set 16 = .ok (.getfield 27, 3) := by decide +kernel
theorem dX5_set_19 : decode cX5_set 19 = .ok (.arraylength, 1) := by decide +kernel
theorem dX5_set_20 : decode cX5_set 20 = .ok (.if_icmp .ge 11, 3) := by decide +kernel
theorem dX5_set_23 : decode cX5_set 23 = .ok (.aload_n 0, 1) := by decide +kernel
theorem dX5_set_24 : decode cX5_set 24 = .ok (.getfield 27, 3) := by decide +kernel
theorem dX5_set_27 : decode cX5_set 27 = .ok (.iload 4, 2) := by decide +kernel
theorem dX5_set_29 : decode cX5_set 29 = .ok (.iload_n 3, 1) := by decide +kernel
theorem dX5_set_30 : decode cX5_set 30 = .ok (.iastore, 1) := by decide +kernel
theorem dX5_set_31 : decode cX5_set 31 = .ok (.return_, 1) := by decide +kernel
theorem dX5_open_0 : decode cX5_open 0 = .ok (.aload_n 0, 1) := by decide +kernel
theorem dX5_open_1 : decode cX5_open 1 = .ok (.invokevirtual 34, 3) := by decide +kernel
theorem dX5_open_4 : decode cX5_open 4 = .ok (.ifCond .eq 5, 3) := by decide +kernel
theorem dX5_open_7 : decode cX5_open 7 = .ok (.iconst (-1), 1) := by decide +kernel
theorem dX5_open_8 : decode cX5_open 8 = .ok (.ireturn, 1) := by decide +kernel
theorem dX5_open_9 : decode cX5_open 9 = .ok (.aload_n 0, 1) := by decide +kernel
theorem dX5_open_10 : decode cX5_open 10 = .ok (.dup, 1) := by decide +kernel
theorem dX5_open_11 : decode cX5_open 11 = .ok (.getfield 9, 3) := by decide +kernel
theorem dX5_open_14 : decode cX5_open 14 = .ok (.iconst 1, 1) := by decide +kernel
theorem dX5_open_15 : decode cX5_open 15 = .ok (.iadd, 1) := by decide +kernel
theorem dX5_open_16 : decode cX5_open 16 = .ok (.putfield 9, 3) := by decide +kernel
theorem dX5_open_19 : decode cX5_open 19 = .ok (.aload_n 0, 1) := by decide +kernel
theorem dX5_open_20 : decode cX5_open 20 = .ok (.getfield 9, 3) := by decide +kernel
theorem dX5_open_23 : decode cX5_open 23 = .ok (.iconst 1, 1) := by decide +kernel
theorem dX5_open_24 : decode cX5_open 24 = .ok (.isub, 1) := by decide +kernel
theorem dX5_open_25 : decode cX5_open 25 = .ok (.ireturn, 1) := by decide +kernel
theorem dX5_add_0 : decode cX5_add 0 = .ok (.aload_n 0, 1) := by decide +kernel
theorem dX5_add_1 : decode cX5_add 1 = .ok (.aload_n 0, 1) := by decide +kernel
theorem dX5_add_2 : decode cX5_add 2 = .ok (.invokevirtual 38, 3) := by decide +kernel
theorem dX5_add_5 : decode cX5_add 5 = .ok (.iconst 0, 1) := by decide +kernel
theorem dX5_add_6 : decode cX5_add 6 = .ok (.iload_n 1, 1) := by decide +kernel
theorem dX5_add_7 : decode cX5_add 7 = .ok (.invokevirtual 42, 3) := by decide +kernel
theorem dX5_add_10 : decode cX5_add 10 = .ok (.return_, 1) := by decide +kernel
theorem dX5_become_0 : decode cX5_become 0 = .ok (.aload_n 0, 1) := by decide +kernel
theorem dX5_become_1 : decode cX5_become 1 = .ok (.aload_n 1, 1) := by decide +kernel
theorem dX5_become_2 : decode cX5_become 2 = .ok (.getfield 9, 3) := by decide +kernel
theorem dX5_become_5 : decode cX5_become 5 = .ok (.aload_n 0, 1) := by decide +kernel
theorem dX5_become_6 : decode cX5_become 6 = .ok (.getfield 18, 3) := by decide +kernel
theorem dX5_become_9 : decode cX5_become 9 = .ok (.invokestatic 46, 3) := by decide +kernel
theorem dX5_become_12 : decode cX5_become 12 = .ok (.putfield 9, 3) := by decide +kernel
theorem dX5_become_15 : decode cX5_become 15 = .ok (.aload_n 1, 1) := by decide +kernel
theorem dX5_become_16 : decode cX5_become 16 = .ok (.getfield 27, 3) := by decide +kernel
theorem dX5_become_19 : decode cX5_become 19 = .ok (.iconst 0, 1) := by decide +kernel
theorem dX5_become_20 : decode cX5_become 20 = .ok (.aload_n 0, 1) := by decide +kernel
theorem dX5_become_21 : decode cX5_become 21 = .ok (.getfield 27, 3) := by decide +kernel
theorem dX5_become_24 : decode cX5_become 24 = .ok (.iconst 0, 1) := by decide +kernel
theorem dX5_become_25 : decode cX5_become 25 = .ok (.aload_n 1, 1) := by decide +kernel
theorem dX5_become_26 : decode cX5_become 26 = .ok (.getfield 27, 3) := by decide +kernel
theorem dX5_become_29 : decode cX5_become 29 = .ok (.arraylength, 1) := by decide +kernel
theorem dX5_become_30 : decode cX5_become 30 = .ok (.aload_n 0, 1) := by decide +kernel
theorem dX5_become_31 : decode cX5_become 31 = .ok (.getfield 27, 3) := by decide +kernel
theorem dX5_become_34 : decode cX5_become 34 = .ok (.arraylength, 1) := by decide +kernel
theorem dX5_become_35 : decode cX5_become 35 = .ok (.invokestatic 46, 3) := by decide +kernel
theorem dX5_become_38 : decode cX5_become 38 = .ok (.invokestatic 49, 3) := by decide +kernel
theorem dX5_become_41 : decode cX5_become 41 = .ok (.return_, 1) := by decide +kernel
theorem dX5_cellOf_0 : decode cX5_cellOf 0 = .ok (.iload_n 1, 1) := by decide +kernel
theorem dX5_cellOf_1 : decode cX5_cellOf 1 = .ok (.ifCond .lt 27, 3) := by decide +kernel
theorem dX5_cellOf_4 : decode cX5_cellOf 4 = .ok (.iload_n 1, 1) := by decide +kernel
theorem dX5_cellOf_5 : decode cX5_cellOf 5 = .ok (.aload_n 0, 1) := by decide +kernel
theorem dX5_cellOf_6 : decode cX5_cellOf 6 = .ok (.getfield 9, 3) := by decide +kernel
theorem dX5_cellOf_9 : decode cX5_cellOf 9 = .ok (.if_icmp .ge 19, 3) := by decide +kernel
theorem dX5_cellOf_12 : decode cX5_cellOf 12 = .ok (.iload_n 2, 1) := by decide +kernel
theorem dX5_cellOf_13 : decode cX5_cellOf 13 = .ok (.ifCond .lt 15, 3) := by decide +kernel
theorem dX5_cellOf_16 : decode cX5_cellOf 16 = .ok (.iload_n 2, 1) := by decide +kernel
theorem dX5_cellOf_17 : decode cX5_cellOf 17 = .ok (.aload_n 0, 1) := by decide +kernel
theorem dX5_cellOf_18 : decode cX5_cellOf 18 = .ok (.getfield 15, 3) := by decide +kernel
theorem dX5_cellOf_21 : decode cX5_cellOf 21 = .ok (.if_icmp .ge 7, 3) := by decide +kernel
theorem dX5_cellOf_24 : decode cX5_cellOf 24 = .ok (.iconst 1, 1) := by decide +kernel
theorem dX5_cellOf_25 : decode cX5_cellOf 25 = .ok (.goto 4, 3) := by decide +kernel
theorem dX5_cellOf_28 : decode cX5_cellOf 28 = .ok (.iconst 0, 1) := by decide +kernel
theorem dX5_cellOf_29 : decode cX5_cellOf 29 = .ok (.istore_n 3, 1) := by decide +kernel
theorem dX5_cellOf_30 : decode cX5_cellOf 30 = .ok (.iload_n 3, 1) := by decide +kernel
theorem dX5_cellOf_31 : decode cX5_cellOf 31 = .ok (.ifCond .eq 14, 3) := by decide +kernel
theorem dX5_cellOf_34 : decode cX5_cellOf 34 = .ok (.iload_n 1, 1) := by decide +kernel
theorem dX5_cellOf_35 : decode cX5_cellOf 35 = .ok (.aload_n 0, 1) := by decide +kernel
theorem dX5_cellOf_36 : decode cX5_cellOf 36 = .ok (.getfield 15, 3) := by decide +kernel
theorem dX5_cellOf_39 : decode cX5_cellOf 39 = .ok (.imul, 1) := by decide +kernel
theorem dX5_cellOf_40 : decode cX5_cellOf 40 = .ok (.iload_n 2, 1) := by decide +kernel
theorem dX5_cellOf_41 : decode cX5_cellOf 41 = .ok (.iadd, 1) := by decide +kernel
theorem dX5_cellOf_42 : decode cX5_cellOf 42 = .ok (.goto 4, 3) := by decide +kernel
theorem dX5_cellOf_45 : decode cX5_cellOf 45 = .ok (.iconst (-1), 1) := by decide +kernel
theorem dX5_cellOf_46 : decode cX5_cellOf 46 = .ok (.ireturn, 1) := by decide +kernel
theorem dX6_init_0 : decode cX6_init 0 = .ok (.aload_n 0, 1) := by decide +kernel
theorem dX6_init_1 : decode cX6_init 1 = .ok (.invokespecial 3, 3) := by decide +kernel
theorem dX6_init_4 : decode cX6_init 4 = .ok (.aload_n 0, 1) := by decide +kernel
theorem dX6_init_5 : decode cX6_init 5 = .ok (.new 9, 3) := by decide +kernel
theorem dX6_init_8 : decode cX6_init 8 = .ok (.dup, 1) := by decide +kernel
theorem dX6_init_9 : decode cX6_init 9 = .ok (.iconst 4, 1) := by decide +kernel
theorem dX6_init_10 : decode cX6_init 10 = .ok (.iconst 1, 1) := by decide +kernel
theorem dX6_init_11 : decode cX6_init 11 = .ok (.invokespecial 11, 3) := by decide +kernel
theorem dX6_init_14 : decode cX6_init 14 = .ok (.putfield 14, 3) := by decide +kernel
theorem dX6_init_17 : decode cX6_init 17 = .ok (.aload_n 0, 1) := by decide +kernel
theorem dX6_init_18 : decode cX6_init 18 = .ok (.new 9, 3) := by decide +kernel
theorem dX6_init_21 : decode cX6_init 21 = .ok (.dup, 1) := by decide +kernel
theorem dX6_init_22 : decode cX6_init 22 = .ok (.iconst 3, 1) := by decide +kernel
theorem dX6_init_23 : decode cX6_init 23 = .ok (.bipush 7, 2) := by decide +kernel
theorem dX6_init_25 : decode cX6_init 25 = .ok (.invokespecial 11, 3) := by decide +kernel
theorem dX6_init_28 : decode cX6_init 28 = .ok (.putfield 20, 3) := by decide +kernel
theorem dX6_init_31 : decode cX6_init 31 = .ok (.aload_n 0, 1) := by decide +kernel
theorem dX6_init_32 : decode cX6_init 32 = .ok (.new 9, 3) := by decide +kernel
theorem dX6_init_35 : decode cX6_init 35 = .ok (.dup, 1) := by decide +kernel
theorem dX6_init_36 : decode cX6_init 36 = .ok (.iconst 2, 1) := by decide +kernel
theorem dX6_init_37 : decode cX6_init 37 = .ok (.iconst 5, 1) := by decide +kernel
theorem dX6_init_38 : decode cX6_init 38 = .ok (.invokespecial 11, 3) := by decide +kernel
theorem dX6_init_41 : decode cX6_init 41 = .ok (.putfield 23, 3) := by decide +kernel
theorem dX6_init_44 : decode cX6_init 44 = .ok (.return_, 1) := by decide +kernel
theorem dX6_clear_0 : decode cX6_clear 0 = .ok (.aload_n 0, 1) := by decide +kernel
theorem dX6_clear_1 : decode cX6_clear 1 = .ok (.getfield 14, 3) := by decide +kernel
theorem dX6_clear_4 : decode cX6_clear 4 = .ok (.invokevirtual 26, 3) := by decide +kernel
theorem dX6_clear_7 : decode cX6_clear 7 = .ok (.aload_n 0, 1) := by decide +kernel
theorem dX6_clear_8 : decode cX6_clear 8 = .ok (.getfield 20, 3) := by decide +kernel
theorem dX6_clear_11 : decode cX6_clear 11 = .ok (.invokevirtual 26, 3) := by decide +kernel
theorem dX6_clear_14 : decode cX6_clear 14 = .ok (.aload_n 0, 1) := by decide +kernel
theorem dX6_clear_15 : decode cX6_clear 15 = .ok (.getfield 23, 3) := by decide +kernel
theorem dX6_clear_18 : decode cX6_clear 18 = .ok (.invokevirtual 26, 3) := by decide +kernel
theorem dX6_clear_21 : decode cX6_clear 21 = .ok (.return_, 1) := by decide +kernel
theorem dX6_become_0 : decode cX6_become 0 = .ok (.aload_n 0, 1) := by decide +kernel
theorem dX6_become_1 : decode cX6_become 1 = .ok (.getfield 14, 3) := by decide +kernel
theorem dX6_become_4 : decode cX6_become 4 = .ok (.aload_n 1, 1) := by decide +kernel
theorem dX6_become_5 : decode cX6_become 5 = .ok (.getfield 14, 3) := by decide +kernel
theorem dX6_become_8 : decode cX6_become 8 = .ok (.invokevirtual 29, 3) := by decide +kernel
theorem dX6_become_11 : decode cX6_become 11 = .ok (.aload_n 0, 1) := by decide +kernel
theorem dX6_become_12 : decode cX6_become 12 = .ok (.getfield 20, 3) := by decide +kernel
theorem dX6_become_15 : decode cX6_become 15 = .ok (.aload_n 1, 1) := by decide +kernel
theorem dX6_become_16 : decode cX6_become 16 = .ok (.getfield 20, 3) := by decide +kernel
theorem dX6_become_19 : decode cX6_become 19 = .ok (.invokevirtual 29, 3) := by decide +kernel
theorem dX6_become_22 : decode cX6_become 22 = .ok (.aload_n 0, 1) := by decide +kernel
theorem dX6_become_23 : decode cX6_become 23 = .ok (.getfield 23, 3) := by decide +kernel
theorem dX6_become_26 : decode cX6_become 26 = .ok (.aload_n 1, 1) := by decide +kernel
theorem dX6_become_27 : decode cX6_become 27 = .ok (.getfield 23, 3) := by decide +kernel
theorem dX6_become_30 : decode cX6_become 30 = .ok (.invokevirtual 29, 3) := by decide +kernel
theorem dX6_become_33 : decode cX6_become 33 = .ok (.return_, 1) := by decide +kernel
theorem dX6_oddsOf_0 : decode cX6_oddsOf 0 = .ok (.bipush 9, 2) := by decide +kernel
theorem dX6_oddsOf_2 : decode cX6_oddsOf 2 = .ok (.iload_n 2, 1) := by decide +kernel
theorem dX6_oddsOf_3 : decode cX6_oddsOf 3 = .ok (.isub, 1) := by decide +kernel
theorem dX6_oddsOf_4 : decode cX6_oddsOf 4 = .ok (.istore_n 3, 1) := by decide +kernel
theorem dX6_oddsOf_5 : decode cX6_oddsOf 5 = .ok (.bipush 100, 2) := by decide +kernel
theorem dX6_oddsOf_7 : decode cX6_oddsOf 7 = .ok (.aload_n 0, 1) := by decide +kernel
theorem dX6_oddsOf_8 : decode cX6_oddsOf 8 = .ok (.getfield 20, 3) := by decide +kernel
theorem dX6_oddsOf_11 : decode cX6_oddsOf 11 = .ok (.iload_n 1, 1) := by decide +kernel
theorem dX6_oddsOf_12 : decode cX6_oddsOf 12 = .ok (.iconst 0, 1) := by decide +kernel
theorem dX6_oddsOf_13 : decode cX6_oddsOf 13 = .ok (.invokevirtual 33, 3) := by decide +kernel
theorem dX6_oddsOf_16 : decode cX6_oddsOf 16 = .ok (.aload_n 0, 1) := by decide +kernel
theorem dX6_oddsOf_17 : decode cX6_oddsOf 17 = .ok (.getfield 20, 3) := by decide +kernel
theorem dX6_oddsOf_20 : decode cX6_oddsOf 20 = .ok (.iload_n 1, 1) := by decide +kernel
theorem dX6_oddsOf_21 : decode cX6_oddsOf 21 = .ok (.iconst 1, 1) := by decide +kernel
theorem dX6_oddsOf_22 : decode cX6_oddsOf 22 = .ok (.invokevirtual 33, 3) := by decide +kernel
theorem dX6_oddsOf_25 : decode cX6_oddsOf 25 = .ok (.iload_n 3, 1) := by decide +kernel
theorem dX6_oddsOf_26 : decode cX6_oddsOf 26 = .ok (.imul, 1) := by decide +kernel
theorem dX6_oddsOf_27 : decode cX6_oddsOf 27 = .ok (.iadd, 1) := by decide +kernel
theorem dX6_oddsOf_28 : decode cX6_oddsOf 28 = .ok (.invokestatic 37, 3) := by decide +kernel
theorem dX6_oddsOf_31 : decode cX6_oddsOf 31 = .ok (.ireturn, 1) := by decide +kernel
theorem dX6_comeThrough_0 : decode cX6_comeThrough 0 = .ok (.iload_n 3, 1) := by decide +kernel
theorem dX6_comeThrough_1 : decode cX6_comeThrough 1 = .ok (.bipush 100, 2) := by decide +kernel
theorem dX6_comeThrough_3 : decode cX6_comeThrough 3 = .ok (.aload_n 0, 1) := by decide +kernel
theorem dX6_comeThrough_4 : decode cX6_comeThrough 4 = .ok (.iload_n 1, 1) := by decide +kernel
theorem dX6_comeThrough_5 : decode cX6_comeThrough 5 = .ok (.iload_n 2, 1) := by decide +kernel
theorem dX6_comeThrough_6 : decode cX6_comeThrough 6 = .ok (.invokevirtual 42, 3) := by decide +kernel
theorem dX6_comeThrough_9 : decode cX6_comeThrough 9 = .ok (.isub, 1) := by decide +kernel
theorem dX6_comeThrough_10 : decode cX6_comeThrough 10 = .ok (.imul, 1) := by decide +kernel
theorem dX6_comeThrough_11 : decode cX6_comeThrough 11 = .ok (.bipush 100, 2) := by decide +kernel
theorem dX6_comeThrough_13 : decode cX6_comeThrough 13 = .ok (.idiv, 1) := by decide +kernel
theorem dX6_comeThrough_14 : decode cX6_comeThrough 14 = .ok (.ireturn, 1) := by decide +kernel
theorem dX6_chanceThrough_0 : decode cX6_chanceThrough 0 = .ok (.ldc 45, 2) := by decide +kernel
theorem dX6_chanceThrough_2 : decode cX6_chanceThrough 2 = .ok (.istore 4, 2) := by decide +kernel
theorem dX6_chanceThrough_4 : decode cX6_chanceThrough 4 = .ok (.iload_n 3, 1) := by decide +kernel
theorem dX6_chanceThrough_5 : decode cX6_chanceThrough 5 = .ok (.istore 5, 2) := by decide +kernel
theorem dX6_chanceThrough_7 : decode cX6_chanceThrough 7 = .ok (.iload_n 1, 1) := by decide +kernel
theorem dX6_chanceThrough_8 : decode cX6_chanceThrough 8 = .ok (.istore 6, 2) := by decide +kernel
theorem dX6_chanceThrough_10 : decode cX6_chanceThrough 10 = .ok (.iload 6, 2) := by decide +kernel
theorem dX6_chanceThrough_12 : decode cX6_chanceThrough 12 = .ok (.iload_n 2, 1) := by decide +kernel
theorem dX6_chanceThrough_13 : decode cX6_chanceThrough 13 = .ok (.if_icmp .ge 31, 3) := by decide +kernel
theorem dX6_chanceThrough_16 : decode cX6_chanceThrough 16 = .ok (.aload_n 0, 1) := by decide +kernel
theorem dX6_chanceThrough_17 : decode cX6_chanceThrough 17 = .ok (.iload 6, 2) := by decide +kernel
theorem dX6_chanceThrough_19 : decode cX6_chanceThrough 19 = .ok (.iload 5, 2) := by decide +kernel
theorem dX6_chanceThrough_21 : decode cX6_chanceThrough 21 = .ok (.iload 4, 2) := by decide +kernel
theorem dX6_chanceThrough_23 : decode cX6_chanceThrough 23 = .ok (.invokevirtual 46, 3) := by decide +kernel
theorem dX6_chanceThrough_26 : decode cX6_chanceThrough 26 = .ok (.istore 4, 2) := by decide +kernel
theorem dX6_chanceThrough_28 : decode cX6_chanceThrough 28 = .ok (.iconst 0, 1) := by decide +kernel
theorem dX6_chanceThrough_29 : decode cX6_chanceThrough 29 = .ok (.iload 5, 2) := by decide +kernel
theorem dX6_chanceThrough_31 : decode cX6_chanceThrough 31 = .ok (.iconst 1, 1) := by decide +kernel
theorem dX6_chanceThrough_32 : decode cX6_chanceThrough 32 = .ok (.isub, 1) := by decide +kernel
theorem dX6_chanceThrough_33 : decode cX6_chanceThrough 33 = .ok (.invokestatic 50, 3) := by decide +kernel
theorem dX6_chanceThrough_36 : decode cX6_chanceThrough 36 = .ok (.istore 5, 2) := by decide +kernel
theorem dX6_chanceThrough_38 : decode cX6_chanceThrough 38 = .ok (.iinc 6 1, 3) := by decide +kernel
theorem dX6_chanceThrough_41 : decode cX6_chanceThrough 41 = .ok (.goto (-31), 3) := by decide +kernel
theorem dX6_chanceThrough_44 : decode cX6_chanceThrough 44 = .ok (.iload 4, 2) := by decide +kernel
theorem dX6_chanceThrough_46 : decode cX6_chanceThrough 46 = .ok (.ireturn, 1) := by decide +kernel
theorem dX6_dueOf_0 : decode cX6_dueOf 0 = .ok (.iload_n 2, 1) := by decide +kernel
theorem dX6_dueOf_1 : decode cX6_dueOf 1 = .ok (.iload_n 2, 1) := by decide +kernel
theorem dX6_dueOf_2 : decode cX6_dueOf 2 = .ok (.aload_n 0, 1) := by decide +kernel
theorem dX6_dueOf_3 : decode cX6_dueOf 3 = .ok (.getfield 23, 3) := by decide +kernel
theorem dX6_dueOf_6 : decode cX6_dueOf 6 = .ok (.iload_n 1, 1) := by decide +kernel
theorem dX6_dueOf_7 : decode cX6_dueOf 7 = .ok (.iconst 1, 1) := by decide +kernel
theorem dX6_dueOf_8 : decode cX6_dueOf 8 = .ok (.invokevirtual 33, 3) := by decide +kernel
theorem dX6_dueOf_11 : decode cX6_dueOf 11 = .ok (.imul, 1) := by decide +kernel
theorem dX6_dueOf_12 : decode cX6_dueOf 12 = .ok (.bipush 100, 2) := by decide +kernel
theorem dX6_dueOf_14 : decode cX6_dueOf 14 = .ok (.idiv, 1) := by decide +kernel
theorem dX6_dueOf_15 : decode cX6_dueOf 15 = .ok (.iadd, 1) := by decide +kernel
theorem dX6_dueOf_16 : decode cX6_dueOf 16 = .ok (.ireturn, 1) := by decide +kernel
