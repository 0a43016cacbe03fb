theorem dX0_init_0 : decode cX0_init 0 = .ok (.aload_n 0, 1) := by decide +kernel
theorem dX0_init_1 : decode cX0_init 1 = .ok (.invokespecial 3, 3) := by decide +kernel
theorem dX0_init_4 : decode cX0_init 4 = .ok (.aload_n 0, 1) := by decide +kernel
theorem dX0_init_5 : decode cX0_init 5 = .ok (.aload_n 1, 1) := by decide +kernel
theorem dX0_init_6 : decode cX0_init 6 = .ok (.putfield 9, 3) := by decide +kernel
theorem dX0_init_9 : decode cX0_init 9 = .ok (.return_, 1) := by decide +kernel
theorem dX0_nearest_0 : decode cX0_nearest 0 = .ok (.iconst 0, 1) := by decide +kernel
theorem dX0_nearest_1 : decode cX0_nearest 1 = .ok (.istore_n 3, 1) := by decide +kernel
theorem dX0_nearest_2 : decode cX0_nearest 2 = .ok (.iconst 0, 1) := by decide +kernel
theorem dX0_nearest_3 : decode cX0_nearest 3 = .ok (.istore 4, 2) := by decide +kernel
theorem dX0_nearest_5 : decode cX0_nearest 5 = .ok (.iconst 1, 1) := by decide +kernel
theorem dX0_nearest_6 : decode cX0_nearest 6 = .ok (.istore 5, 2) := by decide +kernel
theorem dX0_nearest_8 : decode cX0_nearest 8 = .ok (.iload 5, 2) := by decide +kernel
theorem dX0_nearest_10 : decode cX0_nearest 10 = .ok (.iconst 1, 1) := by decide +kernel
theorem dX0_nearest_11 : decode cX0_nearest 11 = .ok (.aload_n 0, 1) := by decide +kernel
theorem dX0_nearest_12 : decode cX0_nearest 12 = .ok (.getfield 9, 3) := by decide +kernel
theorem dX0_nearest_15 : decode cX0_nearest 15 = .ok (.getfield 15, 3) := by decide +kernel
theorem dX0_nearest_18 : decode cX0_nearest 18 = .ok (.ishl, 1) := by decide +kernel
theorem dX0_nearest_19 : decode cX0_nearest 19 = .ok (.if_icmp .ge 45, 3) := by decide +kernel
theorem dX0_nearest_22 : decode cX0_nearest 22 = .ok (.iload 5, 2) := by decide +kernel
theorem dX0_nearest_24 : decode cX0_nearest 24 = .ok (.invokestatic 21, 3) := by decide +kernel
theorem dX0_nearest_27 : decode cX0_nearest 27 = .ok (.iload_n 1, 1) := by decide +kernel
theorem dX0_nearest_28 : decode cX0_nearest 28 = .ok (.if_icmp .ne 30, 3) := by decide +kernel
theorem dX0_nearest_31 : decode cX0_nearest 31 = .ok (.aload_n 0, 1) := by decide +kernel
theorem dX0_nearest_32 : decode cX0_nearest 32 = .ok (.iload 5, 2) := by decide +kernel
theorem dX0_nearest_34 : decode cX0_nearest 34 = .ok (.iload_n 2, 1) := by decide +kernel
theorem dX0_nearest_35 : decode cX0_nearest 35 = .ok (.invokevirtual 27, 3) := by decide +kernel
theorem dX0_nearest_38 : decode cX0_nearest 38 = .ok (.istore 6, 2) := by decide +kernel
theorem dX0_nearest_40 : decode cX0_nearest 40 = .ok (.iload_n 3, 1) := by decide +kernel
theorem dX0_nearest_41 : decode cX0_nearest 41 = .ok (.ifCond .eq 10, 3) := by decide +kernel
theorem dX0_nearest_44 : decode cX0_nearest 44 = .ok (.iload 6, 2) := by decide +kernel
theorem dX0_nearest_46 : decode cX0_nearest 46 = .ok (.iload 4, 2) := by decide +kernel
theorem dX0_nearest_48 : decode cX0_nearest 48 = .ok (.if_icmp .ge 10, 3) := by decide +kernel
theorem dX0_nearest_51 : decode cX0_nearest 51 = .ok (.iload 5, 2) := by decide +kernel
theorem dX0_nearest_53 : decode cX0_nearest 53 = .ok (.istore_n 3, 1) := by decide +kernel
theorem dX0_nearest_54 : decode cX0_nearest 54 = .ok (.iload 6, 2) := by decide +kernel
theorem dX0_nearest_56 : decode cX0_nearest 56 = .ok (.istore 4, 2) := by decide +kernel
theorem dX0_nearest_58 : decode cX0_nearest 58 = .ok (.iinc 5 1, 3) := by decide +kernel
theorem dX0_nearest_61 : decode cX0_nearest 61 = .ok (.goto (-53), 3) := by decide +kernel
theorem dX0_nearest_64 : decode cX0_nearest 64 = .ok (.iload_n 3, 1) := by decide +kernel
theorem dX0_nearest_65 : decode cX0_nearest 65 = .ok (.ireturn, 1) := by decide +kernel
theorem dX0_cost_0 : decode cX0_cost 0 = .ok (.iconst 0, 1) := by decide +kernel
theorem dX0_cost_1 : decode cX0_cost 1 = .ok (.istore_n 3, 1) := by decide +kernel
theorem dX0_cost_2 : decode cX0_cost 2 = .ok (.iconst 0, 1) := by decide +kernel
theorem dX0_cost_3 : decode cX0_cost 3 = .ok (.istore 4, 2) := by decide +kernel
theorem dX0_cost_5 : decode cX0_cost 5 = .ok (.iconst 0, 1) := by decide +kernel
theorem dX0_cost_6 : decode cX0_cost 6 = .ok (.istore 5, 2) := by decide +kernel
theorem dX0_cost_8 : decode cX0_cost 8 = .ok (.iload 5, 2) := by decide +kernel
theorem dX0_cost_10 : decode cX0_cost 10 = .ok (.aload_n 0, 1) := by decide +kernel
theorem dX0_cost_11 : decode cX0_cost 11 = .ok (.getfield 9, 3) := by decide +kernel
theorem dX0_cost_14 : decode cX0_cost 14 = .ok (.getfield 15, 3) := by decide +kernel
theorem dX0_cost_17 : decode cX0_cost 17 = .ok (.if_icmp .ge 32, 3) := by decide +kernel
theorem dX0_cost_20 : decode cX0_cost 20 = .ok (.aload_n 0, 1) := by decide +kernel
theorem dX0_cost_21 : decode cX0_cost 21 = .ok (.iload_n 1, 1) := by decide +kernel
theorem dX0_cost_22 : decode cX0_cost 22 = .ok (.iload 5, 2) := by decide +kernel
theorem dX0_cost_24 : decode cX0_cost 24 = .ok (.invokevirtual 31, 3) := by decide +kernel
theorem dX0_cost_27 : decode cX0_cost 27 = .ok (.istore 6, 2) := by decide +kernel
theorem dX0_cost_29 : decode cX0_cost 29 = .ok (.iload_n 3, 1) := by decide +kernel
theorem dX0_cost_30 : decode cX0_cost 30 = .ok (.iload 6, 2) := by decide +kernel
theorem dX0_cost_32 : decode cX0_cost 32 = .ok (.iadd, 1) := by decide +kernel
theorem dX0_cost_33 : decode cX0_cost 33 = .ok (.istore_n 3, 1) := by decide +kernel
theorem dX0_cost_34 : decode cX0_cost 34 = .ok (.iload 4, 2) := by decide +kernel
theorem dX0_cost_36 : decode cX0_cost 36 = .ok (.iload 6, 2) := by decide +kernel
theorem dX0_cost_38 : decode cX0_cost 38 = .ok (.invokestatic 35, 3) := by decide +kernel
theorem dX0_cost_41 : decode cX0_cost 41 = .ok (.istore 4, 2) := by decide +kernel
theorem dX0_cost_43 : decode cX0_cost 43 = .ok (.iinc 5 1, 3) := by decide +kernel
theorem dX0_cost_46 : decode cX0_cost 46 = .ok (.goto (-38), 3) := by decide +kernel
theorem dX0_cost_49 : decode cX0_cost 49 = .ok (.iload_n 2, 1) := by decide +kernel
theorem dX0_cost_50 : decode cX0_cost 50 = .ok (.ifCond .eq 7, 3) := by decide +kernel
theorem dX0_cost_53 : decode cX0_cost 53 = .ok (.iload_n 3, 1) := by decide +kernel
theorem dX0_cost_54 : decode cX0_cost 54 = .ok (.goto 5, 3) := by decide +kernel
theorem dX0_cost_57 : decode cX0_cost 57 = .ok (.iload 4, 2) := by decide +kernel
theorem dX0_cost_59 : decode cX0_cost 59 = .ok (.ireturn, 1) := by decide +kernel
theorem dX0_wayToNearest_0 : decode cX0_wayToNearest 0 = .ok (.bipush 30, 2) := by decide +kernel
theorem dX0_wayToNearest_2 : decode cX0_wayToNearest 2 = .ok (.istore_n 3, 1) := by decide +kernel
theorem dX0_wayToNearest_3 : decode cX0_wayToNearest 3 = .ok (.iconst 0, 1) := by decide +kernel
theorem dX0_wayToNearest_4 : decode cX0_wayToNearest 4 = .ok (.istore 4, 2) := by decide +kernel
theorem dX0_wayToNearest_6 : decode cX0_wayToNearest 6 = .ok (.iload 4, 2) := by decide +kernel
theorem dX0_wayToNearest_8 : decode cX0_wayToNearest 8 = .ok (.aload_n 0, 1) := by decide +kernel
theorem dX0_wayToNearest_9 : decode cX0_wayToNearest 9 = .ok (.getfield 9, 3) := by decide +kernel
theorem dX0_wayToNearest_12 : decode cX0_wayToNearest 12 = .ok (.getfield 15, 3) := by decide +kernel
theorem dX0_wayToNearest_15 : decode cX0_wayToNearest 15 = .ok (.if_icmp .ge 33, 3) := by decide +kernel
theorem dX0_wayToNearest_18 : decode cX0_wayToNearest 18 = .ok (.iload_n 1, 1) := by decide +kernel
theorem dX0_wayToNearest_19 : decode cX0_wayToNearest 19 = .ok (.iload 4, 2) := by decide +kernel
theorem dX0_wayToNearest_21 : decode cX0_wayToNearest 21 = .ok (.invokestatic 40, 3) := by decide +kernel
theorem dX0_wayToNearest_24 : decode cX0_wayToNearest 24 = .ok (.ifCond .eq 18, 3) := by decide +kernel
theorem dX0_wayToNearest_27 : decode cX0_wayToNearest 27 = .ok (.iload_n 3, 1) := by decide +kernel
theorem dX0_wayToNearest_28 : decode cX0_wayToNearest 28 = .ok (.aload_n 0, 1) := by decide +kernel
theorem dX0_wayToNearest_29 : decode cX0_wayToNearest 29 = .ok (.getfield 9, 3) := by decide +kernel
theorem dX0_wayToNearest_32 : decode cX0_wayToNearest 32 = .ok (.iload_n 2, 1) := by decide +kernel
theorem dX0_wayToNearest_33 : decode cX0_wayToNearest 33 = .ok (.iload 4, 2) := by decide +kernel
theorem dX0_wayToNearest_35 : decode cX0_wayToNearest 35 = .ok (.invokevirtual 44, 3) := by decide +kernel
theorem dX0_wayToNearest_38 : decode cX0_wayToNearest 38 = .ok (.invokestatic 47, 3) := by decide +kernel
theorem dX0_wayToNearest_41 : decode cX0_wayToNearest 41 = .ok (.istore_n 3, 1) := by decide +kernel
theorem dX0_wayToNearest_42 : decode cX0_wayToNearest 42 = .ok (.iinc 4 1, 3) := by decide +kernel
theorem dX0_wayToNearest_45 : decode cX0_wayToNearest 45 = .ok (.goto (-39), 3) := by decide +kernel
theorem dX0_wayToNearest_48 : decode cX0_wayToNearest 48 = .ok (.iload_n 3, 1) := by decide +kernel
theorem dX0_wayToNearest_49 : decode cX0_wayToNearest 49 = .ok (.ireturn, 1) := by decide +kernel
theorem dX1_init_0 : decode cX1_init 0 = .ok (.aload_n 0, 1) := by decide +kernel
theorem dX1_init_1 : decode cX1_init 1 = .ok (.invokespecial 5, 3) := by decide +kernel
theorem dX1_init_4 : decode cX1_init 4 = .ok (.aload_n 0, 1) := by decide +kernel
theorem dX1_init_5 : decode cX1_init 5 = .ok (.bipush 6, 2) := by decide +kernel
theorem dX1_init_7 : decode cX1_init 7 = .ok (.newarray .int, 2) := by decide +kernel
theorem dX1_init_9 : decode cX1_init 9 = .ok (.putfield 11, 3) := by decide +kernel
theorem dX1_init_12 : decode cX1_init 12 = .ok (.aload_n 0, 1) := by decide +kernel
theorem dX1_init_13 : decode cX1_init 13 = .ok (.aload_n 1, 1) := by decide +kernel
theorem dX1_init_14 : decode cX1_init 14 = .ok (.putfield 15, 3) := by decide +kernel
theorem dX1_init_17 : decode cX1_init 17 = .ok (.return_, 1) := by decide +kernel
theorem dX1_hasLaw_0 : decode cX1_hasLaw 0 = .ok (.iload_n 0, 1) := by decide +kernel
theorem dX1_hasLaw_1 : decode cX1_hasLaw 1 = .ok (.ifCond .lt 12, 3) := by decide +kernel
theorem dX1_hasLaw_4 : decode cX1_hasLaw 4 = .ok (.iload_n 0, 1) := by decide +kernel
theorem dX1_hasLaw_5 : decode cX1_hasLaw 5 = .ok (.iconst 3, 1) := by decide +kernel
theorem dX1_hasLaw_6 : decode cX1_hasLaw 6 = .ok (.if_icmp .gt 7, 3) := by decide +kernel
theorem dX1_hasLaw_9 : decode cX1_hasLaw 9 = .ok (.iconst 1, 1) := by decide +kernel
theorem dX1_hasLaw_10 : decode cX1_hasLaw 10 = .ok (.goto 4, 3) := by decide +kernel
theorem dX1_hasLaw_13 : decode cX1_hasLaw 13 = .ok (.iconst 0, 1) := by decide +kernel
theorem dX1_hasLaw_14 : decode cX1_hasLaw 14 = .ok (.ireturn, 1) := by decide +kernel
theorem dX1_judge_0 : decode cX1_judge 0 = .ok (.aload_n 0, 1) := by decide +kernel
theorem dX1_judge_1 : decode cX1_judge 1 = .ok (.bipush (-4), 2) := by decide +kernel
theorem dX1_judge_3 : decode cX1_judge 3 = .ok (.putfield 19, 3) := by decide +kernel
theorem dX1_judge_6 : decode cX1_judge 6 = .ok (.aload_n 0, 1) := by decide +kernel
theorem dX1_judge_7 : decode cX1_judge 7 = .ok (.iconst 0, 1) := by decide +kernel
theorem dX1_judge_8 : decode cX1_judge 8 = .ok (.putfield 23, 3) := by decide +kernel
theorem dX1_judge_11 : decode cX1_judge 11 = .ok (.iload_n 1, 1) := by decide +kernel
theorem dX1_judge_12 : decode cX1_judge 12 = .ok (.tableswitch 49 0 2 #[28, 35, 42], 28) := by decide +kernel
theorem dX1_judge_40 : decode cX1_judge 40 = .ok (.aload_n 0, 1) := by decide +kernel
theorem dX1_judge_41 : decode cX1_judge 41 = .ok (.invokevirtual 26, 3) := by decide +kernel
theorem dX1_judge_44 : decode cX1_judge 44 = .ok (.goto 25, 3) := by decide +kernel
theorem dX1_judge_47 : decode cX1_judge 47 = .ok (.aload_n 0, 1) := by decide +kernel
theorem dX1_judge_48 : decode cX1_judge 48 = .ok (.invokevirtual 29, 3) := by decide +kernel
theorem dX1_judge_51 : decode cX1_judge 51 = .ok (.goto 18, 3) := by decide +kernel
theorem dX1_judge_54 : decode cX1_judge 54 = .ok (.aload_n 0, 1) := by decide +kernel
theorem dX1_judge_55 : decode cX1_judge 55 = .ok (.invokevirtual 32, 3) := by decide +kernel
theorem dX1_judge_58 : decode cX1_judge 58 = .ok (.goto 11, 3) := by decide +kernel
theorem dX1_judge_61 : decode cX1_judge 61 = .ok (.aload_n 0, 1) := by decide +kernel
theorem dX1_judge_62 : decode cX1_judge 62 = .ok (.iconst 0, 1) := by decide +kernel
theorem dX1_judge_63 : decode cX1_judge 63 = .ok (.iconst 0, 1) := by decide +kernel
theorem dX1_judge_64 : decode cX1_judge 64 = .ok (.iconst 0, 1) := by decide +kernel
theorem dX1_judge_65 : decode cX1_judge 65 = .ok (.iconst 0, 1) := by decide +kernel
theorem dX1_judge_66 : decode cX1_judge 66 = .ok (.invokevirtual 35, 3) := by decide +kernel
theorem dX1_judge_69 : decode cX1_judge 69 = .ok (.return_, 1) := by decide +kernel
theorem dX1_note_0 : decode cX1_note 0 = .ok (.aload_n 0, 1) := by decide +kernel
theorem dX1_note_1 : decode cX1_note 1 = .ok (.getfield 23, 3) := by decide +kernel
theorem dX1_note_4 : decode cX1_note 4 = .ok (.ifCond .ne 8, 3) := by decide +kernel
theorem dX1_note_7 : decode cX1_note 7 = .ok (.aload_n 0, 1) := by decide +kernel
theorem dX1_note_8 : decode cX1_note 8 = .ok (.iload_n 1, 1) := by decide +kernel
theorem dX1_note_9 : decode cX1_note 9 = .ok (.putfield 19, 3) := by decide +kernel
theorem dX1_note_12 : decode cX1_note 12 = .ok (.aload_n 0, 1) := by decide +kernel
theorem dX1_note_13 : decode cX1_note 13 = .ok (.dup, 1) := by decide +kernel
theorem dX1_note_14 : decode cX1_note 14 = .ok (.getfield 23, 3) := by decide +kernel
theorem dX1_note_17 : decode cX1_note 17 = .ok (.iconst 1, 1) := by decide +kernel
theorem dX1_note_18 : decode cX1_note 18 = .ok (.iadd, 1) := by decide +kernel
theorem dX1_note_19 : decode cX1_note 19 = .ok (.putfield 23, 3) := by decide +kernel
theorem dX1_note_22 : decode cX1_note 22 = .ok (.return_, 1) := by decide +kernel
theorem dX1_judgeDetours_0 : decode cX1_judgeDetours 0 = .ok (.aload_n 0, 1) := by decide +kernel
theorem dX1_judgeDetours_1 : decode cX1_judgeDetours 1 = .ok (.getfield 15, 3) := by decide +kernel
theorem dX1_judgeDetours_4 : decode cX1_judgeDetours 4 = .ok (.getfield 39, 3) := by decide +kernel
theorem dX1_judgeDetours_7 : decode cX1_judgeDetours 7 = .ok (.istore_n 1, 1) := by decide +kernel
theorem dX1_judgeDetours_8 : decode cX1_judgeDetours 8 = .ok (.iconst 0, 1) := by decide +kernel
theorem dX1_judgeDetours_9 : decode cX1_judgeDetours 9 = .ok (.istore_n 2, 1) := by decide +kernel
theorem dX1_judgeDetours_10 : decode cX1_judgeDetours 10 = .ok (.iload_n 2, 1) := by decide +kernel
theorem dX1_judgeDetours_11 : decode cX1_judgeDetours 11 = .ok (.iload_n 1, 1) := by decide +kernel
theorem dX1_judgeDetours_12 : decode cX1_judgeDetours 12 = .ok (.if_icmp .ge 98, 3) := by decide +kernel
theorem dX1_judgeDetours_15 : decode cX1_judgeDetours 15 = .ok (.iconst 0, 1) := by decide +kernel
theorem dX1_judgeDetours_16 : decode cX1_judgeDetours 16 = .ok (.istore_n 3, 1) := by decide +kernel
theorem dX1_judgeDetours_17 : decode cX1_judgeDetours 17 = .ok (.iload_n 3, 1) := by decide +kernel
theorem dX1_judgeDetours_18 : decode cX1_judgeDetours 18 = .ok (.iload_n 1, 1) := by decide +kernel
theorem dX1_judgeDetours_19 : decode cX1_judgeDetours 19 = .ok (.if_icmp .ge 85, 3) := by decide +kernel
theorem dX1_judgeDetours_22 : decode cX1_judgeDetours 22 = .ok (.iload_n 2, 1) := by decide +kernel
theorem dX1_judgeDetours_23 : decode cX1_judgeDetours 23 = .ok (.iconst 1, 1) := by decide +kernel
theorem dX1_judgeDetours_24 : decode cX1_judgeDetours 24 = .ok (.iadd, 1) := by decide +kernel
theorem dX1_judgeDetours_25 : decode cX1_judgeDetours 25 = .ok (.istore 4, 2) := by decide +kernel
theorem dX1_judgeDetours_27 : decode cX1_judgeDetours 27 = .ok (.iload 4, 2) := by decide +kernel
theorem dX1_judgeDetours_29 : decode cX1_judgeDetours 29 = .ok (.iload_n 1, 1) := by decide +kernel
theorem dX1_judgeDetours_30 : decode cX1_judgeDetours 30 = .ok (.if_icmp .ge 68, 3) := by decide +kernel
theorem dX1_judgeDetours_33 : decode cX1_judgeDetours 33 = .ok (.iload_n 3, 1) := by decide +kernel
theorem dX1_judgeDetours_34 : decode cX1_judgeDetours 34 = .ok (.iload_n 2, 1) := by decide +kernel
theorem dX1_judgeDetours_35 : decode cX1_judgeDetours 35 = .ok (.if_icmp .eq 57, 3) := by decide +kernel
theorem dX1_judgeDetours_38 : decode cX1_judgeDetours 38 = .ok (.iload_n 3, 1) := by decide +kernel
theorem dX1_judgeDetours_39 : decode cX1_judgeDetours 39 = .ok (.iload 4, 2) := by decide +kernel
theorem dX1_judgeDetours_41 : decode cX1_judgeDetours 41 = .ok (.if_icmp .eq 51, 3) := by decide +kernel
theorem dX1_judgeDetours_44 : decode cX1_judgeDetours 44 = .ok (.aload_n 0, 1) := by decide +kernel
theorem dX1_judgeDetours_45 : decode cX1_judgeDetours 45 = .ok (.getfield 15, 3) := by decide +kernel
theorem dX1_judgeDetours_48 : decode cX1_judgeDetours 48 = .ok (.iload_n 2, 1) := by decide +kernel
theorem dX1_judgeDetours_49 : decode cX1_judgeDetours 49 = .ok (.iload 4, 2) := by decide +kernel
theorem dX1_judgeDetours_51 : decode cX1_judgeDetours 51 = .ok (.invokevirtual 44, 3) := by decide +kernel
theorem dX1_judgeDetours_54 : decode cX1_judgeDetours 54 = .ok (.aload_n 0, 1) := by decide +kernel
theorem dX1_judgeDetours_55 : decode cX1_judgeDetours 55 = .ok (.getfield 15, 3) := by decide +kernel
theorem dX1_judgeDetours_58 : decode cX1_judgeDetours 58 = .ok (.iload_n 2, 1) := by decide +kernel
theorem dX1_judgeDetours_59 : decode cX1_judgeDetours 59 = .ok (.iload_n 3, 1) := by decide +kernel
theorem dX1_judgeDetours_60 : decode cX1_judgeDetours 60 = .ok (.invokevirtual 44, 3) := by decide +kernel
theorem dX1_judgeDetours_63 : decode cX1_judgeDetours 63 = .ok (.aload_n 0, 1) := by decide +kernel
theorem dX1_judgeDetours_64 : decode cX1_judgeDetours 64 = .ok (.getfield 15, 3) := by decide +kernel
theorem dX1_judgeDetours_67 : decode cX1_judgeDetours 67 = .ok (.iload_n 3, 1) := by decide +kernel
theorem dX1_judgeDetours_68 : decode cX1_judgeDetours 68 = .ok (.iload 4, 2) := by decide +kernel
theorem dX1_judgeDetours_70 : decode cX1_judgeDetours 70 = .ok (.invokevirtual 44, 3) := by decide +kernel
theorem dX1_judgeDetours_73 : decode cX1_judgeDetours 73 = .ok (.iadd, 1) := by decide +kernel
theorem dX1_judgeDetours_74 : decode cX1_judgeDetours 74 = .ok (.if_icmp .le 18, 3) := by decide +kernel
theorem dX1_judgeDetours_77 : decode cX1_judgeDetours 77 = .ok (.aload_n 0, 1) := by decide +kernel
theorem dX1_judgeDetours_78 : decode cX1_judgeDetours 78 = .ok (.iload_n 2, 1) := by decide +kernel
theorem dX1_judgeDetours_79 : decode cX1_judgeDetours 79 = .ok (.bipush 6, 2) := by decide +kernel
theorem dX1_judgeDetours_81 : decode cX1_judgeDetours 81 = .ok (.ishl, 1) := by decide +kernel
theorem dX1_judgeDetours_82 : decode cX1_judgeDetours 82 = .ok (.iload_n 3, 1) := by decide +kernel
theorem dX1_judgeDetours_83 : decode cX1_judgeDetours 83 = .ok (.iconst 3, 1) := by decide +kernel
theorem dX1_judgeDetours_84 : decode cX1_judgeDetours 84 = .ok (.ishl, 1) := by decide +kernel
theorem dX1_judgeDetours_85 : decode cX1_judgeDetours 85 = .ok (.ior, 1) := by decide +kernel
theorem dX1_judgeDetours_86 : decode cX1_judgeDetours 86 = .ok (.iload 4, 2) := by decide +kernel
theorem dX1_judgeDetours_88 : decode cX1_judgeDetours 88 = .ok (.ior, 1) := by decide +kernel
theorem dX1_judgeDetours_89 : decode cX1_judgeDetours 89 = .ok (.invokevirtual 48, 3) := by decide +kernel
theorem dX1_judgeDetours_92 : decode cX1_judgeDetours 92 = .ok (.iinc 4 1, 3) := by decide +kernel
theorem dX1_judgeDetours_95 : decode cX1_judgeDetours 95 = .ok (.goto (-68), 3) := by decide +kernel
theorem dX1_judgeDetours_98 : decode cX1_judgeDetours 98 = .ok (.iinc 3 1, 3) := by decide +kernel
theorem dX1_judgeDetours_101 : decode cX1_judgeDetours 101 = .ok (.goto (-84), 3) := by decide +kernel
theorem dX1_judgeDetours_104 : decode cX1_judgeDetours 104 = .ok (.iinc 2 1, 3) := by decide +kernel
theorem dX1_judgeDetours_107 : decode cX1_judgeDetours 107 = .ok (.goto (-97), 3) := by decide +kernel
theorem dX1_judgeDetours_110 : decode cX1_judgeDetours 110 = .ok (.return_, 1) := by decide +kernel
theorem dX1_judgeTrees_0 : decode cX1_judgeTrees 0 = .ok (.aload_n 0, 1) := by decide +kernel
theorem dX1_judgeTrees_1 : decode cX1_judgeTrees 1 = .ok (.getfield 15, 3) := by decide +kernel
theorem dX1_judgeTrees_4 : decode cX1_judgeTrees 4 = .ok (.getfield 39, 3) := by decide +kernel
theorem dX1_judgeTrees_7 : decode cX1_judgeTrees 7 = .ok (.istore_n 1, 1) := by decide +kernel
theorem dX1_judgeTrees_8 : decode cX1_judgeTrees 8 = .ok (.iconst 0, 1) := by decide +kernel
theorem dX1_judgeTrees_9 : decode cX1_judgeTrees 9 = .ok (.istore_n 2, 1) := by decide +kernel
theorem dX1_judgeTrees_10 : decode cX1_judgeTrees 10 = .ok (.iload_n 2, 1) := by decide +kernel
theorem dX1_judgeTrees_11 : decode cX1_judgeTrees 11 = .ok (.iload_n 1, 1) := by decide +kernel
theorem dX1_judgeTrees_12 : decode cX1_judgeTrees 12 = .ok (.if_icmp .ge 93, 3) := by decide +kernel
theorem dX1_judgeTrees_15 : decode cX1_judgeTrees 15 = .ok (.iload_n 2, 1) := by decide +kernel
theorem dX1_judgeTrees_16 : decode cX1_judgeTrees 16 = .ok (.iconst 1, 1) := by decide +kernel
theorem dX1_judgeTrees_17 : decode cX1_judgeTrees 17 = .ok (.iadd, 1) := by decide +kernel
theorem dX1_judgeTrees_18 : decode cX1_judgeTrees 18 = .ok (.istore_n 3, 1) := by decide +kernel
theorem dX1_judgeTrees_19 : decode cX1_judgeTrees 19 = .ok (.iload_n 3, 1) := by decide +kernel
theorem dX1_judgeTrees_20 : decode cX1_judgeTrees 20 = .ok (.iload_n 1, 1) := by decide +kernel
theorem dX1_judgeTrees_21 : decode cX1_judgeTrees 21 = .ok (.if_icmp .ge 78, 3) := by decide +kernel
theorem dX1_judgeTrees_24 : decode cX1_judgeTrees 24 = .ok (.iload_n 3, 1) := by decide +kernel
theorem dX1_judgeTrees_25 : decode cX1_judgeTrees 25 = .ok (.iconst 1, 1) := by decide +kernel
theorem dX1_judgeTrees_26 : decode cX1_judgeTrees 26 = .ok (.iadd, 1) := by decide +kernel
theorem dX1_judgeTrees_27 : decode cX1_judgeTrees 27 = .ok (.istore 4, 2) := by decide +kernel
theorem dX1_judgeTrees_29 : decode cX1_judgeTrees 29 = .ok (.iload 4, 2) := by decide +kernel
theorem dX1_judgeTrees_31 : decode cX1_judgeTrees 31 = .ok (.iload_n 1, 1) := by decide +kernel
theorem dX1_judgeTrees_32 : decode cX1_judgeTrees 32 = .ok (.if_icmp .ge 61, 3) := by decide +kernel
theorem dX1_judgeTrees_35 : decode cX1_judgeTrees 35 = .ok (.iload 4, 2) := by decide +kernel
theorem dX1_judgeTrees_37 : decode cX1_judgeTrees 37 = .ok (.iconst 1, 1) := by decide +kernel
theorem dX1_judgeTrees_38 : decode cX1_judgeTrees 38 = .ok (.iadd, 1) := by decide +kernel
theorem dX1_judgeTrees_39 : decode cX1_judgeTrees 39 = .ok (.istore 5, 2) := by decide +kernel
theorem dX1_judgeTrees_41 : decode cX1_judgeTrees 41 = .ok (.iload 5, 2) := by decide +kernel
theorem dX1_judgeTrees_43 : decode cX1_judgeTrees 43 = .ok (.iload_n 1, 1) := by decide +kernel
theorem dX1_judgeTrees_44 : decode cX1_judgeTrees 44 = .ok (.if_icmp .ge 43, 3) := by decide +kernel
theorem dX1_judgeTrees_47 : decode cX1_judgeTrees 47 = .ok (.aload_n 0, 1) := by decide +kernel
theorem dX1_judgeTrees_48 : decode cX1_judgeTrees 48 = .ok (.iload_n 2, 1) := by decide +kernel
theorem dX1_judgeTrees_49 : decode cX1_judgeTrees 49 = .ok (.iload_n 3, 1) := by decide +kernel
theorem dX1_judgeTrees_50 : decode cX1_judgeTrees 50 = .ok (.iload 4, 2) := by decide +kernel
theorem dX1_judgeTrees_52 : decode cX1_judgeTrees 52 = .ok (.iload 5, 2) := by decide +kernel
theorem dX1_judgeTrees_54 : decode cX1_judgeTrees 54 = .ok (.invokevirtual 52, 3) := by decide +kernel
theorem dX1_judgeTrees_57 : decode cX1_judgeTrees 57 = .ok (.ifCond .eq 24, 3) := by decide +kernel
theorem dX1_judgeTrees_60 : decode cX1_judgeTrees 60 = .ok (.aload_n 0, 1) := by decide +kernel
theorem dX1_judgeTrees_61 : decode cX1_judgeTrees 61 = .ok (.iload_n 2, 1) := by decide +kernel
theorem dX1_judgeTrees_62 : decode cX1_judgeTrees 62 = .ok (.bipush 9, 2) := by decide +kernel
theorem dX1_judgeTrees_64 : decode cX1_judgeTrees 64 = .ok (.ishl, 1) := by decide +kernel
theorem dX1_judgeTrees_65 : decode cX1_judgeTrees 65 = .ok (.iload_n 3, 1) := by decide +kernel
theorem dX1_judgeTrees_66 : decode cX1_judgeTrees 66 = .ok (.bipush 6, 2) := by decide +kernel
theorem dX1_judgeTrees_68 : decode cX1_judgeTrees 68 = .ok (.ishl, 1) := by decide +kernel
theorem dX1_judgeTrees_69 : decode cX1_judgeTrees 69 = .ok (.ior, 1) := by decide +kernel
theorem dX1_judgeTrees_70 : decode cX1_judgeTrees 70 = .ok (.iload 4, 2) := by decide +kernel
theorem dX1_judgeTrees_72 : decode cX1_judgeTrees 72 = .ok (.iconst 3, 1) := by decide +kernel
theorem dX1_judgeTrees_73 : decode cX1_judgeTrees 73 = .ok (.ishl, 1) := by decide +kernel
theorem dX1_judgeTrees_74 : decode cX1_judgeTrees 74 = .ok (.ior, 1) := by decide +kernel
theorem dX1_judgeTrees_75 : decode cX1_judgeTrees 75 = .ok (.iload 5, 2) := by decide +kernel
theorem dX1_judgeTrees_77 : decode cX1_judgeTrees 77 = .ok (.ior, 1) := by decide +kernel
theorem dX1_judgeTrees_78 : decode cX1_judgeTrees 78 = .ok (.invokevirtual 48, 3) := by decide +kernel
theorem dX1_judgeTrees_81 : decode cX1_judgeTrees 81 = .ok (.iinc 5 1, 3) := by decide +kernel
theorem dX1_judgeTrees_84 : decode cX1_judgeTrees 84 = .ok (.goto (-43), 3) := by decide +kernel
theorem dX1_judgeTrees_87 : decode cX1_judgeTrees 87 = .ok (.iinc 4 1, 3) := by decide +kernel
theorem dX1_judgeTrees_90 : decode cX1_judgeTrees 90 = .ok (.goto (-61), 3) := by decide +kernel
theorem dX1_judgeTrees_93 : decode cX1_judgeTrees 93 = .ok (.iinc 3 1, 3) := by decide +kernel
theorem dX1_judgeTrees_96 : decode cX1_judgeTrees 96 = .ok (.goto (-77), 3) := by decide +kernel
theorem dX1_judgeTrees_99 : decode cX1_judgeTrees 99 = .ok (.iinc 2 1, 3) := by decide +kernel
theorem dX1_judgeTrees_102 : decode cX1_judgeTrees 102 = .ok (.goto (-92), 3) := by decide +kernel
theorem dX1_judgeTrees_105 : decode cX1_judgeTrees 105 = .ok (.return_, 1) := by decide +kernel
theorem dX1_sumsStickOut_0 : decode cX1_sumsStickOut 0 = .ok (.aload_n 0, 1) := by decide +kernel
theorem dX1_sumsStickOut_1 : decode cX1_sumsStickOut 1 = .ok (.getfield 15, 3) := by decide +kernel
theorem dX1_sumsStickOut_4 : decode cX1_sumsStickOut 4 = .ok (.iload_n 1, 1) := by decide +kernel
theorem dX1_sumsStickOut_5 : decode cX1_sumsStickOut 5 = .ok (.iload_n 2, 1) := by decide +kernel
theorem dX1_sumsStickOut_6 : decode cX1_sumsStickOut 6 = .ok (.invokevirtual 44, 3) := by decide +kernel
theorem dX1_sumsStickOut_9 : decode cX1_sumsStickOut 9 = .ok (.aload_n 0, 1) := by decide +kernel
theorem dX1_sumsStickOut_10 : decode cX1_sumsStickOut 10 = .ok (.getfield 15, 3) := by decide +kernel
theorem dX1_sumsStickOut_13 : decode cX1_sumsStickOut 13 = .ok (.iload_n 3, 1) := by decide +kernel
theorem dX1_sumsStickOut_14 : decode cX1_sumsStickOut 14 = .ok (.iload 4, 2) := by decide +kernel
theorem dX1_sumsStickOut_16 : decode cX1_sumsStickOut 16 = .ok (.invokevirtual 44, 3) := by decide +kernel
theorem dX1_sumsStickOut_19 : decode cX1_sumsStickOut 19 = .ok (.iadd, 1) := by decide +kernel
theorem dX1_sumsStickOut_20 : decode cX1_sumsStickOut 20 = .ok (.aload_n 0, 1) := by decide +kernel
theorem dX1_sumsStickOut_21 : decode cX1_sumsStickOut 21 = .ok (.getfield 15, 3) := by decide +kernel
theorem dX1_sumsStickOut_24 : decode cX1_sumsStickOut 24 = .ok (.iload_n 1, 1) := by decide +kernel
theorem dX1_sumsStickOut_25 : decode cX1_sumsStickOut 25 = .ok (.iload_n 3, 1) := by decide +kernel
theorem dX1_sumsStickOut_26 : decode cX1_sumsStickOut 26 = .ok (.invokevirtual 44, 3) := by decide +kernel
theorem dX1_sumsStickOut_29 : decode cX1_sumsStickOut 29 = .ok (.aload_n 0, 1) := by decide +kernel
theorem dX1_sumsStickOut_30 : decode cX1_sumsStickOut 30 = .ok (.getfield 15, 3) := by decide +kernel
theorem dX1_sumsStickOut_33 : decode cX1_sumsStickOut 33 = .ok (.iload_n 2, 1) := by decide +kernel
theorem dX1_sumsStickOut_34 : decode cX1_sumsStickOut 34 = .ok (.iload 4, 2) := by decide +kernel
theorem dX1_sumsStickOut_36 : decode cX1_sumsStickOut 36 = .ok (.invokevirtual 44, 3) := by decide +kernel
theorem dX1_sumsStickOut_39 : decode cX1_sumsStickOut 39 = .ok (.iadd, 1) := by decide +kernel
theorem dX1_sumsStickOut_40 : decode cX1_sumsStickOut 40 = .ok (.aload_n 0, 1) := by decide +kernel
theorem dX1_sumsStickOut_41 : decode cX1_sumsStickOut 41 = .ok (.getfield 15, 3) := by decide +kernel
theorem dX1_sumsStickOut_44 : decode cX1_sumsStickOut 44 = .ok (.iload_n 1, 1) := by decide +kernel
theorem dX1_sumsStickOut_45 : decode cX1_sumsStickOut 45 = .ok (.iload 4, 2) := by decide +kernel
theorem dX1_sumsStickOut_47 : decode cX1_sumsStickOut 47 = .ok (.invokevirtual 44, 3) := by decide +kernel
theorem dX1_sumsStickOut_50 : decode cX1_sumsStickOut 50 = .ok (.aload_n 0, 1) := by decide +kernel
theorem dX1_sumsStickOut_51 : decode cX1_sumsStickOut 51 = .ok (.getfield 15, 3) := by decide +kernel
theorem dX1_sumsStickOut_54 : decode cX1_sumsStickOut 54 = .ok (.iload_n 2, 1) := by decide +kernel
theorem dX1_sumsStickOut_55 : decode cX1_sumsStickOut 55 = .ok (.iload_n 3, 1) := by decide +kernel
theorem dX1_sumsStickOut_56 : decode cX1_sumsStickOut 56 = .ok (.invokevirtual 44, 3) := by decide +kernel
theorem dX1_sumsStickOut_59 : decode cX1_sumsStickOut 59 = .ok (.iadd, 1) := by decide +kernel
theorem dX1_sumsStickOut_60 : decode cX1_sumsStickOut 60 = .ok (.invokestatic 56, 3) := by decide +kernel
theorem dX1_sumsStickOut_63 : decode cX1_sumsStickOut 63 = .ok (.ireturn, 1) := by decide +kernel
theorem dX1_judgeNests_0 : decode cX1_judgeNests 0 = .ok (.aload_n 0, 1) := by decide +kernel
theorem dX1_judgeNests_1 : decode cX1_judgeNests 1 = .ok (.getfield 15, 3) := by decide +kernel
theorem dX1_judgeNests_4 : decode cX1_judgeNests 4 = .ok (.getfield 39, 3) := by decide +kernel
theorem dX1_judgeNests_7 : decode cX1_judgeNests 7 = .ok (.istore_n 1, 1) := by decide +kernel
theorem dX1_judgeNests_8 : decode cX1_judgeNests 8 = .ok (.iconst 0, 1) := by decide +kernel
theorem dX1_judgeNests_9 : decode cX1_judgeNests 9 = .ok (.istore_n 2, 1) := by decide +kernel
theorem dX1_judgeNests_10 : decode cX1_judgeNests 10 = .ok (.iload_n 2, 1) := by decide +kernel
theorem dX1_judgeNests_11 : decode cX1_judgeNests 11 = .ok (.iload_n 1, 1) := by decide +kernel
theorem dX1_judgeNests_12 : decode cX1_judgeNests 12 = .ok (.if_icmp .ge 91, 3) := by decide +kernel
theorem dX1_judgeNests_15 : decode cX1_judgeNests 15 = .ok (.iload_n 2, 1) := by decide +kernel
theorem dX1_judgeNests_16 : decode cX1_judgeNests 16 = .ok (.iconst 1, 1) := by decide +kernel
theorem dX1_judgeNests_17 : decode cX1_judgeNests 17 = .ok (.iadd, 1) := by decide +kernel
theorem dX1_judgeNests_18 : decode cX1_judgeNests 18 = .ok (.istore_n 3, 1) := by decide +kernel
theorem dX1_judgeNests_19 : decode cX1_judgeNests 19 = .ok (.iload_n 3, 1) := by decide +kernel
theorem dX1_judgeNests_20 : decode cX1_judgeNests 20 = .ok (.iload_n 1, 1) := by decide +kernel
theorem dX1_judgeNests_21 : decode cX1_judgeNests 21 = .ok (.if_icmp .ge 76, 3) := by decide +kernel
theorem dX1_judgeNests_24 : decode cX1_judgeNests 24 = .ok (.iload_n 3, 1) := by decide +kernel
theorem dX1_judgeNests_25 : decode cX1_judgeNests 25 = .ok (.iconst 1, 1) := by decide +kernel
theorem dX1_judgeNests_26 : decode cX1_judgeNests 26 = .ok (.iadd, 1) := by decide +kernel
theorem dX1_judgeNests_27 : decode cX1_judgeNests 27 = .ok (.istore 4, 2) := by decide +kernel
theorem dX1_judgeNests_29 : decode cX1_judgeNests 29 = .ok (.iload 4, 2) := by decide +kernel
theorem dX1_judgeNests_31 : decode cX1_judgeNests 31 = .ok (.iload_n 1, 1) := by decide +kernel
theorem dX1_judgeNests_32 : decode cX1_judgeNests 32 = .ok (.if_icmp .ge 59, 3) := by decide +kernel
theorem dX1_judgeNests_35 : decode cX1_judgeNests 35 = .ok (.aload_n 0, 1) := by decide +kernel
theorem dX1_judgeNests_36 : decode cX1_judgeNests 36 = .ok (.getfield 15, 3) := by decide +kernel
theorem dX1_judgeNests_39 : decode cX1_judgeNests 39 = .ok (.iload_n 2, 1) := by decide +kernel
theorem dX1_judgeNests_40 : decode cX1_judgeNests 40 = .ok (.iload_n 3, 1) := by decide +kernel
theorem dX1_judgeNests_41 : decode cX1_judgeNests 41 = .ok (.invokevirtual 44, 3) := by decide +kernel
theorem dX1_judgeNests_44 : decode cX1_judgeNests 44 = .ok (.aload_n 0, 1) := by decide +kernel
theorem dX1_judgeNests_45 : decode cX1_judgeNests 45 = .ok (.getfield 15, 3) := by decide +kernel
theorem dX1_judgeNests_48 : decode cX1_judgeNests 48 = .ok (.iload_n 2, 1) := by decide +kernel
theorem dX1_judgeNests_49 : decode cX1_judgeNests 49 = .ok (.iload 4, 2) := by decide +kernel
theorem dX1_judgeNests_51 : decode cX1_judgeNests 51 = .ok (.invokevirtual 44, 3) := by decide +kernel
theorem dX1_judgeNests_54 : decode cX1_judgeNests 54 = .ok (.aload_n 0, 1) := by decide +kernel
theorem dX1_judgeNests_55 : decode cX1_judgeNests 55 = .ok (.getfield 15, 3) := by decide +kernel
theorem dX1_judgeNests_58 : decode cX1_judgeNests 58 = .ok (.iload_n 3, 1) := by decide +kernel
theorem dX1_judgeNests_59 : decode cX1_judgeNests 59 = .ok (.iload 4, 2) := by decide +kernel
theorem dX1_judgeNests_61 : decode cX1_judgeNests 61 = .ok (.invokevirtual 44, 3) := by decide +kernel
theorem dX1_judgeNests_64 : decode cX1_judgeNests 64 = .ok (.invokestatic 56, 3) := by decide +kernel
theorem dX1_judgeNests_67 : decode cX1_judgeNests 67 = .ok (.ifCond .eq 18, 3) := by decide +kernel
theorem dX1_judgeNests_70 : decode cX1_judgeNests 70 = .ok (.aload_n 0, 1) := by decide +kernel
theorem dX1_judgeNests_71 : decode cX1_judgeNests 71 = .ok (.iload_n 2, 1) := by decide +kernel
theorem dX1_judgeNests_72 : decode cX1_judgeNests 72 = .ok (.bipush 6, 2) := by decide +kernel
theorem dX1_judgeNests_74 : decode cX1_judgeNests 74 = .ok (.ishl, 1) := by decide +kernel
theorem dX1_judgeNests_75 : decode cX1_judgeNests 75 = .ok (.iload_n 3, 1) := by decide +kernel
theorem dX1_judgeNests_76 : decode cX1_judgeNests 76 = .ok (.iconst 3, 1) := by decide +kernel
theorem dX1_judgeNests_77 : decode cX1_judgeNests 77 = .ok (.ishl, 1) := by decide +kernel
theorem dX1_judgeNests_78 : decode cX1_judgeNests 78 = .ok (.ior, 1) := by decide +kernel
theorem dX1_judgeNests_79 : decode cX1_judgeNests 79 = .ok (.iload 4, 2) := by decide +kernel
theorem dX1_judgeNests_81 : decode cX1_judgeNests 81 = .ok (.ior, 1) := by decide +kernel
theorem dX1_judgeNests_82 : decode cX1_judgeNests 82 = .ok (.invokevirtual 48, 3) := by decide +kernel
theorem dX1_judgeNests_85 : decode cX1_judgeNests 85 = .ok (.iinc 4 1, 3) := by decide +kernel
theorem dX1_judgeNests_88 : decode cX1_judgeNests 88 = .ok (.goto (-59), 3) := by decide +kernel
theorem dX1_judgeNests_91 : decode cX1_judgeNests 91 = .ok (.iinc 3 1, 3) := by decide +kernel
theorem dX1_judgeNests_94 : decode cX1_judgeNests 94 = .ok (.goto (-75), 3) := by decide +kernel
theorem dX1_judgeNests_97 : decode cX1_judgeNests 97 = .ok (.iinc 2 1, 3) := by decide +kernel
theorem dX1_judgeNests_100 : decode cX1_judgeNests 100 = .ok (.goto (-90), 3) := by decide +kernel
theorem dX1_judgeNests_103 : decode cX1_judgeNests 103 = .ok (.return_, 1) := by decide +kernel
theorem dX1_greatestIsAlone_0 : decode cX1_greatestIsAlone 0 = .ok (.iload_n 0, 1) := by decide +kernel
theorem dX1_greatestIsAlone_1 : decode cX1_greatestIsAlone 1 = .ok (.iload_n 1, 1) := by decide +kernel
theorem dX1_greatestIsAlone_2 : decode cX1_greatestIsAlone 2 = .ok (.iload_n 2, 1) := by decide +kernel
theorem dX1_greatestIsAlone_3 : decode cX1_greatestIsAlone 3 = .ok (.invokestatic 60, 3) := by decide +kernel
theorem dX1_greatestIsAlone_6 : decode cX1_greatestIsAlone 6 = .ok (.if_icmp .gt 21, 3) := by decide +kernel
theorem dX1_greatestIsAlone_9 : decode cX1_greatestIsAlone 9 = .ok (.iload_n 1, 1) := by decide +kernel
theorem dX1_greatestIsAlone_10 : decode cX1_greatestIsAlone 10 = .ok (.iload_n 0, 1) := by decide +kernel
theorem dX1_greatestIsAlone_11 : decode cX1_greatestIsAlone 11 = .ok (.iload_n 2, 1) := by decide +kernel
theorem dX1_greatestIsAlone_12 : decode cX1_greatestIsAlone 12 = .ok (.invokestatic 60, 3) := by decide +kernel
theorem dX1_greatestIsAlone_15 : decode cX1_greatestIsAlone 15 = .ok (.if_icmp .gt 12, 3) := by decide +kernel
theorem dX1_greatestIsAlone_18 : decode cX1_greatestIsAlone 18 = .ok (.iload_n 2, 1) := by decide +kernel
theorem dX1_greatestIsAlone_19 : decode cX1_greatestIsAlone 19 = .ok (.iload_n 0, 1) := by decide +kernel
theorem dX1_greatestIsAlone_20 : decode cX1_greatestIsAlone 20 = .ok (.iload_n 1, 1) := by decide +kernel
theorem dX1_greatestIsAlone_21 : decode cX1_greatestIsAlone 21 = .ok (.invokestatic 60, 3) := by decide +kernel
theorem dX1_greatestIsAlone_24 : decode cX1_greatestIsAlone 24 = .ok (.if_icmp .le 7, 3) := by decide +kernel
theorem dX1_greatestIsAlone_27 : decode cX1_greatestIsAlone 27 = .ok (.iconst 1, 1) := by decide +kernel
theorem dX1_greatestIsAlone_28 : decode cX1_greatestIsAlone 28 = .ok (.goto 4, 3) := by decide +kernel
theorem dX1_greatestIsAlone_31 : decode cX1_greatestIsAlone 31 = .ok (.iconst 0, 1) := by decide +kernel
theorem dX1_greatestIsAlone_32 : decode cX1_greatestIsAlone 32 = .ok (.ireturn, 1) := by decide +kernel
theorem dX1_judgeWeights_0 : decode cX1_judgeWeights 0 = .ok (.aload_n 0, 1) := by decide +kernel
theorem dX1_judgeWeights_1 : decode cX1_judgeWeights 1 = .ok (.iload_n 1, 1) := by decide +kernel
theorem dX1_judgeWeights_2 : decode cX1_judgeWeights 2 = .ok (.invokevirtual 65, 3) := by decide +kernel
theorem dX1_judgeWeights_5 : decode cX1_judgeWeights 5 = .ok (.istore 5, 2) := by decide +kernel
theorem dX1_judgeWeights_7 : decode cX1_judgeWeights 7 = .ok (.iload_n 1, 1) := by decide +kernel
theorem dX1_judgeWeights_8 : decode cX1_judgeWeights 8 = .ok (.aload_n 0, 1) := by decide +kernel
theorem dX1_judgeWeights_9 : decode cX1_judgeWeights 9 = .ok (.getfield 15, 3) := by decide +kernel
theorem dX1_judgeWeights_12 : decode cX1_judgeWeights 12 = .ok (.getfield 39, 3) := by decide +kernel
theorem dX1_judgeWeights_15 : decode cX1_judgeWeights 15 = .ok (.iconst 1, 1) := by decide +kernel
theorem dX1_judgeWeights_16 : decode cX1_judgeWeights 16 = .ok (.isub, 1) := by decide +kernel
theorem dX1_judgeWeights_17 : decode cX1_judgeWeights 17 = .ok (.if_icmp .lt 45, 3) := by decide +kernel
theorem dX1_judgeWeights_20 : decode cX1_judgeWeights 20 = .ok (.iconst 1, 1) := by decide +kernel
theorem dX1_judgeWeights_21 : decode cX1_judgeWeights 21 = .ok (.iload_n 3, 1) := by decide +kernel
theorem dX1_judgeWeights_22 : decode cX1_judgeWeights 22 = .ok (.isub, 1) := by decide +kernel
theorem dX1_judgeWeights_23 : decode cX1_judgeWeights 23 = .ok (.istore 6, 2) := by decide +kernel
theorem dX1_judgeWeights_25 : decode cX1_judgeWeights 25 = .ok (.iload 6, 2) := by decide +kernel
theorem dX1_judgeWeights_27 : decode cX1_judgeWeights 27 = .ok (.bipush (-2), 2) := by decide +kernel
theorem dX1_judgeWeights_29 : decode cX1_judgeWeights 29 = .ok (.if_icmp .lt 32, 3) := by decide +kernel
theorem dX1_judgeWeights_32 : decode cX1_judgeWeights 32 = .ok (.iload 6, 2) := by decide +kernel
theorem dX1_judgeWeights_34 : decode cX1_judgeWeights 34 = .ok (.iconst 2, 1) := by decide +kernel
theorem dX1_judgeWeights_35 : decode cX1_judgeWeights 35 = .ok (.if_icmp .gt 26, 3) := by decide +kernel
theorem dX1_judgeWeights_38 : decode cX1_judgeWeights 38 = .ok (.iload 4, 2) := by decide +kernel
theorem dX1_judgeWeights_40 : decode cX1_judgeWeights 40 = .ok (.iload 6, 2) := by decide +kernel
theorem dX1_judgeWeights_42 : decode cX1_judgeWeights 42 = .ok (.iload 5, 2) := by decide +kernel
theorem dX1_judgeWeights_44 : decode cX1_judgeWeights 44 = .ok (.imul, 1) := by decide +kernel
theorem dX1_judgeWeights_45 : decode cX1_judgeWeights 45 = .ok (.iadd, 1) := by decide +kernel
theorem dX1_judgeWeights_46 : decode cX1_judgeWeights 46 = .ok (.ifCond .le 15, 3) := by decide +kernel
theorem dX1_judgeWeights_49 : decode cX1_judgeWeights 49 = .ok (.aload_n 0, 1) := by decide +kernel
theorem dX1_judgeWeights_50 : decode cX1_judgeWeights 50 = .ok (.iload_n 2, 1) := by decide +kernel
theorem dX1_judgeWeights_51 : decode cX1_judgeWeights 51 = .ok (.iconst 5, 1) := by decide +kernel
theorem dX1_judgeWeights_52 : decode cX1_judgeWeights 52 = .ok (.imul, 1) := by decide +kernel
theorem dX1_judgeWeights_53 : decode cX1_judgeWeights 53 = .ok (.iload 6, 2) := by decide +kernel
theorem dX1_judgeWeights_55 : decode cX1_judgeWeights 55 = .ok (.iadd, 1) := by decide +kernel
theorem dX1_judgeWeights_56 : decode cX1_judgeWeights 56 = .ok (.iconst 2, 1) := by decide +kernel
theorem dX1_judgeWeights_57 : decode cX1_judgeWeights 57 = .ok (.iadd, 1) := by decide +kernel
theorem dX1_judgeWeights_58 : decode cX1_judgeWeights 58 = .ok (.invokevirtual 48, 3) := by decide +kernel
theorem dX1_judgeWeights_61 : decode cX1_judgeWeights 61 = .ok (.return_, 1) := by decide +kernel
theorem dX1_judgeWeights_62 : decode cX1_judgeWeights 62 = .ok (.bipush (-2), 2) := by decide +kernel
theorem dX1_judgeWeights_64 : decode cX1_judgeWeights 64 = .ok (.istore 6, 2) := by decide +kernel
theorem dX1_judgeWeights_66 : decode cX1_judgeWeights 66 = .ok (.iload 6, 2) := by decide +kernel
theorem dX1_judgeWeights_68 : decode cX1_judgeWeights 68 = .ok (.iconst 2, 1) := by decide +kernel
theorem dX1_judgeWeights_69 : decode cX1_judgeWeights 69 = .ok (.if_icmp .gt 48, 3) := by decide +kernel
theorem dX1_judgeWeights_72 : decode cX1_judgeWeights 72 = .ok (.aload_n 0, 1) := by decide +kernel
theorem dX1_judgeWeights_73 : decode cX1_judgeWeights 73 = .ok (.getfield 11, 3) := by decide +kernel
theorem dX1_judgeWeights_76 : decode cX1_judgeWeights 76 = .ok (.iload_n 1, 1) := by decide +kernel
theorem dX1_judgeWeights_77 : decode cX1_judgeWeights 77 = .ok (.iload 6, 2) := by decide +kernel
theorem dX1_judgeWeights_79 : decode cX1_judgeWeights 79 = .ok (.iastore, 1) := by decide +kernel
theorem dX1_judgeWeights_80 : decode cX1_judgeWeights 80 = .ok (.iload_n 2, 1) := by decide +kernel
theorem dX1_judgeWeights_81 : decode cX1_judgeWeights 81 = .ok (.iconst 5, 1) := by decide +kernel
theorem dX1_judgeWeights_82 : decode cX1_judgeWeights 82 = .ok (.imul, 1) := by decide +kernel
theorem dX1_judgeWeights_83 : decode cX1_judgeWeights 83 = .ok (.iload 6, 2) := by decide +kernel
theorem dX1_judgeWeights_85 : decode cX1_judgeWeights 85 = .ok (.iadd, 1) := by decide +kernel
theorem dX1_judgeWeights_86 : decode cX1_judgeWeights 86 = .ok (.iconst 2, 1) := by decide +kernel
theorem dX1_judgeWeights_87 : decode cX1_judgeWeights 87 = .ok (.iadd, 1) := by decide +kernel
theorem dX1_judgeWeights_88 : decode cX1_judgeWeights 88 = .ok (.istore 7, 2) := by decide +kernel
theorem dX1_judgeWeights_90 : decode cX1_judgeWeights 90 = .ok (.aload_n 0, 1) := by decide +kernel
theorem dX1_judgeWeights_91 : decode cX1_judgeWeights 91 = .ok (.iload_n 1, 1) := by decide +kernel
theorem dX1_judgeWeights_92 : decode cX1_judgeWeights 92 = .ok (.iconst 1, 1) := by decide +kernel
theorem dX1_judgeWeights_93 : decode cX1_judgeWeights 93 = .ok (.iadd, 1) := by decide +kernel
theorem dX1_judgeWeights_94 : decode cX1_judgeWeights 94 = .ok (.iload 7, 2) := by decide +kernel
theorem dX1_judgeWeights_96 : decode cX1_judgeWeights 96 = .ok (.iload_n 3, 1) := by decide +kernel
theorem dX1_judgeWeights_97 : decode cX1_judgeWeights 97 = .ok (.iload 6, 2) := by decide +kernel
theorem dX1_judgeWeights_99 : decode cX1_judgeWeights 99 = .ok (.iadd, 1) := by decide +kernel
theorem dX1_judgeWeights_100 : decode cX1_judgeWeights 100 = .ok (.iload 4, 2) := by decide +kernel
theorem dX1_judgeWeights_102 : decode cX1_judgeWeights 102 = .ok (.iload 6, 2) := by decide +kernel
theorem dX1_judgeWeights_104 : decode cX1_judgeWeights 104 = .ok (.iload 5, 2) := by decide +kernel
theorem dX1_judgeWeights_106 : decode cX1_judgeWeights 106 = .ok (.imul, 1) := by decide +kernel
theorem dX1_judgeWeights_107 : decode cX1_judgeWeights 107 = .ok (.iadd, 1) := by decide +kernel
theorem dX1_judgeWeights_108 : decode cX1_judgeWeights 108 = .ok (.invokevirtual 35, 3) := by decide +kernel
theorem dX1_judgeWeights_111 : decode cX1_judgeWeights 111 = .ok (.iinc 6 1, 3) := by decide +kernel
theorem dX1_judgeWeights_114 : decode cX1_judgeWeights 114 = .ok (.goto (-48), 3) := by decide +kernel
theorem dX1_judgeWeights_117 : decode cX1_judgeWeights 117 = .ok (.return_, 1) := by decide +kernel
theorem dX1_pullOn_0 : decode cX1_pullOn 0 = .ok (.iconst 0, 1) := by decide +kernel
theorem dX1_pullOn_1 : decode cX1_pullOn 1 = .ok (.istore_n 2, 1) := by decide +kernel
theorem dX1_pullOn_2 : decode cX1_pullOn 2 = .ok (.iconst 0, 1) := by decide +kernel
theorem dX1_pullOn_3 : decode cX1_pullOn 3 = .ok (.istore_n 3, 1) := by decide +kernel
theorem dX1_pullOn_4 : decode cX1_pullOn 4 = .ok (.iload_n 3, 1) := by decide +kernel
theorem dX1_pullOn_5 : decode cX1_pullOn 5 = .ok (.iload_n 1, 1) := by decide +kernel
theorem dX1_pullOn_6 : decode cX1_pullOn 6 = .ok (.if_icmp .ge 28, 3) := by decide +kernel
theorem dX1_pullOn_9 : decode cX1_pullOn 9 = .ok (.iload_n 2, 1) := by decide +kernel
theorem dX1_pullOn_10 : decode cX1_pullOn 10 = .ok (.aload_n 0, 1) := by decide +kernel
theorem dX1_pullOn_11 : decode cX1_pullOn 11 = .ok (.getfield 11, 3) := by decide +kernel
theorem dX1_pullOn_14 : decode cX1_pullOn 14 = .ok (.iload_n 3, 1) := by decide +kernel
theorem dX1_pullOn_15 : decode cX1_pullOn 15 = .ok (.iaload, 1) := by decide +kernel
theorem dX1_pullOn_16 : decode cX1_pullOn 16 = .ok (.aload_n 0, 1) := by decide +kernel
theorem dX1_pullOn_17 : decode cX1_pullOn 17 = .ok (.getfield 15, 3) := by decide +kernel
theorem dX1_pullOn_20 : decode cX1_pullOn 20 = .ok (.iload_n 3, 1) := by decide +kernel
theorem dX1_pullOn_21 : decode cX1_pullOn 21 = .ok (.iload_n 1, 1) := by decide +kernel
theorem dX1_pullOn_22 : decode cX1_pullOn 22 = .ok (.invokevirtual 44, 3) := by decide +kernel
theorem dX1_pullOn_25 : decode cX1_pullOn 25 = .ok (.imul, 1) := by decide +kernel
theorem dX1_pullOn_26 : decode cX1_pullOn 26 = .ok (.iadd, 1) := by decide +kernel
theorem dX1_pullOn_27 : decode cX1_pullOn 27 = .ok (.istore_n 2, 1) := by decide +kernel
theorem dX1_pullOn_28 : decode cX1_pullOn 28 = .ok (.iinc 3 1, 3) := by decide +kernel
theorem dX1_pullOn_31 : decode cX1_pullOn 31 = .ok (.goto (-27), 3) := by decide +kernel
theorem dX1_pullOn_34 : decode cX1_pullOn 34 = .ok (.iload_n 2, 1) := by decide +kernel
theorem dX1_pullOn_35 : decode cX1_pullOn 35 = .ok (.ireturn, 1) := by decide +kernel
theorem dX2_init_0 : decode cX2_init 0 = .ok (.aload_n 0, 1) := by decide +kernel
theorem dX2_init_1 : decode cX2_init 1 = .ok (.invokespecial 3, 3) := by decide +kernel
theorem dX2_init_4 : decode cX2_init 4 = .ok (.aload_n 0, 1) := by decide +kernel
theorem dX2_init_5 : decode cX2_init 5 = .ok (.bipush 6, 2) := by decide +kernel
theorem dX2_init_7 : decode cX2_init 7 = .ok (.newarray .int, 2) := by decide +kernel
theorem dX2_init_9 : decode cX2_init 9 = .ok (.putfield 9, 3) := by decide +kernel
theorem dX2_init_12 : decode cX2_init 12 = .ok (.aload_n 0, 1) := by decide +kernel
theorem dX2_init_13 : decode cX2_init 13 = .ok (.aload_n 1, 1) := by decide +kernel
theorem dX2_init_14 : decode cX2_init 14 = .ok (.putfield 15, 3) := by decide +kernel
theorem dX2_init_17 : decode cX2_init 17 = .ok (.return_, 1) := by decide +kernel
theorem dX2_isOrder_0 : decode cX2_isOrder 0 = .ok (.iload_n 1, 1) := by decide +kernel
theorem dX2_isOrder_1 : decode cX2_isOrder 1 = .ok (.ifCond .lt 18, 3) := by decide +kernel
theorem dX2_isOrder_4 : decode cX2_isOrder 4 = .ok (.iload_n 1, 1) := by decide +kernel
theorem dX2_isOrder_5 : decode cX2_isOrder 5 = .ok (.iconst 1, 1) := by decide +kernel
theorem dX2_isOrder_6 : decode cX2_isOrder 6 = .ok (.iconst 3, 1) := by decide +kernel
theorem dX2_isOrder_7 : decode cX2_isOrder 7 = .ok (.aload_n 0, 1) := by decide +kernel
theorem dX2_isOrder_8 : decode cX2_isOrder 8 = .ok (.getfield 15, 3) := by decide +kernel
theorem dX2_isOrder_11 : decode cX2_isOrder 11 = .ok (.getfield 19, 3) := by decide +kernel
theorem dX2_isOrder_14 : decode cX2_isOrder 14 = .ok (.imul, 1) := by decide +kernel
theorem dX2_isOrder_15 : decode cX2_isOrder 15 = .ok (.ishl, 1) := by decide +kernel
theorem dX2_isOrder_16 : decode cX2_isOrder 16 = .ok (.if_icmp .lt 5, 3) := by decide +kernel
theorem dX2_isOrder_19 : decode cX2_isOrder 19 = .ok (.iconst 0, 1) := by decide +kernel
theorem dX2_isOrder_20 : decode cX2_isOrder 20 = .ok (.ireturn, 1) := by decide +kernel
theorem dX2_isOrder_21 : decode cX2_isOrder 21 = .ok (.iconst 0, 1) := by decide +kernel
theorem dX2_isOrder_22 : decode cX2_isOrder 22 = .ok (.istore_n 2, 1) := by decide +kernel
theorem dX2_isOrder_23 : decode cX2_isOrder 23 = .ok (.iconst 0, 1) := by decide +kernel
theorem dX2_isOrder_24 : decode cX2_isOrder 24 = .ok (.istore_n 3, 1) := by decide +kernel
theorem dX2_isOrder_25 : decode cX2_isOrder 25 = .ok (.iload_n 3, 1) := by decide +kernel
theorem dX2_isOrder_26 : decode cX2_isOrder 26 = .ok (.aload_n 0, 1) := by decide +kernel
theorem dX2_isOrder_27 : decode cX2_isOrder 27 = .ok (.getfield 15, 3) := by decide +kernel
theorem dX2_isOrder_30 : decode cX2_isOrder 30 = .ok (.getfield 19, 3) := by decide +kernel
theorem dX2_isOrder_33 : decode cX2_isOrder 33 = .ok (.if_icmp .ge 19, 3) := by decide +kernel
theorem dX2_isOrder_36 : decode cX2_isOrder 36 = .ok (.iload_n 2, 1) := by decide +kernel
theorem dX2_isOrder_37 : decode cX2_isOrder 37 = .ok (.iconst 1, 1) := by decide +kernel
theorem dX2_isOrder_38 : decode cX2_isOrder 38 = .ok (.iload_n 1, 1) := by decide +kernel
theorem dX2_isOrder_39 : decode cX2_isOrder 39 = .ok (.iload_n 3, 1) := by decide +kernel
theorem dX2_isOrder_40 : decode cX2_isOrder 40 = .ok (.invokestatic 25, 3) := by decide +kernel
theorem dX2_isOrder_43 : decode cX2_isOrder 43 = .ok (.ishl, 1) := by decide +kernel
theorem dX2_isOrder_44 : decode cX2_isOrder 44 = .ok (.ior, 1) := by decide +kernel
theorem dX2_isOrder_45 : decode cX2_isOrder 45 = .ok (.istore_n 2, 1) := by decide +kernel
theorem dX2_isOrder_46 : decode cX2_isOrder 46 = .ok (.iinc 3 1, 3) := by decide +kernel
theorem dX2_isOrder_49 : decode cX2_isOrder 49 = .ok (.goto (-24), 3) := by decide +kernel
theorem dX2_isOrder_52 : decode cX2_isOrder 52 = .ok (.iload_n 2, 1) := by decide +kernel
theorem dX2_isOrder_53 : decode cX2_isOrder 53 = .ok (.iconst 1, 1) := by decide +kernel
theorem dX2_isOrder_54 : decode cX2_isOrder 54 = .ok (.aload_n 0, 1) := by decide +kernel
theorem dX2_isOrder_55 : decode cX2_isOrder 55 = .ok (.getfield 15, 3) := by decide +kernel
theorem dX2_isOrder_58 : decode cX2_isOrder 58 = .ok (.getfield 19, 3) := by decide +kernel
theorem dX2_isOrder_61 : decode cX2_isOrder 61 = .ok (.ishl, 1) := by decide +kernel
theorem dX2_isOrder_62 : decode cX2_isOrder 62 = .ok (.iconst 1, 1) := by decide +kernel
theorem dX2_isOrder_63 : decode cX2_isOrder 63 = .ok (.isub, 1) := by decide +kernel
theorem dX2_isOrder_64 : decode cX2_isOrder 64 = .ok (.if_icmp .ne 7, 3) := by decide +kernel
theorem dX2_isOrder_67 : decode cX2_isOrder 67 = .ok (.iconst 1, 1) := by decide +kernel
theorem dX2_isOrder_68 : decode cX2_isOrder 68 = .ok (.goto 4, 3) := by decide +kernel
theorem dX2_isOrder_71 : decode cX2_isOrder 71 = .ok (.iconst 0, 1) := by decide +kernel
theorem dX2_isOrder_72 : decode cX2_isOrder 72 = .ok (.ireturn, 1) := by decide +kernel
theorem dX2_pointAt_0 : decode cX2_pointAt 0 = .ok (.iload_n 0, 1) := by decide +kernel
theorem dX2_pointAt_1 : decode cX2_pointAt 1 = .ok (.iconst 3, 1) := by decide +kernel
theorem dX2_pointAt_2 : decode cX2_pointAt 2 = .ok (.iload_n 1, 1) := by decide +kernel
theorem dX2_pointAt_3 : decode cX2_pointAt 3 = .ok (.imul, 1) := by decide +kernel
theorem dX2_pointAt_4 : decode cX2_pointAt 4 = .ok (.ishr, 1) := by decide +kernel
theorem dX2_pointAt_5 : decode cX2_pointAt 5 = .ok (.bipush 7, 2) := by decide +kernel
theorem dX2_pointAt_7 : decode cX2_pointAt 7 = .ok (.iand, 1) := by decide +kernel
theorem dX2_pointAt_8 : decode cX2_pointAt 8 = .ok (.ireturn, 1) := by decide +kernel
theorem dX2_lay_0 : decode cX2_lay 0 = .ok (.iconst 0, 1) := by decide +kernel
theorem dX2_lay_1 : decode cX2_lay 1 = .ok (.istore_n 2, 1) := by decide +kernel
theorem dX2_lay_2 : decode cX2_lay 2 = .ok (.iload_n 2, 1) := by decide +kernel
theorem dX2_lay_3 : decode cX2_lay 3 = .ok (.aload_n 0, 1) := by decide +kernel
theorem dX2_lay_4 : decode cX2_lay 4 = .ok (.getfield 15, 3) := by decide +kernel
theorem dX2_lay_7 : decode cX2_lay 7 = .ok (.getfield 19, 3) := by decide +kernel
theorem dX2_lay_10 : decode cX2_lay 10 = .ok (.if_icmp .ge 39, 3) := by decide +kernel
theorem dX2_lay_13 : decode cX2_lay 13 = .ok (.iload_n 1, 1) := by decide +kernel
theorem dX2_lay_14 : decode cX2_lay 14 = .ok (.iload_n 2, 1) := by decide +kernel
theorem dX2_lay_15 : decode cX2_lay 15 = .ok (.invokestatic 25, 3) := by decide +kernel
theorem dX2_lay_18 : decode cX2_lay 18 = .ok (.istore_n 3, 1) := by decide +kernel
theorem dX2_lay_19 : decode cX2_lay 19 = .ok (.aload_n 0, 1) := by decide +kernel
theorem dX2_lay_20 : decode cX2_lay 20 = .ok (.getfield 15, 3) := by decide +kernel
theorem dX2_lay_23 : decode cX2_lay 23 = .ok (.iload_n 3, 1) := by decide +kernel
theorem dX2_lay_24 : decode cX2_lay 24 = .ok (.invokevirtual 29, 3) := by decide +kernel
theorem dX2_lay_27 : decode cX2_lay 27 = .ok (.ifCond .eq 16, 3) := by decide +kernel
theorem dX2_lay_30 : decode cX2_lay 30 = .ok (.aload_n 0, 1) := by decide +kernel
theorem dX2_lay_31 : decode cX2_lay 31 = .ok (.getfield 9, 3) := by decide +kernel
theorem dX2_lay_34 : decode cX2_lay 34 = .ok (.iload_n 3, 1) := by decide +kernel
theorem dX2_lay_35 : decode cX2_lay 35 = .ok (.aload_n 0, 1) := by decide +kernel
theorem dX2_lay_36 : decode cX2_lay 36 = .ok (.iload_n 1, 1) := by decide +kernel
theorem dX2_lay_37 : decode cX2_lay 37 = .ok (.iload_n 2, 1) := by decide +kernel
theorem dX2_lay_38 : decode cX2_lay 38 = .ok (.iload_n 3, 1) := by decide +kernel
theorem dX2_lay_39 : decode cX2_lay 39 = .ok (.invokevirtual 33, 3) := by decide +kernel
theorem dX2_lay_42 : decode cX2_lay 42 = .ok (.iastore, 1) := by decide +kernel
theorem dX2_lay_43 : decode cX2_lay 43 = .ok (.iinc 2 1, 3) := by decide +kernel
theorem dX2_lay_46 : decode cX2_lay 46 = .ok (.goto (-44), 3) := by decide +kernel
theorem dX2_lay_49 : decode cX2_lay 49 = .ok (.aload_n 0, 1) := by decide +kernel
theorem dX2_lay_50 : decode cX2_lay 50 = .ok (.invokevirtual 37, 3) := by decide +kernel
theorem dX2_lay_53 : decode cX2_lay 53 = .ok (.return_, 1) := by decide +kernel
theorem dX2_leastPlace_0 : decode cX2_leastPlace 0 = .ok (.iconst 0, 1) := by decide +kernel
theorem dX2_leastPlace_1 : decode cX2_leastPlace 1 = .ok (.istore 4, 2) := by decide +kernel
theorem dX2_leastPlace_3 : decode cX2_leastPlace 3 = .ok (.iconst 0, 1) := by decide +kernel
theorem dX2_leastPlace_4 : decode cX2_leastPlace 4 = .ok (.istore 5, 2) := by decide +kernel
theorem dX2_leastPlace_6 : decode cX2_leastPlace 6 = .ok (.iload 5, 2) := by decide +kernel
theorem dX2_leastPlace_8 : decode cX2_leastPlace 8 = .ok (.iload_n 2, 1) := by decide +kernel
theorem dX2_leastPlace_9 : decode cX2_leastPlace 9 = .ok (.if_icmp .ge 54, 3) := by decide +kernel
theorem dX2_leastPlace_12 : decode cX2_leastPlace 12 = .ok (.iload_n 1, 1) := by decide +kernel
theorem dX2_leastPlace_13 : decode cX2_leastPlace 13 = .ok (.iload 5, 2) := by decide +kernel
theorem dX2_leastPlace_15 : decode cX2_leastPlace 15 = .ok (.invokestatic 25, 3) := by decide +kernel
theorem dX2_leastPlace_18 : decode cX2_leastPlace 18 = .ok (.istore 6, 2) := by decide +kernel
theorem dX2_leastPlace_20 : decode cX2_leastPlace 20 = .ok (.aload_n 0, 1) := by decide +kernel
theorem dX2_leastPlace_21 : decode cX2_leastPlace 21 = .ok (.getfield 15, 3) := by decide +kernel
theorem dX2_leastPlace_24 : decode cX2_leastPlace 24 = .ok (.iload 6, 2) := by decide +kernel
theorem dX2_leastPlace_26 : decode cX2_leastPlace 26 = .ok (.invokevirtual 29, 3) := by decide +kernel
theorem dX2_leastPlace_29 : decode cX2_leastPlace 29 = .ok (.ifCond .eq 28, 3) := by decide +kernel
theorem dX2_leastPlace_32 : decode cX2_leastPlace 32 = .ok (.iload 4, 2) := by decide +kernel
theorem dX2_leastPlace_34 : decode cX2_leastPlace 34 = .ok (.aload_n 0, 1) := by decide +kernel
theorem dX2_leastPlace_35 : decode cX2_leastPlace 35 = .ok (.getfield 9, 3) := by decide +kernel
theorem dX2_leastPlace_38 : decode cX2_leastPlace 38 = .ok (.iload 6, 2) := by decide +kernel
theorem dX2_leastPlace_40 : decode cX2_leastPlace 40 = .ok (.iaload, 1) := by decide +kernel
theorem dX2_leastPlace_41 : decode cX2_leastPlace 41 = .ok (.aload_n 0, 1) := by decide +kernel
theorem dX2_leastPlace_42 : decode cX2_leastPlace 42 = .ok (.getfield 15, 3) := by decide +kernel
theorem dX2_leastPlace_45 : decode cX2_leastPlace 45 = .ok (.iload 6, 2) := by decide +kernel
theorem dX2_leastPlace_47 : decode cX2_leastPlace 47 = .ok (.iload_n 3, 1) := by decide +kernel
theorem dX2_leastPlace_48 : decode cX2_leastPlace 48 = .ok (.invokevirtual 40, 3) := by decide +kernel
theorem dX2_leastPlace_51 : decode cX2_leastPlace 51 = .ok (.iadd, 1) := by decide +kernel
theorem dX2_leastPlace_52 : decode cX2_leastPlace 52 = .ok (.invokestatic 43, 3) := by decide +kernel
theorem dX2_leastPlace_55 : decode cX2_leastPlace 55 = .ok (.istore 4, 2) := by decide +kernel
theorem dX2_leastPlace_57 : decode cX2_leastPlace 57 = .ok (.iinc 5 1, 3) := by decide +kernel
theorem dX2_leastPlace_60 : decode cX2_leastPlace 60 = .ok (.goto (-54), 3) := by decide +kernel
theorem dX2_leastPlace_63 : decode cX2_leastPlace 63 = .ok (.iload 4, 2) := by decide +kernel
theorem dX2_leastPlace_65 : decode cX2_leastPlace 65 = .ok (.ireturn, 1) := by decide +kernel
theorem dX2_measureStretch_0 : decode cX2_measureStretch 0 = .ok (.aload_n 0, 1) := by decide +kernel
theorem dX2_measureStretch_1 : decode cX2_measureStretch 1 = .ok (.iconst 0, 1) := by decide +kernel
theorem dX2_measureStretch_2 : decode cX2_measureStretch 2 = .ok (.putfield 48, 3) := by decide +kernel
theorem dX2_measureStretch_5 : decode cX2_measureStretch 5 = .ok (.aload_n 0, 1) := by decide +kernel
theorem dX2_measureStretch_6 : decode cX2_measureStretch 6 = .ok (.iconst 1, 1) := by decide +kernel
theorem dX2_measureStretch_7 : decode cX2_measureStretch 7 = .ok (.putfield 51, 3) := by decide +kernel
theorem dX2_measureStretch_10 : decode cX2_measureStretch 10 = .ok (.iconst 0, 1) := by decide +kernel
theorem dX2_measureStretch_11 : decode cX2_measureStretch 11 = .ok (.istore_n 1, 1) := by decide +kernel
theorem dX2_measureStretch_12 : decode cX2_measureStretch 12 = .ok (.iload_n 1, 1) := by decide +kernel
theorem dX2_measureStretch_13 : decode cX2_measureStretch 13 = .ok (.aload_n 0, 1) := by decide +kernel
theorem dX2_measureStretch_14 : decode cX2_measureStretch 14 = .ok (.getfield 15, 3) := by decide +kernel
theorem dX2_measureStretch_17 : decode cX2_measureStretch 17 = .ok (.getfield 19, 3) := by decide +kernel
theorem dX2_measureStretch_20 : decode cX2_measureStretch 20 = .ok (.if_icmp .ge 89, 3) := by decide +kernel
theorem dX2_measureStretch_23 : decode cX2_measureStretch 23 = .ok (.iload_n 1, 1) := by decide +kernel
theorem dX2_measureStretch_24 : decode cX2_measureStretch 24 = .ok (.iconst 1, 1) := by decide +kernel
theorem dX2_measureStretch_25 : decode cX2_measureStretch 25 = .ok (.iadd, 1) := by decide +kernel
theorem dX2_measureStretch_26 : decode cX2_measureStretch 26 = .ok (.istore_n 2, 1) := by decide +kernel
theorem dX2_measureStretch_27 : decode cX2_measureStretch 27 = .ok (.iload_n 2, 1) := by decide +kernel
theorem dX2_measureStretch_28 : decode cX2_measureStretch 28 = .ok (.aload_n 0, 1) := by decide +kernel
theorem dX2_measureStretch_29 : decode cX2_measureStretch 29 = .ok (.getfield 15, 3) := by decide +kernel
theorem dX2_measureStretch_32 : decode cX2_measureStretch 32 = .ok (.getfield 19, 3) := by decide +kernel
theorem dX2_measureStretch_35 : decode cX2_measureStretch 35 = .ok (.if_icmp .ge 68, 3) := by decide +kernel
theorem dX2_measureStretch_38 : decode cX2_measureStretch 38 = .ok (.aload_n 0, 1) := by decide +kernel
theorem dX2_measureStretch_39 : decode cX2_measureStretch 39 = .ok (.getfield 15, 3) := by decide +kernel
theorem dX2_measureStretch_42 : decode cX2_measureStretch 42 = .ok (.iload_n 1, 1) := by decide +kernel
theorem dX2_measureStretch_43 : decode cX2_measureStretch 43 = .ok (.iload_n 2, 1) := by decide +kernel
theorem dX2_measureStretch_44 : decode cX2_measureStretch 44 = .ok (.invokevirtual 40, 3) := by decide +kernel
theorem dX2_measureStretch_47 : decode cX2_measureStretch 47 = .ok (.istore_n 3, 1) := by decide +kernel
theorem dX2_measureStretch_48 : decode cX2_measureStretch 48 = .ok (.aload_n 0, 1) := by decide +kernel
theorem dX2_measureStretch_49 : decode cX2_measureStretch 49 = .ok (.getfield 9, 3) := by decide +kernel
theorem dX2_measureStretch_52 : decode cX2_measureStretch 52 = .ok (.iload_n 1, 1) := by decide +kernel
theorem dX2_measureStretch_53 : decode cX2_measureStretch 53 = .ok (.iaload, 1) := by decide +kernel
theorem dX2_measureStretch_54 : decode cX2_measureStretch 54 = .ok (.aload_n 0, 1) := by decide +kernel
theorem dX2_measureStretch_55 : decode cX2_measureStretch 55 = .ok (.getfield 9, 3) := by decide +kernel
theorem dX2_measureStretch_58 : decode cX2_measureStretch 58 = .ok (.iload_n 2, 1) := by decide +kernel
theorem dX2_measureStretch_59 : decode cX2_measureStretch 59 = .ok (.iaload, 1) := by decide +kernel
theorem dX2_measureStretch_60 : decode cX2_measureStretch 60 = .ok (.isub, 1) := by decide +kernel
theorem dX2_measureStretch_61 : decode cX2_measureStretch 61 = .ok (.invokestatic 54, 3) := by decide +kernel
theorem dX2_measureStretch_64 : decode cX2_measureStretch 64 = .ok (.istore 4, 2) := by decide +kernel
theorem dX2_measureStretch_66 : decode cX2_measureStretch 66 = .ok (.iload_n 3, 1) := by decide +kernel
theorem dX2_measureStretch_67 : decode cX2_measureStretch 67 = .ok (.ifCond .le 30, 3) := by decide +kernel
theorem dX2_measureStretch_70 : decode cX2_measureStretch 70 = .ok (.iload 4, 2) := by decide +kernel
theorem dX2_measureStretch_72 : decode cX2_measureStretch 72 = .ok (.aload_n 0, 1) := by decide +kernel
theorem dX2_measureStretch_73 : decode cX2_measureStretch 73 = .ok (.getfield 51, 3) := by decide +kernel
theorem dX2_measureStretch_76 : decode cX2_measureStretch 76 = .ok (.imul, 1) := by decide +kernel
theorem dX2_measureStretch_77 : decode cX2_measureStretch 77 = .ok (.aload_n 0, 1) := by decide +kernel
theorem dX2_measureStretch_78 : decode cX2_measureStretch 78 = .ok (.getfield 48, 3) := by decide +kernel
theorem dX2_measureStretch_81 : decode cX2_measureStretch 81 = .ok (.iload_n 3, 1) := by decide +kernel
theorem dX2_measureStretch_82 : decode cX2_measureStretch 82 = .ok (.imul, 1) := by decide +kernel
theorem dX2_measureStretch_83 : decode cX2_measureStretch 83 = .ok (.if_icmp .le 14, 3) := by decide +kernel
theorem dX2_measureStretch_86 : decode cX2_measureStretch 86 = .ok (.aload_n 0, 1) := by decide +kernel
theorem dX2_measureStretch_87 : decode cX2_measureStretch 87 = .ok (.iload 4, 2) := by decide +kernel
theorem dX2_measureStretch_89 : decode cX2_measureStretch 89 = .ok (.putfield 48, 3) := by decide +kernel
theorem dX2_measureStretch_92 : decode cX2_measureStretch 92 = .ok (.aload_n 0, 1) := by decide +kernel
theorem dX2_measureStretch_93 : decode cX2_measureStretch 93 = .ok (.iload_n 3, 1) := by decide +kernel
theorem dX2_measureStretch_94 : decode cX2_measureStretch 94 = .ok (.putfield 51, 3) := by decide +kernel
theorem dX2_measureStretch_97 : decode cX2_measureStretch 97 = .ok (.iinc 2 1, 3) := by decide +kernel
theorem dX2_measureStretch_100 : decode cX2_measureStretch 100 = .ok (.goto (-73), 3) := by decide +kernel
theorem dX2_measureStretch_103 : decode cX2_measureStretch 103 = .ok (.iinc 1 1, 3) := by decide +kernel
theorem dX2_measureStretch_106 : decode cX2_measureStretch 106 = .ok (.goto (-94), 3) := by decide +kernel
theorem dX2_measureStretch_109 : decode cX2_measureStretch 109 = .ok (.return_, 1) := by decide +kernel
theorem dX2_stretchPart_0 : decode cX2_stretchPart 0 = .ok (.iload_n 1, 1) := by decide +kernel
theorem dX2_stretchPart_1 : decode cX2_stretchPart 1 = .ok (.iconst 1, 1) := by decide +kernel
theorem dX2_stretchPart_2 : decode cX2_stretchPart 2 = .ok (.if_icmp .ne 10, 3) := by decide +kernel
theorem dX2_stretchPart_5 : decode cX2_stretchPart 5 = .ok (.aload_n 0, 1) := by decide +kernel
theorem dX2_stretchPart_6 : decode cX2_stretchPart 6 = .ok (.getfield 48, 3) := by decide +kernel
theorem dX2_stretchPart_9 : decode cX2_stretchPart 9 = .ok (.goto 7, 3) := by decide +kernel
theorem dX2_stretchPart_12 : decode cX2_stretchPart 12 = .ok (.aload_n 0, 1) := by decide +kernel
theorem dX2_stretchPart_13 : decode cX2_stretchPart 13 = .ok (.getfield 51, 3) := by decide +kernel
theorem dX2_stretchPart_16 : decode cX2_stretchPart 16 = .ok (.istore_n 2, 1) := by decide +kernel
theorem dX2_stretchPart_17 : decode cX2_stretchPart 17 = .ok (.aload_n 0, 1) := by decide +kernel
theorem dX2_stretchPart_18 : decode cX2_stretchPart 18 = .ok (.getfield 51, 3) := by decide +kernel
theorem dX2_stretchPart_21 : decode cX2_stretchPart 21 = .ok (.istore_n 3, 1) := by decide +kernel
theorem dX2_stretchPart_22 : decode cX2_stretchPart 22 = .ok (.iload_n 3, 1) := by decide +kernel
theorem dX2_stretchPart_23 : decode cX2_stretchPart 23 = .ok (.iconst 1, 1) := by decide +kernel
theorem dX2_stretchPart_24 : decode cX2_stretchPart 24 = .ok (.if_icmp .le 31, 3) := by decide +kernel
theorem dX2_stretchPart_27 : decode cX2_stretchPart 27 = .ok (.aload_n 0, 1) := by decide +kernel
theorem dX2_stretchPart_28 : decode cX2_stretchPart 28 = .ok (.getfield 48, 3) := by decide +kernel
theorem dX2_stretchPart_31 : decode cX2_stretchPart 31 = .ok (.iload_n 3, 1) := by decide +kernel
theorem dX2_stretchPart_32 : decode cX2_stretchPart 32 = .ok (.irem, 1) := by decide +kernel
theorem dX2_stretchPart_33 : decode cX2_stretchPart 33 = .ok (.ifCond .ne 16, 3) := by decide +kernel
theorem dX2_stretchPart_36 : decode cX2_stretchPart 36 = .ok (.aload_n 0, 1) := by decide +kernel
theorem dX2_stretchPart_37 : decode cX2_stretchPart 37 = .ok (.getfield 51, 3) := by decide +kernel
theorem dX2_stretchPart_40 : decode cX2_stretchPart 40 = .ok (.iload_n 3, 1) := by decide +kernel
theorem dX2_stretchPart_41 : decode cX2_stretchPart 41 = .ok (.irem, 1) := by decide +kernel
theorem dX2_stretchPart_42 : decode cX2_stretchPart 42 = .ok (.ifCond .ne 7, 3) := by decide +kernel
theorem dX2_stretchPart_45 : decode cX2_stretchPart 45 = .ok (.iload_n 2, 1) := by decide +kernel
theorem dX2_stretchPart_46 : decode cX2_stretchPart 46 = .ok (.iload_n 3, 1) := by decide +kernel
theorem dX2_stretchPart_47 : decode cX2_stretchPart 47 = .ok (.idiv, 1) := by decide +kernel
theorem dX2_stretchPart_48 : decode cX2_stretchPart 48 = .ok (.ireturn, 1) := by decide +kernel
theorem dX2_stretchPart_49 : decode cX2_stretchPart 49 = .ok (.iinc 3 (-1), 3) := by decide +kernel
theorem dX2_stretchPart_52 : decode cX2_stretchPart 52 = .ok (.goto (-30), 3) := by decide +kernel
theorem dX2_stretchPart_55 : decode cX2_stretchPart 55 = .ok (.iload_n 2, 1) := by decide +kernel
theorem dX2_stretchPart_56 : decode cX2_stretchPart 56 = .ok (.ireturn, 1) := by decide +kernel
theorem dX2_leastStretched_0 : decode cX2_leastStretched 0 = .ok (.aload_n 0, 1) := by decide +kernel
theorem dX2_leastStretched_1 : decode cX2_leastStretched 1 = .ok (.bipush (-4), 2) := by decide +kernel
theorem dX2_leastStretched_3 : decode cX2_leastStretched 3 = .ok (.putfield 58, 3) := by decide +kernel
theorem dX2_leastStretched_6 : decode cX2_leastStretched 6 = .ok (.aload_n 0, 1) := by decide +kernel
theorem dX2_leastStretched_7 : decode cX2_leastStretched 7 = .ok (.iconst 0, 1) := by decide +kernel
theorem dX2_leastStretched_8 : decode cX2_leastStretched 8 = .ok (.iconst 0, 1) := by decide +kernel
theorem dX2_leastStretched_9 : decode cX2_leastStretched 9 = .ok (.iconst 0, 1) := by decide +kernel
theorem dX2_leastStretched_10 : decode cX2_leastStretched 10 = .ok (.invokevirtual 61, 3) := by decide +kernel
theorem dX2_leastStretched_13 : decode cX2_leastStretched 13 = .ok (.aload_n 0, 1) := by decide +kernel
theorem dX2_leastStretched_14 : decode cX2_leastStretched 14 = .ok (.getfield 58, 3) := by decide +kernel
theorem dX2_leastStretched_17 : decode cX2_leastStretched 17 = .ok (.ireturn, 1) := by decide +kernel
theorem dX2_tryOrders_0 : decode cX2_tryOrders 0 = .ok (.iload_n 1, 1) := by decide +kernel
theorem dX2_tryOrders_1 : decode cX2_tryOrders 1 = .ok (.aload_n 0, 1) := by decide +kernel
theorem dX2_tryOrders_2 : decode cX2_tryOrders 2 = .ok (.getfield 15, 3) := by decide +kernel
theorem dX2_tryOrders_5 : decode cX2_tryOrders 5 = .ok (.getfield 19, 3) := by decide +kernel
theorem dX2_tryOrders_8 : decode cX2_tryOrders 8 = .ok (.if_icmp .lt 14, 3) := by decide +kernel
theorem dX2_tryOrders_11 : decode cX2_tryOrders 11 = .ok (.aload_n 0, 1) := by decide +kernel
theorem dX2_tryOrders_12 : decode cX2_tryOrders 12 = .ok (.iload_n 3, 1) := by decide +kernel
theorem dX2_tryOrders_13 : decode cX2_tryOrders 13 = .ok (.invokevirtual 65, 3) := by decide +kernel
theorem dX2_tryOrders_16 : decode cX2_tryOrders 16 = .ok (.aload_n 0, 1) := by decide +kernel
theorem dX2_tryOrders_17 : decode cX2_tryOrders 17 = .ok (.iload_n 3, 1) := by decide +kernel
theorem dX2_tryOrders_18 : decode cX2_tryOrders 18 = .ok (.invokevirtual 69, 3) := by decide +kernel
theorem dX2_tryOrders_21 : decode cX2_tryOrders 21 = .ok (.return_, 1) := by decide +kernel
theorem dX2_tryOrders_22 : decode cX2_tryOrders 22 = .ok (.iconst 0, 1) := by decide +kernel
theorem dX2_tryOrders_23 : decode cX2_tryOrders 23 = .ok (.istore 4, 2) := by decide +kernel
theorem dX2_tryOrders_25 : decode cX2_tryOrders 25 = .ok (.iload 4, 2) := by decide +kernel
theorem dX2_tryOrders_27 : decode cX2_tryOrders 27 = .ok (.aload_n 0, 1) := by decide +kernel
theorem dX2_tryOrders_28 : decode cX2_tryOrders 28 = .ok (.getfield 15, 3) := by decide +kernel
theorem dX2_tryOrders_31 : decode cX2_tryOrders 31 = .ok (.getfield 19, 3) := by decide +kernel
theorem dX2_tryOrders_34 : decode cX2_tryOrders 34 = .ok (.if_icmp .ge 39, 3) := by decide +kernel
theorem dX2_tryOrders_37 : decode cX2_tryOrders 37 = .ok (.iload_n 2, 1) := by decide +kernel
theorem dX2_tryOrders_38 : decode cX2_tryOrders 38 = .ok (.iload 4, 2) := by decide +kernel
theorem dX2_tryOrders_40 : decode cX2_tryOrders 40 = .ok (.invokestatic 72, 3) := by decide +kernel
theorem dX2_tryOrders_43 : decode cX2_tryOrders 43 = .ok (.ifCond .ne 24, 3) := by decide +kernel
theorem dX2_tryOrders_46 : decode cX2_tryOrders 46 = .ok (.aload_n 0, 1) := by decide +kernel
theorem dX2_tryOrders_47 : decode cX2_tryOrders 47 = .ok (.iload_n 1, 1) := by decide +kernel
theorem dX2_tryOrders_48 : decode cX2_tryOrders 48 = .ok (.iconst 1, 1) := by decide +kernel
theorem dX2_tryOrders_49 : decode cX2_tryOrders 49 = .ok (.iadd, 1) := by decide +kernel
theorem dX2_tryOrders_50 : decode cX2_tryOrders 50 = .ok (.iload_n 2, 1) := by decide +kernel
theorem dX2_tryOrders_51 : decode cX2_tryOrders 51 = .ok (.iconst 1, 1) := by decide +kernel
theorem dX2_tryOrders_52 : decode cX2_tryOrders 52 = .ok (.iload 4, 2) := by decide +kernel
theorem dX2_tryOrders_54 : decode cX2_tryOrders 54 = .ok (.ishl, 1) := by decide +kernel
theorem dX2_tryOrders_55 : decode cX2_tryOrders 55 = .ok (.ior, 1) := by decide +kernel
theorem dX2_tryOrders_56 : decode cX2_tryOrders 56 = .ok (.iload_n 3, 1) := by decide +kernel
theorem dX2_tryOrders_57 : decode cX2_tryOrders 57 = .ok (.iload 4, 2) := by decide +kernel
theorem dX2_tryOrders_59 : decode cX2_tryOrders 59 = .ok (.iconst 3, 1) := by decide +kernel
theorem dX2_tryOrders_60 : decode cX2_tryOrders 60 = .ok (.iload_n 1, 1) := by decide +kernel
theorem dX2_tryOrders_61 : decode cX2_tryOrders 61 = .ok (.imul, 1) := by decide +kernel
theorem dX2_tryOrders_62 : decode cX2_tryOrders 62 = .ok (.ishl, 1) := by decide +kernel
theorem dX2_tryOrders_63 : decode cX2_tryOrders 63 = .ok (.ior, 1) := by decide +kernel
theorem dX2_tryOrders_64 : decode cX2_tryOrders 64 = .ok (.invokevirtual 61, 3) := by decide +kernel
theorem dX2_tryOrders_67 : decode cX2_tryOrders 67 = .ok (.iinc 4 1, 3) := by decide +kernel
theorem dX2_tryOrders_70 : decode cX2_tryOrders 70 = .ok (.goto (-45), 3) := by decide +kernel
theorem dX2_tryOrders_73 : decode cX2_tryOrders 73 = .ok (.return_, 1) := by decide +kernel
theorem dX2_keepIfBetter_0 : decode cX2_keepIfBetter 0 = .ok (.aload_n 0, 1) := by decide +kernel
theorem dX2_keepIfBetter_1 : decode cX2_keepIfBetter 1 = .ok (.getfield 58, 3) := by decide +kernel
theorem dX2_keepIfBetter_4 : decode cX2_keepIfBetter 4 = .ok (.bipush (-4), 2) := by decide +kernel
theorem dX2_keepIfBetter_6 : decode cX2_keepIfBetter 6 = .ok (.if_icmp .eq 24, 3) := by decide +kernel
theorem dX2_keepIfBetter_9 : decode cX2_keepIfBetter 9 = .ok (.aload_n 0, 1) := by decide +kernel
theorem dX2_keepIfBetter_10 : decode cX2_keepIfBetter 10 = .ok (.getfield 48, 3) := by decide +kernel
theorem dX2_keepIfBetter_13 : decode cX2_keepIfBetter 13 = .ok (.aload_n 0, 1) := by decide +kernel
theorem dX2_keepIfBetter_14 : decode cX2_keepIfBetter 14 = .ok (.getfield 76, 3) := by decide +kernel
theorem dX2_keepIfBetter_17 : decode cX2_keepIfBetter 17 = .ok (.imul, 1) := by decide +kernel
theorem dX2_keepIfBetter_18 : decode cX2_keepIfBetter 18 = .ok (.aload_n 0, 1) := by decide +kernel
theorem dX2_keepIfBetter_19 : decode cX2_keepIfBetter 19 = .ok (.getfield 79, 3) := by decide +kernel
theorem dX2_keepIfBetter_22 : decode cX2_keepIfBetter 22 = .ok (.aload_n 0, 1) := by decide +kernel
theorem dX2_keepIfBetter_23 : decode cX2_keepIfBetter 23 = .ok (.getfield 51, 3) := by decide +kernel
theorem dX2_keepIfBetter_26 : decode cX2_keepIfBetter 26 = .ok (.imul, 1) := by decide +kernel
theorem dX2_keepIfBetter_27 : decode cX2_keepIfBetter 27 = .ok (.if_icmp .ge 24, 3) := by decide +kernel
theorem dX2_keepIfBetter_30 : decode cX2_keepIfBetter 30 = .ok (.aload_n 0, 1) := by decide +kernel
theorem dX2_keepIfBetter_31 : decode cX2_keepIfBetter 31 = .ok (.iload_n 1, 1) := by decide +kernel
theorem dX2_keepIfBetter_32 : decode cX2_keepIfBetter 32 = .ok (.putfield 58, 3) := by decide +kernel
theorem dX2_keepIfBetter_35 : decode cX2_keepIfBetter 35 = .ok (.aload_n 0, 1) := by decide +kernel
theorem dX2_keepIfBetter_36 : decode cX2_keepIfBetter 36 = .ok (.aload_n 0, 1) := by decide +kernel
theorem dX2_keepIfBetter_37 : decode cX2_keepIfBetter 37 = .ok (.getfield 48, 3) := by decide +kernel
theorem dX2_keepIfBetter_40 : decode cX2_keepIfBetter 40 = .ok (.putfield 79, 3) := by decide +kernel
theorem dX2_keepIfBetter_43 : decode cX2_keepIfBetter 43 = .ok (.aload_n 0, 1) := by decide +kernel
theorem dX2_keepIfBetter_44 : decode cX2_keepIfBetter 44 = .ok (.aload_n 0, 1) := by decide +kernel
theorem dX2_keepIfBetter_45 : decode cX2_keepIfBetter 45 = .ok (.getfield 51, 3) := by decide +kernel
theorem dX2_keepIfBetter_48 : decode cX2_keepIfBetter 48 = .ok (.putfield 76, 3) := by decide +kernel
theorem dX2_keepIfBetter_51 : decode cX2_keepIfBetter 51 = .ok (.return_, 1) := by decide +kernel
theorem dX3_init_0 : decode cX3_init 0 = .ok (.aload_n 0, 1) := by decide +kernel
theorem dX3_init_1 : decode cX3_init 1 = .ok (.invokespecial 3, 3) := by decide +kernel
theorem dX3_init_4 : decode cX3_init 4 = .ok (.aload_n 0, 1) := by decide +kernel
theorem dX3_init_5 : decode cX3_init 5 = .ok (.bipush 32, 2) := by decide +kernel
theorem dX3_init_7 : decode cX3_init 7 = .ok (.newarray .long, 2) := by decide +kernel
theorem dX3_init_9 : decode cX3_init 9 = .ok (.putfield 9, 3) := by decide +kernel
theorem dX3_init_12 : decode cX3_init 12 = .ok (.aload_n 0, 1) := by decide +kernel
theorem dX3_init_13 : decode cX3_init 13 = .ok (.aload_n 1, 1) := by decide +kernel
theorem dX3_init_14 : decode cX3_init 14 = .ok (.putfield 15, 3) := by decide +kernel
theorem dX3_init_17 : decode cX3_init 17 = .ok (.return_, 1) := by decide +kernel
theorem dX3_noneIsNegative_0 : decode cX3_noneIsNegative 0 = .ok (.iconst 1, 1) := by decide +kernel
theorem dX3_noneIsNegative_1 : decode cX3_noneIsNegative 1 = .ok (.istore_n 1, 1) := by decide +kernel
theorem dX3_noneIsNegative_2 : decode cX3_noneIsNegative 2 = .ok (.iload_n 1, 1) := by decide +kernel
theorem dX3_noneIsNegative_3 : decode cX3_noneIsNegative 3 = .ok (.iconst 1, 1) := by decide +kernel
theorem dX3_noneIsNegative_4 : decode cX3_noneIsNegative 4 = .ok (.aload_n 0, 1) := by decide +kernel
theorem dX3_noneIsNegative_5 : decode cX3_noneIsNegative 5 = .ok (.getfield 15, 3) := by decide +kernel
theorem dX3_noneIsNegative_8 : decode cX3_noneIsNegative 8 = .ok (.getfield 19, 3) := by decide +kernel
theorem dX3_noneIsNegative_11 : decode cX3_noneIsNegative 11 = .ok (.iconst 1, 1) := by decide +kernel
theorem dX3_noneIsNegative_12 : decode cX3_noneIsNegative 12 = .ok (.isub, 1) := by decide +kernel
theorem dX3_noneIsNegative_13 : decode cX3_noneIsNegative 13 = .ok (.ishl, 1) := by decide +kernel
theorem dX3_noneIsNegative_14 : decode cX3_noneIsNegative 14 = .ok (.if_icmp .ge 21, 3) := by decide +kernel
theorem dX3_noneIsNegative_17 : decode cX3_noneIsNegative 17 = .ok (.aload_n 0, 1) := by decide +kernel
theorem dX3_noneIsNegative_18 : decode cX3_noneIsNegative 18 = .ok (.iload_n 1, 1) := by decide +kernel
theorem dX3_noneIsNegative_19 : decode cX3_noneIsNegative 19 = .ok (.invokevirtual 25, 3) := by decide +kernel
theorem dX3_noneIsNegative_22 : decode cX3_noneIsNegative 22 = .ok (.lconst 0, 1) := by decide +kernel
theorem dX3_noneIsNegative_23 : decode cX3_noneIsNegative 23 = .ok (.lcmp, 1) := by decide +kernel
theorem dX3_noneIsNegative_24 : decode cX3_noneIsNegative 24 = .ok (.ifCond .ge 5, 3) := by decide +kernel
theorem dX3_noneIsNegative_27 : decode cX3_noneIsNegative 27 = .ok (.iconst 0, 1) := by decide +kernel
theorem dX3_noneIsNegative_28 : decode cX3_noneIsNegative 28 = .ok (.ireturn, 1) := by decide +kernel
theorem dX3_noneIsNegative_29 : decode cX3_noneIsNegative 29 = .ok (.iinc 1 1, 3) := by decide +kernel
theorem dX3_noneIsNegative_32 : decode cX3_noneIsNegative 32 = .ok (.goto (-30), 3) := by decide +kernel
theorem dX3_noneIsNegative_35 : decode cX3_noneIsNegative 35 = .ok (.iconst 1, 1) := by decide +kernel
theorem dX3_noneIsNegative_36 : decode cX3_noneIsNegative 36 = .ok (.ireturn, 1) := by decide +kernel
theorem dX3_rank_0 : decode cX3_rank 0 = .ok (.iconst 0, 1) := by decide +kernel
theorem dX3_rank_1 : decode cX3_rank 1 = .ok (.istore_n 1, 1) := by decide +kernel
theorem dX3_rank_2 : decode cX3_rank 2 = .ok (.iconst 1, 1) := by decide +kernel
theorem dX3_rank_3 : decode cX3_rank 3 = .ok (.istore_n 2, 1) := by decide +kernel
theorem dX3_rank_4 : decode cX3_rank 4 = .ok (.iload_n 2, 1) := by decide +kernel
theorem dX3_rank_5 : decode cX3_rank 5 = .ok (.iconst 1, 1) := by decide +kernel
theorem dX3_rank_6 : decode cX3_rank 6 = .ok (.aload_n 0, 1) := by decide +kernel
theorem dX3_rank_7 : decode cX3_rank 7 = .ok (.getfield 15, 3) := by decide +kernel
theorem dX3_rank_10 : decode cX3_rank 10 = .ok (.getfield 19, 3) := by decide +kernel
theorem dX3_rank_13 : decode cX3_rank 13 = .ok (.iconst 1, 1) := by decide +kernel
theorem dX3_rank_14 : decode cX3_rank 14 = .ok (.isub, 1) := by decide +kernel
theorem dX3_rank_15 : decode cX3_rank 15 = .ok (.ishl, 1) := by decide +kernel
theorem dX3_rank_16 : decode cX3_rank 16 = .ok (.if_icmp .ge 28, 3) := by decide +kernel
theorem dX3_rank_19 : decode cX3_rank 19 = .ok (.aload_n 0, 1) := by decide +kernel
theorem dX3_rank_20 : decode cX3_rank 20 = .ok (.iload_n 2, 1) := by decide +kernel
theorem dX3_rank_21 : decode cX3_rank 21 = .ok (.invokevirtual 25, 3) := by decide +kernel
theorem dX3_rank_24 : decode cX3_rank 24 = .ok (.lconst 0, 1) := by decide +kernel
theorem dX3_rank_25 : decode cX3_rank 25 = .ok (.lcmp, 1) := by decide +kernel
theorem dX3_rank_26 : decode cX3_rank 26 = .ok (.ifCond .eq 12, 3) := by decide +kernel
theorem dX3_rank_29 : decode cX3_rank 29 = .ok (.iload_n 1, 1) := by decide +kernel
theorem dX3_rank_30 : decode cX3_rank 30 = .ok (.iload_n 2, 1) := by decide +kernel
theorem dX3_rank_31 : decode cX3_rank 31 = .ok (.invokestatic 29, 3) := by decide +kernel
theorem dX3_rank_34 : decode cX3_rank 34 = .ok (.invokestatic 35, 3) := by decide +kernel
theorem dX3_rank_37 : decode cX3_rank 37 = .ok (.istore_n 1, 1) := by decide +kernel
theorem dX3_rank_38 : decode cX3_rank 38 = .ok (.iinc 2 1, 3) := by decide +kernel
theorem dX3_rank_41 : decode cX3_rank 41 = .ok (.goto (-37), 3) := by decide +kernel
theorem dX3_rank_44 : decode cX3_rank 44 = .ok (.iload_n 1, 1) := by decide +kernel
theorem dX3_rank_45 : decode cX3_rank 45 = .ok (.ireturn, 1) := by decide +kernel
theorem dX3_determinant_0 : decode cX3_determinant 0 = .ok (.aload_n 0, 1) := by decide +kernel
theorem dX3_determinant_1 : decode cX3_determinant 1 = .ok (.getfield 9, 3) := by decide +kernel
theorem dX3_determinant_4 : decode cX3_determinant 4 = .ok (.iconst 0, 1) := by decide +kernel
theorem dX3_determinant_5 : decode cX3_determinant 5 = .ok (.lconst 1, 1) := by decide +kernel
theorem dX3_determinant_6 : decode cX3_determinant 6 = .ok (.lastore, 1) := by decide +kernel
theorem dX3_determinant_7 : decode cX3_determinant 7 = .ok (.iconst 1, 1) := by decide +kernel
theorem dX3_determinant_8 : decode cX3_determinant 8 = .ok (.istore_n 2, 1) := by decide +kernel
theorem dX3_determinant_9 : decode cX3_determinant 9 = .ok (.iload_n 2, 1) := by decide +kernel
theorem dX3_determinant_10 : decode cX3_determinant 10 = .ok (.iload_n 1, 1) := by decide +kernel
theorem dX3_determinant_11 : decode cX3_determinant 11 = .ok (.if_icmp .gt 36, 3) := by decide +kernel
theorem dX3_determinant_14 : decode cX3_determinant 14 = .ok (.iload_n 2, 1) := by decide +kernel
theorem dX3_determinant_15 : decode cX3_determinant 15 = .ok (.iload_n 1, 1) := by decide +kernel
theorem dX3_determinant_16 : decode cX3_determinant 16 = .ok (.iconst (-1), 1) := by decide +kernel
theorem dX3_determinant_17 : decode cX3_determinant 17 = .ok (.ixor, 1) := by decide +kernel
theorem dX3_determinant_18 : decode cX3_determinant 18 = .ok (.iand, 1) := by decide +kernel
theorem dX3_determinant_19 : decode cX3_determinant 19 = .ok (.ifCond .ne 22, 3) := by decide +kernel
theorem dX3_determinant_22 : decode cX3_determinant 22 = .ok (.aload_n 0, 1) := by decide +kernel
theorem dX3_determinant_23 : decode cX3_determinant 23 = .ok (.getfield 9, 3) := by decide +kernel
theorem dX3_determinant_26 : decode cX3_determinant 26 = .ok (.iload_n 2, 1) := by decide +kernel
theorem dX3_determinant_27 : decode cX3_determinant 27 = .ok (.aload_n 0, 1) := by decide +kernel
theorem dX3_determinant_28 : decode cX3_determinant 28 = .ok (.iload_n 1, 1) := by decide +kernel
theorem dX3_determinant_29 : decode cX3_determinant 29 = .ok (.iload_n 2, 1) := by decide +kernel
theorem dX3_determinant_30 : decode cX3_determinant 30 = .ok (.invokestatic 29, 3) := by decide +kernel
theorem dX3_determinant_33 : decode cX3_determinant 33 = .ok (.invokestatic 41, 3) := by decide +kernel
theorem dX3_determinant_36 : decode cX3_determinant 36 = .ok (.iload_n 2, 1) := by decide +kernel
theorem dX3_determinant_37 : decode cX3_determinant 37 = .ok (.invokevirtual 44, 3) := by decide +kernel
theorem dX3_determinant_40 : decode cX3_determinant 40 = .ok (.lastore, 1) := by decide +kernel
theorem dX3_determinant_41 : decode cX3_determinant 41 = .ok (.iinc 2 1, 3) := by decide +kernel
theorem dX3_determinant_44 : decode cX3_determinant 44 = .ok (.goto (-35), 3) := by decide +kernel
theorem dX3_determinant_47 : decode cX3_determinant 47 = .ok (.aload_n 0, 1) := by decide +kernel
theorem dX3_determinant_48 : decode cX3_determinant 48 = .ok (.getfield 9, 3) := by decide +kernel
theorem dX3_determinant_51 : decode cX3_determinant 51 = .ok (.iload_n 1, 1) := by decide +kernel
theorem dX3_determinant_52 : decode cX3_determinant 52 = .ok (.laload, 1) := by decide +kernel
theorem dX3_determinant_53 : decode cX3_determinant 53 = .ok (.lreturn, 1) := by decide +kernel
theorem dX3_expand_0 : decode cX3_expand 0 = .ok (.lconst 0, 1) := by decide +kernel
theorem dX3_expand_1 : decode cX3_expand 1 = .ok (.lstore_n 3, 1) := by decide +kernel
theorem dX3_expand_2 : decode cX3_expand 2 = .ok (.iconst 0, 1) := by decide +kernel
theorem dX3_expand_3 : decode cX3_expand 3 = .ok (.istore 5, 2) := by decide +kernel
theorem dX3_expand_5 : decode cX3_expand 5 = .ok (.iload 5, 2) := by decide +kernel
theorem dX3_expand_7 : decode cX3_expand 7 = .ok (.aload_n 0, 1) := by decide +kernel
theorem dX3_expand_8 : decode cX3_expand 8 = .ok (.getfield 15, 3) := by decide +kernel
theorem dX3_expand_11 : decode cX3_expand 11 = .ok (.getfield 19, 3) := by decide +kernel
theorem dX3_expand_14 : decode cX3_expand 14 = .ok (.iconst 1, 1) := by decide +kernel
theorem dX3_expand_15 : decode cX3_expand 15 = .ok (.isub, 1) := by decide +kernel
theorem dX3_expand_16 : decode cX3_expand 16 = .ok (.if_icmp .ge 79, 3) := by decide +kernel
theorem dX3_expand_19 : decode cX3_expand 19 = .ok (.iload_n 2, 1) := by decide +kernel
theorem dX3_expand_20 : decode cX3_expand 20 = .ok (.iload 5, 2) := by decide +kernel
theorem dX3_expand_22 : decode cX3_expand 22 = .ok (.invokestatic 48, 3) := by decide +kernel
theorem dX3_expand_25 : decode cX3_expand 25 = .ok (.ifCond .eq 64, 3) := by decide +kernel
theorem dX3_expand_28 : decode cX3_expand 28 = .ok (.aload_n 0, 1) := by decide +kernel
theorem dX3_expand_29 : decode cX3_expand 29 = .ok (.iload_n 1, 1) := by decide +kernel
theorem dX3_expand_30 : decode cX3_expand 30 = .ok (.iload 5, 2) := by decide +kernel
theorem dX3_expand_32 : decode cX3_expand 32 = .ok (.invokevirtual 52, 3) := by decide +kernel
theorem dX3_expand_35 : decode cX3_expand 35 = .ok (.aload_n 0, 1) := by decide +kernel
theorem dX3_expand_36 : decode cX3_expand 36 = .ok (.getfield 9, 3) := by decide +kernel
theorem dX3_expand_39 : decode cX3_expand 39 = .ok (.iload_n 2, 1) := by decide +kernel
theorem dX3_expand_40 : decode cX3_expand 40 = .ok (.iconst 1, 1) := by decide +kernel
theorem dX3_expand_41 : decode cX3_expand 41 = .ok (.iload 5, 2) := by decide +kernel
theorem dX3_expand_43 : decode cX3_expand 43 = .ok (.ishl, 1) := by decide +kernel
theorem dX3_expand_44 : decode cX3_expand 44 = .ok (.iconst (-1), 1) := by decide +kernel
theorem dX3_expand_45 : decode cX3_expand 45 = .ok (.ixor, 1) := by decide +kernel
theorem dX3_expand_46 : decode cX3_expand 46 = .ok (.iand, 1) := by decide +kernel
theorem dX3_expand_47 : decode cX3_expand 47 = .ok (.laload, 1) := by decide +kernel
theorem dX3_expand_48 : decode cX3_expand 48 = .ok (.lmul, 1) := by decide +kernel
theorem dX3_expand_49 : decode cX3_expand 49 = .ok (.lstore 6, 2) := by decide +kernel
theorem dX3_expand_51 : decode cX3_expand 51 = .ok (.iload_n 2, 1) := by decide +kernel
theorem dX3_expand_52 : decode cX3_expand 52 = .ok (.iload 5, 2) := by decide +kernel
theorem dX3_expand_54 : decode cX3_expand 54 = .ok (.iconst 1, 1) := by decide +kernel
theorem dX3_expand_55 : decode cX3_expand 55 = .ok (.iadd, 1) := by decide +kernel
theorem dX3_expand_56 : decode cX3_expand 56 = .ok (.ishr, 1) := by decide +kernel
theorem dX3_expand_57 : decode cX3_expand 57 = .ok (.invokestatic 29, 3) := by decide +kernel
theorem dX3_expand_60 : decode cX3_expand 60 = .ok (.iconst 1, 1) := by decide +kernel
theorem dX3_expand_61 : decode cX3_expand 61 = .ok (.iand, 1) := by decide +kernel
theorem dX3_expand_62 : decode cX3_expand 62 = .ok (.iconst 1, 1) := by decide +kernel
theorem dX3_expand_63 : decode cX3_expand 63 = .ok (.if_icmp .ne 7, 3) := by decide +kernel
theorem dX3_expand_66 : decode cX3_expand 66 = .ok (.iconst 1, 1) := by decide +kernel
theorem dX3_expand_67 : decode cX3_expand 67 = .ok (.goto 4, 3) := by decide +kernel
theorem dX3_expand_70 : decode cX3_expand 70 = .ok (.iconst 0, 1) := by decide +kernel
theorem dX3_expand_71 : decode cX3_expand 71 = .ok (.istore 8, 2) := by decide +kernel
theorem dX3_expand_73 : decode cX3_expand 73 = .ok (.lload_n 3, 1) := by decide +kernel
theorem dX3_expand_74 : decode cX3_expand 74 = .ok (.iload 8, 2) := by decide +kernel
theorem dX3_expand_76 : decode cX3_expand 76 = .ok (.ifCond .eq 9, 3) := by decide +kernel
theorem dX3_expand_79 : decode cX3_expand 79 = .ok (.lload 6, 2) := by decide +kernel
theorem dX3_expand_81 : decode cX3_expand 81 = .ok (.lneg, 1) := by decide +kernel
theorem dX3_expand_82 : decode cX3_expand 82 = .ok (.goto 5, 3) := by decide +kernel
theorem dX3_expand_85 : decode cX3_expand 85 = .ok (.lload 6, 2) := by decide +kernel
theorem dX3_expand_87 : decode cX3_expand 87 = .ok (.ladd, 1) := by decide +kernel
theorem dX3_expand_88 : decode cX3_expand 88 = .ok (.lstore_n 3, 1) := by decide +kernel
theorem dX3_expand_89 : decode cX3_expand 89 = .ok (.iinc 5 1, 3) := by decide +kernel
theorem dX3_expand_92 : decode cX3_expand 92 = .ok (.goto (-87), 3) := by decide +kernel
theorem dX3_expand_95 : decode cX3_expand 95 = .ok (.lload_n 3, 1) := by decide +kernel
theorem dX3_expand_96 : decode cX3_expand 96 = .ok (.lreturn, 1) := by decide +kernel
theorem dX3_product_0 : decode cX3_product 0 = .ok (.aload_n 0, 1) := by decide +kernel
theorem dX3_product_1 : decode cX3_product 1 = .ok (.iconst 0, 1) := by decide +kernel
theorem dX3_product_2 : decode cX3_product 2 = .ok (.iload_n 1, 1) := by decide +kernel
theorem dX3_product_3 : decode cX3_product 3 = .ok (.iconst 1, 1) := by decide +kernel
theorem dX3_product_4 : decode cX3_product 4 = .ok (.iadd, 1) := by decide +kernel
theorem dX3_product_5 : decode cX3_product 5 = .ok (.invokevirtual 55, 3) := by decide +kernel
theorem dX3_product_8 : decode cX3_product 8 = .ok (.aload_n 0, 1) := by decide +kernel
theorem dX3_product_9 : decode cX3_product 9 = .ok (.iconst 0, 1) := by decide +kernel
theorem dX3_product_10 : decode cX3_product 10 = .ok (.iload_n 2, 1) := by decide +kernel
theorem dX3_product_11 : decode cX3_product 11 = .ok (.iconst 1, 1) := by decide +kernel
theorem dX3_product_12 : decode cX3_product 12 = .ok (.iadd, 1) := by decide +kernel
theorem dX3_product_13 : decode cX3_product 13 = .ok (.invokevirtual 55, 3) := by decide +kernel
theorem dX3_product_16 : decode cX3_product 16 = .ok (.ladd, 1) := by decide +kernel
theorem dX3_product_17 : decode cX3_product 17 = .ok (.aload_n 0, 1) := by decide +kernel
theorem dX3_product_18 : decode cX3_product 18 = .ok (.iload_n 1, 1) := by decide +kernel
theorem dX3_product_19 : decode cX3_product 19 = .ok (.iconst 1, 1) := by decide +kernel
theorem dX3_product_20 : decode cX3_product 20 = .ok (.iadd, 1) := by decide +kernel
theorem dX3_product_21 : decode cX3_product 21 = .ok (.iload_n 2, 1) := by decide +kernel
theorem dX3_product_22 : decode cX3_product 22 = .ok (.iconst 1, 1) := by decide +kernel
theorem dX3_product_23 : decode cX3_product 23 = .ok (.iadd, 1) := by decide +kernel
theorem dX3_product_24 : decode cX3_product 24 = .ok (.invokevirtual 55, 3) := by decide +kernel
theorem dX3_product_27 : decode cX3_product 27 = .ok (.lsub, 1) := by decide +kernel
theorem dX3_product_28 : decode cX3_product 28 = .ok (.lreturn, 1) := by decide +kernel
theorem dX3_square_0 : decode cX3_square 0 = .ok (.aload_n 0, 1) := by decide +kernel
theorem dX3_square_1 : decode cX3_square 1 = .ok (.getfield 15, 3) := by decide +kernel
theorem dX3_square_4 : decode cX3_square 4 = .ok (.iload_n 1, 1) := by decide +kernel
theorem dX3_square_5 : decode cX3_square 5 = .ok (.iload_n 2, 1) := by decide +kernel
theorem dX3_square_6 : decode cX3_square 6 = .ok (.invokevirtual 58, 3) := by decide +kernel
theorem dX3_square_9 : decode cX3_square 9 = .ok (.i2l, 1) := by decide +kernel
theorem dX3_square_10 : decode cX3_square 10 = .ok (.lstore_n 3, 1) := by decide +kernel
theorem dX3_square_11 : decode cX3_square 11 = .ok (.lload_n 3, 1) := by decide +kernel
theorem dX3_square_12 : decode cX3_square 12 = .ok (.lload_n 3, 1) := by decide +kernel
theorem dX3_square_13 : decode cX3_square 13 = .ok (.lmul, 1) := by decide +kernel
theorem dX3_square_14 : decode cX3_square 14 = .ok (.lreturn, 1) := by decide +kernel
theorem dX3_memberAt_0 : decode cX3_memberAt 0 = .ok (.iconst 0, 1) := by decide +kernel
theorem dX3_memberAt_1 : decode cX3_memberAt 1 = .ok (.istore_n 2, 1) := by decide +kernel
theorem dX3_memberAt_2 : decode cX3_memberAt 2 = .ok (.iconst 0, 1) := by decide +kernel
theorem dX3_memberAt_3 : decode cX3_memberAt 3 = .ok (.istore_n 3, 1) := by decide +kernel
theorem dX3_memberAt_4 : decode cX3_memberAt 4 = .ok (.iload_n 3, 1) := by decide +kernel
theorem dX3_memberAt_5 : decode cX3_memberAt 5 = .ok (.bipush 6, 2) := by decide +kernel
theorem dX3_memberAt_7 : decode cX3_memberAt 7 = .ok (.if_icmp .ge 27, 3) := by decide +kernel
theorem dX3_memberAt_10 : decode cX3_memberAt 10 = .ok (.iload_n 0, 1) := by decide +kernel
theorem dX3_memberAt_11 : decode cX3_memberAt 11 = .ok (.iload_n 3, 1) := by decide +kernel
theorem dX3_memberAt_12 : decode cX3_memberAt 12 = .ok (.invokestatic 48, 3) := by decide +kernel
theorem dX3_memberAt_15 : decode cX3_memberAt 15 = .ok (.ifCond .eq 13, 3) := by decide +kernel
theorem dX3_memberAt_18 : decode cX3_memberAt 18 = .ok (.iinc 2 1, 3) := by decide +kernel
theorem dX3_memberAt_21 : decode cX3_memberAt 21 = .ok (.iload_n 2, 1) := by decide +kernel
theorem dX3_memberAt_22 : decode cX3_memberAt 22 = .ok (.iload_n 1, 1) := by decide +kernel
theorem dX3_memberAt_23 : decode cX3_memberAt 23 = .ok (.if_icmp .ne 5, 3) := by decide +kernel
theorem dX3_memberAt_26 : decode cX3_memberAt 26 = .ok (.iload_n 3, 1) := by decide +kernel
theorem dX3_memberAt_27 : decode cX3_memberAt 27 = .ok (.ireturn, 1) := by decide +kernel
theorem dX3_memberAt_28 : decode cX3_memberAt 28 = .ok (.iinc 3 1, 3) := by decide +kernel
theorem dX3_memberAt_31 : decode cX3_memberAt 31 = .ok (.goto (-27), 3) := by decide +kernel
theorem dX3_memberAt_34 : decode cX3_memberAt 34 = .ok (.iconst 0, 1) := by decide +kernel
theorem dX3_memberAt_35 : decode cX3_memberAt 35 = .ok (.ireturn, 1) := by decide +kernel
theorem dX4_init_0 : decode cX4_init 0 = .ok (.aload_n 0, 1) := by decide +kernel
theorem dX4_init_1 : decode cX4_init 1 = .ok (.invokespecial 3, 3) := by decide +kernel
theorem dX4_init_4 : decode cX4_init 4 = .ok (.aload_n 0, 1) := by decide +kernel
theorem dX4_init_5 : decode cX4_init 5 = .ok (.new 9, 3) := by decide +kernel
theorem dX4_init_8 : decode cX4_init 8 = .ok (.dup, 1) := by decide +kernel
theorem dX4_init_9 : decode cX4_init 9 = .ok (.invokespecial 11, 3) := by decide +kernel
