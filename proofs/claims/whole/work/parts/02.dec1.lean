theorem dX4_init_12 : decode cX4_init 12 = .ok (.putfield 12, 3) := by decide +kernel
theorem dX4_init_15 : decode cX4_init 15 = .ok (.aload_n 0, 1) := by decide +kernel
theorem dX4_init_16 : decode cX4_init 16 = .ok (.new 18, 3) := by decide +kernel
theorem dX4_init_19 : decode cX4_init 19 = .ok (.dup, 1) := by decide +kernel
theorem dX4_init_20 : decode cX4_init 20 = .ok (.aload_n 0, 1) := by decide +kernel
theorem dX4_init_21 : decode cX4_init 21 = .ok (.getfield 12, 3) := by decide +kernel
theorem dX4_init_24 : decode cX4_init 24 = .ok (.invokespecial 20, 3) := by decide +kernel
theorem dX4_init_27 : decode cX4_init 27 = .ok (.putfield 23, 3) := by decide +kernel
theorem dX4_init_30 : decode cX4_init 30 = .ok (.aload_n 0, 1) := by decide +kernel
theorem dX4_init_31 : decode cX4_init 31 = .ok (.bipush 64, 2) := by decide +kernel
theorem dX4_init_33 : decode cX4_init 33 = .ok (.newarray .int, 2) := by decide +kernel
theorem dX4_init_35 : decode cX4_init 35 = .ok (.putfield 27, 3) := by decide +kernel
theorem dX4_init_38 : decode cX4_init 38 = .ok (.aload_n 0, 1) := by decide +kernel
theorem dX4_init_39 : decode cX4_init 39 = .ok (.aload_n 1, 1) := by decide +kernel
theorem dX4_init_40 : decode cX4_init 40 = .ok (.putfield 31, 3) := by decide +kernel
theorem dX4_init_43 : decode cX4_init 43 = .ok (.return_, 1) := by decide +kernel
theorem dX4_takeAll_0 : decode cX4_takeAll 0 = .ok (.aload_n 0, 1) := by decide +kernel
theorem dX4_takeAll_1 : decode cX4_takeAll 1 = .ok (.getfield 12, 3) := by decide +kernel
theorem dX4_takeAll_4 : decode cX4_takeAll 4 = .ok (.aload_n 0, 1) := by decide +kernel
theorem dX4_takeAll_5 : decode cX4_takeAll 5 = .ok (.getfield 31, 3) := by decide +kernel
theorem dX4_takeAll_8 : decode cX4_takeAll 8 = .ok (.invokevirtual 34, 3) := by decide +kernel
theorem dX4_takeAll_11 : decode cX4_takeAll 11 = .ok (.aload_n 0, 1) := by decide +kernel
theorem dX4_takeAll_12 : decode cX4_takeAll 12 = .ok (.getfield 23, 3) := by decide +kernel
theorem dX4_takeAll_15 : decode cX4_takeAll 15 = .ok (.iconst 0, 1) := by decide +kernel
theorem dX4_takeAll_16 : decode cX4_takeAll 16 = .ok (.invokevirtual 37, 3) := by decide +kernel
theorem dX4_takeAll_19 : decode cX4_takeAll 19 = .ok (.aload_n 0, 1) := by decide +kernel
theorem dX4_takeAll_20 : decode cX4_takeAll 20 = .ok (.getfield 23, 3) := by decide +kernel
theorem dX4_takeAll_23 : decode cX4_takeAll 23 = .ok (.getfield 41, 3) := by decide +kernel
theorem dX4_takeAll_26 : decode cX4_takeAll 26 = .ok (.ifCond .ne 7, 3) := by decide +kernel
theorem dX4_takeAll_29 : decode cX4_takeAll 29 = .ok (.iconst 1, 1) := by decide +kernel
theorem dX4_takeAll_30 : decode cX4_takeAll 30 = .ok (.goto 4, 3) := by decide +kernel
theorem dX4_takeAll_33 : decode cX4_takeAll 33 = .ok (.iconst 0, 1) := by decide +kernel
theorem dX4_takeAll_34 : decode cX4_takeAll 34 = .ok (.istore_n 1, 1) := by decide +kernel
theorem dX4_takeAll_35 : decode cX4_takeAll 35 = .ok (.iconst 2, 1) := by decide +kernel
theorem dX4_takeAll_36 : decode cX4_takeAll 36 = .ok (.istore_n 2, 1) := by decide +kernel
theorem dX4_takeAll_37 : decode cX4_takeAll 37 = .ok (.iload_n 2, 1) := by decide +kernel
theorem dX4_takeAll_38 : decode cX4_takeAll 38 = .ok (.iconst 1, 1) := by decide +kernel
theorem dX4_takeAll_39 : decode cX4_takeAll 39 = .ok (.aload_n 0, 1) := by decide +kernel
theorem dX4_takeAll_40 : decode cX4_takeAll 40 = .ok (.getfield 12, 3) := by decide +kernel
theorem dX4_takeAll_43 : decode cX4_takeAll 43 = .ok (.getfield 45, 3) := by decide +kernel
theorem dX4_takeAll_46 : decode cX4_takeAll 46 = .ok (.ishl, 1) := by decide +kernel
theorem dX4_takeAll_47 : decode cX4_takeAll 47 = .ok (.if_icmp .ge 43, 3) := by decide +kernel
theorem dX4_takeAll_50 : decode cX4_takeAll 50 = .ok (.aload_n 0, 1) := by decide +kernel
theorem dX4_takeAll_51 : decode cX4_takeAll 51 = .ok (.getfield 27, 3) := by decide +kernel
theorem dX4_takeAll_54 : decode cX4_takeAll 54 = .ok (.iload_n 2, 1) := by decide +kernel
theorem dX4_takeAll_55 : decode cX4_takeAll 55 = .ok (.iload_n 1, 1) := by decide +kernel
theorem dX4_takeAll_56 : decode cX4_takeAll 56 = .ok (.ifCond .eq 11, 3) := by decide +kernel
theorem dX4_takeAll_59 : decode cX4_takeAll 59 = .ok (.aload_n 0, 1) := by decide +kernel
theorem dX4_takeAll_60 : decode cX4_takeAll 60 = .ok (.iload_n 2, 1) := by decide +kernel
theorem dX4_takeAll_61 : decode cX4_takeAll 61 = .ok (.invokevirtual 48, 3) := by decide +kernel
theorem dX4_takeAll_64 : decode cX4_takeAll 64 = .ok (.goto 4, 3) := by decide +kernel
theorem dX4_takeAll_67 : decode cX4_takeAll 67 = .ok (.iconst 0, 1) := by decide +kernel
theorem dX4_takeAll_68 : decode cX4_takeAll 68 = .ok (.iastore, 1) := by decide +kernel
theorem dX4_takeAll_69 : decode cX4_takeAll 69 = .ok (.aload_n 0, 1) := by decide +kernel
theorem dX4_takeAll_70 : decode cX4_takeAll 70 = .ok (.getfield 12, 3) := by decide +kernel
theorem dX4_takeAll_73 : decode cX4_takeAll 73 = .ok (.iload_n 2, 1) := by decide +kernel
theorem dX4_takeAll_74 : decode cX4_takeAll 74 = .ok (.aload_n 0, 1) := by decide +kernel
theorem dX4_takeAll_75 : decode cX4_takeAll 75 = .ok (.getfield 27, 3) := by decide +kernel
theorem dX4_takeAll_78 : decode cX4_takeAll 78 = .ok (.iload_n 2, 1) := by decide +kernel
theorem dX4_takeAll_79 : decode cX4_takeAll 79 = .ok (.iaload, 1) := by decide +kernel
theorem dX4_takeAll_80 : decode cX4_takeAll 80 = .ok (.ineg, 1) := by decide +kernel
theorem dX4_takeAll_81 : decode cX4_takeAll 81 = .ok (.invokevirtual 52, 3) := by decide +kernel
theorem dX4_takeAll_84 : decode cX4_takeAll 84 = .ok (.iinc 2 2, 3) := by decide +kernel
theorem dX4_takeAll_87 : decode cX4_takeAll 87 = .ok (.goto (-50), 3) := by decide +kernel
theorem dX4_takeAll_90 : decode cX4_takeAll 90 = .ok (.return_, 1) := by decide +kernel
theorem dX4_mostHalves_0 : decode cX4_mostHalves 0 = .ok (.bipush 60, 2) := by decide +kernel
theorem dX4_mostHalves_2 : decode cX4_mostHalves 2 = .ok (.istore_n 2, 1) := by decide +kernel
theorem dX4_mostHalves_3 : decode cX4_mostHalves 3 = .ok (.iconst 0, 1) := by decide +kernel
theorem dX4_mostHalves_4 : decode cX4_mostHalves 4 = .ok (.istore_n 3, 1) := by decide +kernel
theorem dX4_mostHalves_5 : decode cX4_mostHalves 5 = .ok (.iload_n 3, 1) := by decide +kernel
theorem dX4_mostHalves_6 : decode cX4_mostHalves 6 = .ok (.aload_n 0, 1) := by decide +kernel
theorem dX4_mostHalves_7 : decode cX4_mostHalves 7 = .ok (.getfield 12, 3) := by decide +kernel
theorem dX4_mostHalves_10 : decode cX4_mostHalves 10 = .ok (.getfield 45, 3) := by decide +kernel
theorem dX4_mostHalves_13 : decode cX4_mostHalves 13 = .ok (.if_icmp .ge 88, 3) := by decide +kernel
theorem dX4_mostHalves_16 : decode cX4_mostHalves 16 = .ok (.iconst 0, 1) := by decide +kernel
theorem dX4_mostHalves_17 : decode cX4_mostHalves 17 = .ok (.istore 4, 2) := by decide +kernel
theorem dX4_mostHalves_19 : decode cX4_mostHalves 19 = .ok (.iload 4, 2) := by decide +kernel
theorem dX4_mostHalves_21 : decode cX4_mostHalves 21 = .ok (.aload_n 0, 1) := by decide +kernel
theorem dX4_mostHalves_22 : decode cX4_mostHalves 22 = .ok (.getfield 12, 3) := by decide +kernel
theorem dX4_mostHalves_25 : decode cX4_mostHalves 25 = .ok (.getfield 45, 3) := by decide +kernel
theorem dX4_mostHalves_28 : decode cX4_mostHalves 28 = .ok (.if_icmp .ge 67, 3) := by decide +kernel
theorem dX4_mostHalves_31 : decode cX4_mostHalves 31 = .ok (.iload 4, 2) := by decide +kernel
theorem dX4_mostHalves_33 : decode cX4_mostHalves 33 = .ok (.istore 5, 2) := by decide +kernel
theorem dX4_mostHalves_35 : decode cX4_mostHalves 35 = .ok (.iload 5, 2) := by decide +kernel
theorem dX4_mostHalves_37 : decode cX4_mostHalves 37 = .ok (.aload_n 0, 1) := by decide +kernel
theorem dX4_mostHalves_38 : decode cX4_mostHalves 38 = .ok (.getfield 12, 3) := by decide +kernel
theorem dX4_mostHalves_41 : decode cX4_mostHalves 41 = .ok (.getfield 45, 3) := by decide +kernel
theorem dX4_mostHalves_44 : decode cX4_mostHalves 44 = .ok (.if_icmp .ge 45, 3) := by decide +kernel
theorem dX4_mostHalves_47 : decode cX4_mostHalves 47 = .ok (.iload_n 1, 1) := by decide +kernel
theorem dX4_mostHalves_48 : decode cX4_mostHalves 48 = .ok (.iload_n 3, 1) := by decide +kernel
theorem dX4_mostHalves_49 : decode cX4_mostHalves 49 = .ok (.iload 4, 2) := by decide +kernel
theorem dX4_mostHalves_51 : decode cX4_mostHalves 51 = .ok (.invokestatic 56, 3) := by decide +kernel
theorem dX4_mostHalves_54 : decode cX4_mostHalves 54 = .ok (.ifCond .eq 29, 3) := by decide +kernel
theorem dX4_mostHalves_57 : decode cX4_mostHalves 57 = .ok (.iload_n 1, 1) := by decide +kernel
theorem dX4_mostHalves_58 : decode cX4_mostHalves 58 = .ok (.iload_n 3, 1) := by decide +kernel
theorem dX4_mostHalves_59 : decode cX4_mostHalves 59 = .ok (.iload 5, 2) := by decide +kernel
theorem dX4_mostHalves_61 : decode cX4_mostHalves 61 = .ok (.invokestatic 56, 3) := by decide +kernel
theorem dX4_mostHalves_64 : decode cX4_mostHalves 64 = .ok (.ifCond .eq 19, 3) := by decide +kernel
theorem dX4_mostHalves_67 : decode cX4_mostHalves 67 = .ok (.iload_n 2, 1) := by decide +kernel
theorem dX4_mostHalves_68 : decode cX4_mostHalves 68 = .ok (.aload_n 0, 1) := by decide +kernel
theorem dX4_mostHalves_69 : decode cX4_mostHalves 69 = .ok (.iload 4, 2) := by decide +kernel
theorem dX4_mostHalves_71 : decode cX4_mostHalves 71 = .ok (.iload_n 3, 1) := by decide +kernel
theorem dX4_mostHalves_72 : decode cX4_mostHalves 72 = .ok (.iload 5, 2) := by decide +kernel
theorem dX4_mostHalves_74 : decode cX4_mostHalves 74 = .ok (.invokevirtual 60, 3) := by decide +kernel
theorem dX4_mostHalves_77 : decode cX4_mostHalves 77 = .ok (.iconst 2, 1) := by decide +kernel
theorem dX4_mostHalves_78 : decode cX4_mostHalves 78 = .ok (.idiv, 1) := by decide +kernel
theorem dX4_mostHalves_79 : decode cX4_mostHalves 79 = .ok (.invokestatic 64, 3) := by decide +kernel
theorem dX4_mostHalves_82 : decode cX4_mostHalves 82 = .ok (.istore_n 2, 1) := by decide +kernel
theorem dX4_mostHalves_83 : decode cX4_mostHalves 83 = .ok (.iinc 5 1, 3) := by decide +kernel
theorem dX4_mostHalves_86 : decode cX4_mostHalves 86 = .ok (.goto (-51), 3) := by decide +kernel
theorem dX4_mostHalves_89 : decode cX4_mostHalves 89 = .ok (.iinc 4 1, 3) := by decide +kernel
theorem dX4_mostHalves_92 : decode cX4_mostHalves 92 = .ok (.goto (-73), 3) := by decide +kernel
theorem dX4_mostHalves_95 : decode cX4_mostHalves 95 = .ok (.iinc 3 1, 3) := by decide +kernel
theorem dX4_mostHalves_98 : decode cX4_mostHalves 98 = .ok (.goto (-93), 3) := by decide +kernel
theorem dX4_mostHalves_101 : decode cX4_mostHalves 101 = .ok (.iload_n 2, 1) := by decide +kernel
theorem dX4_mostHalves_102 : decode cX4_mostHalves 102 = .ok (.ireturn, 1) := by decide +kernel
theorem dX4_spareWay_0 : decode cX4_spareWay 0 = .ok (.aload_n 0, 1) := by decide +kernel
theorem dX4_spareWay_1 : decode cX4_spareWay 1 = .ok (.getfield 12, 3) := by decide +kernel
theorem dX4_spareWay_4 : decode cX4_spareWay 4 = .ok (.iload_n 1, 1) := by decide +kernel
theorem dX4_spareWay_5 : decode cX4_spareWay 5 = .ok (.iload_n 2, 1) := by decide +kernel
theorem dX4_spareWay_6 : decode cX4_spareWay 6 = .ok (.invokevirtual 70, 3) := by decide +kernel
theorem dX4_spareWay_9 : decode cX4_spareWay 9 = .ok (.aload_n 0, 1) := by decide +kernel
theorem dX4_spareWay_10 : decode cX4_spareWay 10 = .ok (.getfield 12, 3) := by decide +kernel
theorem dX4_spareWay_13 : decode cX4_spareWay 13 = .ok (.iload_n 2, 1) := by decide +kernel
theorem dX4_spareWay_14 : decode cX4_spareWay 14 = .ok (.iload_n 3, 1) := by decide +kernel
theorem dX4_spareWay_15 : decode cX4_spareWay 15 = .ok (.invokevirtual 70, 3) := by decide +kernel
theorem dX4_spareWay_18 : decode cX4_spareWay 18 = .ok (.iadd, 1) := by decide +kernel
theorem dX4_spareWay_19 : decode cX4_spareWay 19 = .ok (.aload_n 0, 1) := by decide +kernel
theorem dX4_spareWay_20 : decode cX4_spareWay 20 = .ok (.getfield 12, 3) := by decide +kernel
theorem dX4_spareWay_23 : decode cX4_spareWay 23 = .ok (.iload_n 1, 1) := by decide +kernel
theorem dX4_spareWay_24 : decode cX4_spareWay 24 = .ok (.iload_n 3, 1) := by decide +kernel
theorem dX4_spareWay_25 : decode cX4_spareWay 25 = .ok (.invokevirtual 70, 3) := by decide +kernel
theorem dX4_spareWay_28 : decode cX4_spareWay 28 = .ok (.isub, 1) := by decide +kernel
theorem dX4_spareWay_29 : decode cX4_spareWay 29 = .ok (.ireturn, 1) := by decide +kernel
theorem dX5_init_0 : decode cX5_init 0 = .ok (.aload_n 0, 1) := by decide +kernel
theorem dX5_init_1 : decode cX5_init 1 = .ok (.invokespecial 3, 3) := by decide +kernel
theorem dX5_init_4 : decode cX5_init 4 = .ok (.aload_n 0, 1) := by decide +kernel
theorem dX5_init_5 : decode cX5_init 5 = .ok (.bipush 10, 2) := by decide +kernel
theorem dX5_init_7 : decode cX5_init 7 = .ok (.newarray .int, 2) := by decide +kernel
theorem dX5_init_9 : decode cX5_init 9 = .ok (.putfield 9, 3) := by decide +kernel
theorem dX5_init_12 : decode cX5_init 12 = .ok (.return_, 1) := by decide +kernel
theorem dX5_hasLength_0 : decode cX5_hasLength 0 = .ok (.iload_n 0, 1) := by decide +kernel
theorem dX5_hasLength_1 : decode cX5_hasLength 1 = .ok (.iconst 1, 1) := by decide +kernel
theorem dX5_hasLength_2 : decode cX5_hasLength 2 = .ok (.if_icmp .lt 13, 3) := by decide +kernel
theorem dX5_hasLength_5 : decode cX5_hasLength 5 = .ok (.iload_n 0, 1) := by decide +kernel
theorem dX5_hasLength_6 : decode cX5_hasLength 6 = .ok (.bipush 10, 2) := by decide +kernel
theorem dX5_hasLength_8 : decode cX5_hasLength 8 = .ok (.if_icmp .gt 7, 3) := by decide +kernel
theorem dX5_hasLength_11 : decode cX5_hasLength 11 = .ok (.iconst 1, 1) := by decide +kernel
theorem dX5_hasLength_12 : decode cX5_hasLength 12 = .ok (.goto 4, 3) := by decide +kernel
theorem dX5_hasLength_15 : decode cX5_hasLength 15 = .ok (.iconst 0, 1) := by decide +kernel
theorem dX5_hasLength_16 : decode cX5_hasLength 16 = .ok (.ireturn, 1) := by decide +kernel
theorem dX5_size_0 : decode cX5_size 0 = .ok (.iconst 0, 1) := by decide +kernel
theorem dX5_size_1 : decode cX5_size 1 = .ok (.istore_n 3, 1) := by decide +kernel
theorem dX5_size_2 : decode cX5_size 2 = .ok (.iconst 0, 1) := by decide +kernel
theorem dX5_size_3 : decode cX5_size 3 = .ok (.istore 4, 2) := by decide +kernel
theorem dX5_size_5 : decode cX5_size 5 = .ok (.iload 4, 2) := by decide +kernel
theorem dX5_size_7 : decode cX5_size 7 = .ok (.iload_n 1, 1) := by decide +kernel
theorem dX5_size_8 : decode cX5_size 8 = .ok (.if_icmp .ge 39, 3) := by decide +kernel
theorem dX5_size_11 : decode cX5_size 11 = .ok (.iload_n 3, 1) := by decide +kernel
theorem dX5_size_12 : decode cX5_size 12 = .ok (.iload_n 2, 1) := by decide +kernel
theorem dX5_size_13 : decode cX5_size 13 = .ok (.iload 4, 2) := by decide +kernel
theorem dX5_size_15 : decode cX5_size 15 = .ok (.invokestatic 15, 3) := by decide +kernel
theorem dX5_size_18 : decode cX5_size 18 = .ok (.ifCond .eq 14, 3) := by decide +kernel
theorem dX5_size_21 : decode cX5_size 21 = .ok (.aload_n 0, 1) := by decide +kernel
theorem dX5_size_22 : decode cX5_size 22 = .ok (.getfield 9, 3) := by decide +kernel
theorem dX5_size_25 : decode cX5_size 25 = .ok (.iload 4, 2) := by decide +kernel
theorem dX5_size_27 : decode cX5_size 27 = .ok (.iaload, 1) := by decide +kernel
theorem dX5_size_28 : decode cX5_size 28 = .ok (.ineg, 1) := by decide +kernel
theorem dX5_size_29 : decode cX5_size 29 = .ok (.goto 10, 3) := by decide +kernel
theorem dX5_size_32 : decode cX5_size 32 = .ok (.aload_n 0, 1) := by decide +kernel
theorem dX5_size_33 : decode cX5_size 33 = .ok (.getfield 9, 3) := by decide +kernel
theorem dX5_size_36 : decode cX5_size 36 = .ok (.iload 4, 2) := by decide +kernel
theorem dX5_size_38 : decode cX5_size 38 = .ok (.iaload, 1) := by decide +kernel
theorem dX5_size_39 : decode cX5_size 39 = .ok (.iadd, 1) := by decide +kernel
theorem dX5_size_40 : decode cX5_size 40 = .ok (.istore_n 3, 1) := by decide +kernel
theorem dX5_size_41 : decode cX5_size 41 = .ok (.iinc 4 1, 3) := by decide +kernel
theorem dX5_size_44 : decode cX5_size 44 = .ok (.goto (-39), 3) := by decide +kernel
theorem dX5_size_47 : decode cX5_size 47 = .ok (.iload_n 3, 1) := by decide +kernel
theorem dX5_size_48 : decode cX5_size 48 = .ok (.invokestatic 19, 3) := by decide +kernel
theorem dX5_size_51 : decode cX5_size 51 = .ok (.ireturn, 1) := by decide +kernel
theorem dX5_rowsWithin_0 : decode cX5_rowsWithin 0 = .ok (.iconst 0, 1) := by decide +kernel
theorem dX5_rowsWithin_1 : decode cX5_rowsWithin 1 = .ok (.istore_n 3, 1) := by decide +kernel
theorem dX5_rowsWithin_2 : decode cX5_rowsWithin 2 = .ok (.iconst 0, 1) := by decide +kernel
theorem dX5_rowsWithin_3 : decode cX5_rowsWithin 3 = .ok (.istore 4, 2) := by decide +kernel
theorem dX5_rowsWithin_5 : decode cX5_rowsWithin 5 = .ok (.iload 4, 2) := by decide +kernel
theorem dX5_rowsWithin_7 : decode cX5_rowsWithin 7 = .ok (.iconst 1, 1) := by decide +kernel
theorem dX5_rowsWithin_8 : decode cX5_rowsWithin 8 = .ok (.iload_n 1, 1) := by decide +kernel
theorem dX5_rowsWithin_9 : decode cX5_rowsWithin 9 = .ok (.ishl, 1) := by decide +kernel
theorem dX5_rowsWithin_10 : decode cX5_rowsWithin 10 = .ok (.if_icmp .ge 23, 3) := by decide +kernel
theorem dX5_rowsWithin_13 : decode cX5_rowsWithin 13 = .ok (.aload_n 0, 1) := by decide +kernel
theorem dX5_rowsWithin_14 : decode cX5_rowsWithin 14 = .ok (.iload_n 1, 1) := by decide +kernel
theorem dX5_rowsWithin_15 : decode cX5_rowsWithin 15 = .ok (.iload 4, 2) := by decide +kernel
theorem dX5_rowsWithin_17 : decode cX5_rowsWithin 17 = .ok (.invokevirtual 25, 3) := by decide +kernel
theorem dX5_rowsWithin_20 : decode cX5_rowsWithin 20 = .ok (.iload_n 2, 1) := by decide +kernel
theorem dX5_rowsWithin_21 : decode cX5_rowsWithin 21 = .ok (.if_icmp .gt 6, 3) := by decide +kernel
theorem dX5_rowsWithin_24 : decode cX5_rowsWithin 24 = .ok (.iinc 3 1, 3) := by decide +kernel
theorem dX5_rowsWithin_27 : decode cX5_rowsWithin 27 = .ok (.iinc 4 1, 3) := by decide +kernel
theorem dX5_rowsWithin_30 : decode cX5_rowsWithin 30 = .ok (.goto (-25), 3) := by decide +kernel
theorem dX5_rowsWithin_33 : decode cX5_rowsWithin 33 = .ok (.iload_n 3, 1) := by decide +kernel
theorem dX5_rowsWithin_34 : decode cX5_rowsWithin 34 = .ok (.ireturn, 1) := by decide +kernel
theorem dX5_smallestRow_0 : decode cX5_smallestRow 0 = .ok (.iconst 0, 1) := by decide +kernel
theorem dX5_smallestRow_1 : decode cX5_smallestRow 1 = .ok (.istore_n 2, 1) := by decide +kernel
theorem dX5_smallestRow_2 : decode cX5_smallestRow 2 = .ok (.aload_n 0, 1) := by decide +kernel
theorem dX5_smallestRow_3 : decode cX5_smallestRow 3 = .ok (.iload_n 1, 1) := by decide +kernel
theorem dX5_smallestRow_4 : decode cX5_smallestRow 4 = .ok (.iload_n 2, 1) := by decide +kernel
theorem dX5_smallestRow_5 : decode cX5_smallestRow 5 = .ok (.invokevirtual 25, 3) := by decide +kernel
theorem dX5_smallestRow_8 : decode cX5_smallestRow 8 = .ok (.istore_n 3, 1) := by decide +kernel
theorem dX5_smallestRow_9 : decode cX5_smallestRow 9 = .ok (.iconst 1, 1) := by decide +kernel
theorem dX5_smallestRow_10 : decode cX5_smallestRow 10 = .ok (.istore 4, 2) := by decide +kernel
theorem dX5_smallestRow_12 : decode cX5_smallestRow 12 = .ok (.iload 4, 2) := by decide +kernel
theorem dX5_smallestRow_14 : decode cX5_smallestRow 14 = .ok (.iconst 1, 1) := by decide +kernel
theorem dX5_smallestRow_15 : decode cX5_smallestRow 15 = .ok (.iload_n 1, 1) := by decide +kernel
theorem dX5_smallestRow_16 : decode cX5_smallestRow 16 = .ok (.ishl, 1) := by decide +kernel
theorem dX5_smallestRow_17 : decode cX5_smallestRow 17 = .ok (.if_icmp .ge 30, 3) := by decide +kernel
theorem dX5_smallestRow_20 : decode cX5_smallestRow 20 = .ok (.aload_n 0, 1) := by decide +kernel
theorem dX5_smallestRow_21 : decode cX5_smallestRow 21 = .ok (.iload_n 1, 1) := by decide +kernel
theorem dX5_smallestRow_22 : decode cX5_smallestRow 22 = .ok (.iload 4, 2) := by decide +kernel
theorem dX5_smallestRow_24 : decode cX5_smallestRow 24 = .ok (.invokevirtual 25, 3) := by decide +kernel
theorem dX5_smallestRow_27 : decode cX5_smallestRow 27 = .ok (.istore 5, 2) := by decide +kernel
theorem dX5_smallestRow_29 : decode cX5_smallestRow 29 = .ok (.iload 5, 2) := by decide +kernel
theorem dX5_smallestRow_31 : decode cX5_smallestRow 31 = .ok (.iload_n 3, 1) := by decide +kernel
theorem dX5_smallestRow_32 : decode cX5_smallestRow 32 = .ok (.if_icmp .ge 9, 3) := by decide +kernel
theorem dX5_smallestRow_35 : decode cX5_smallestRow 35 = .ok (.iload 4, 2) := by decide +kernel
theorem dX5_smallestRow_37 : decode cX5_smallestRow 37 = .ok (.istore_n 2, 1) := by decide +kernel
theorem dX5_smallestRow_38 : decode cX5_smallestRow 38 = .ok (.iload 5, 2) := by decide +kernel
theorem dX5_smallestRow_40 : decode cX5_smallestRow 40 = .ok (.istore_n 3, 1) := by decide +kernel
theorem dX5_smallestRow_41 : decode cX5_smallestRow 41 = .ok (.iinc 4 1, 3) := by decide +kernel
theorem dX5_smallestRow_44 : decode cX5_smallestRow 44 = .ok (.goto (-32), 3) := by decide +kernel
theorem dX5_smallestRow_47 : decode cX5_smallestRow 47 = .ok (.iload_n 2, 1) := by decide +kernel
theorem dX5_smallestRow_48 : decode cX5_smallestRow 48 = .ok (.ireturn, 1) := by decide +kernel
theorem dX6_init_0 : decode cX6_init 0 = .ok (.aload_n 0, 1) := by decide +kernel
theorem dX6_init_1 : decode cX6_init 1 = .ok (.invokespecial 3, 3) := by decide +kernel
theorem dX6_init_4 : decode cX6_init 4 = .ok (.aload_n 0, 1) := by decide +kernel
theorem dX6_init_5 : decode cX6_init 5 = .ok (.bipush 36, 2) := by decide +kernel
theorem dX6_init_7 : decode cX6_init 7 = .ok (.newarray .int, 2) := by decide +kernel
theorem dX6_init_9 : decode cX6_init 9 = .ok (.putfield 9, 3) := by decide +kernel
theorem dX6_init_12 : decode cX6_init 12 = .ok (.aload_n 0, 1) := by decide +kernel
theorem dX6_init_13 : decode cX6_init 13 = .ok (.iconst 2, 1) := by decide +kernel
theorem dX6_init_14 : decode cX6_init 14 = .ok (.invokevirtual 15, 3) := by decide +kernel
theorem dX6_init_17 : decode cX6_init 17 = .ok (.return_, 1) := by decide +kernel
theorem dX6_reset_0 : decode cX6_reset 0 = .ok (.aload_n 0, 1) := by decide +kernel
theorem dX6_reset_1 : decode cX6_reset 1 = .ok (.iload_n 1, 1) := by decide +kernel
theorem dX6_reset_2 : decode cX6_reset 2 = .ok (.putfield 19, 3) := by decide +kernel
theorem dX6_reset_5 : decode cX6_reset 5 = .ok (.iconst 0, 1) := by decide +kernel
theorem dX6_reset_6 : decode cX6_reset 6 = .ok (.istore_n 2, 1) := by decide +kernel
theorem dX6_reset_7 : decode cX6_reset 7 = .ok (.iload_n 2, 1) := by decide +kernel
theorem dX6_reset_8 : decode cX6_reset 8 = .ok (.iload_n 1, 1) := by decide +kernel
theorem dX6_reset_9 : decode cX6_reset 9 = .ok (.if_icmp .ge 43, 3) := by decide +kernel
theorem dX6_reset_12 : decode cX6_reset 12 = .ok (.iconst 0, 1) := by decide +kernel
theorem dX6_reset_13 : decode cX6_reset 13 = .ok (.istore_n 3, 1) := by decide +kernel
theorem dX6_reset_14 : decode cX6_reset 14 = .ok (.iload_n 3, 1) := by decide +kernel
theorem dX6_reset_15 : decode cX6_reset 15 = .ok (.iload_n 1, 1) := by decide +kernel
theorem dX6_reset_16 : decode cX6_reset 16 = .ok (.if_icmp .ge 30, 3) := by decide +kernel
theorem dX6_reset_19 : decode cX6_reset 19 = .ok (.aload_n 0, 1) := by decide +kernel
theorem dX6_reset_20 : decode cX6_reset 20 = .ok (.getfield 9, 3) := by decide +kernel
theorem dX6_reset_23 : decode cX6_reset 23 = .ok (.iload_n 2, 1) := by decide +kernel
theorem dX6_reset_24 : decode cX6_reset 24 = .ok (.bipush 6, 2) := by decide +kernel
theorem dX6_reset_26 : decode cX6_reset 26 = .ok (.imul, 1) := by decide +kernel
theorem dX6_reset_27 : decode cX6_reset 27 = .ok (.iload_n 3, 1) := by decide +kernel
theorem dX6_reset_28 : decode cX6_reset 28 = .ok (.iadd, 1) := by decide +kernel
theorem dX6_reset_29 : decode cX6_reset 29 = .ok (.iload_n 2, 1) := by decide +kernel
theorem dX6_reset_30 : decode cX6_reset 30 = .ok (.iload_n 3, 1) := by decide +kernel
theorem dX6_reset_31 : decode cX6_reset 31 = .ok (.if_icmp .ne 7, 3) := by decide +kernel
theorem dX6_reset_34 : decode cX6_reset 34 = .ok (.iconst 0, 1) := by decide +kernel
theorem dX6_reset_35 : decode cX6_reset 35 = .ok (.goto 4, 3) := by decide +kernel
theorem dX6_reset_38 : decode cX6_reset 38 = .ok (.iconst 1, 1) := by decide +kernel
theorem dX6_reset_39 : decode cX6_reset 39 = .ok (.iastore, 1) := by decide +kernel
theorem dX6_reset_40 : decode cX6_reset 40 = .ok (.iinc 3 1, 3) := by decide +kernel
theorem dX6_reset_43 : decode cX6_reset 43 = .ok (.goto (-29), 3) := by decide +kernel
theorem dX6_reset_46 : decode cX6_reset 46 = .ok (.iinc 2 1, 3) := by decide +kernel
theorem dX6_reset_49 : decode cX6_reset 49 = .ok (.goto (-42), 3) := by decide +kernel
theorem dX6_reset_52 : decode cX6_reset 52 = .ok (.return_, 1) := by decide +kernel
theorem dX6_copyDoubled_0 : decode cX6_copyDoubled 0 = .ok (.aload_n 0, 1) := by decide +kernel
theorem dX6_copyDoubled_1 : decode cX6_copyDoubled 1 = .ok (.aload_n 1, 1) := by decide +kernel
theorem dX6_copyDoubled_2 : decode cX6_copyDoubled 2 = .ok (.getfield 19, 3) := by decide +kernel
theorem dX6_copyDoubled_5 : decode cX6_copyDoubled 5 = .ok (.putfield 19, 3) := by decide +kernel
theorem dX6_copyDoubled_8 : decode cX6_copyDoubled 8 = .ok (.iconst 0, 1) := by decide +kernel
theorem dX6_copyDoubled_9 : decode cX6_copyDoubled 9 = .ok (.istore_n 2, 1) := by decide +kernel
theorem dX6_copyDoubled_10 : decode cX6_copyDoubled 10 = .ok (.iload_n 2, 1) := by decide +kernel
theorem dX6_copyDoubled_11 : decode cX6_copyDoubled 11 = .ok (.aload_n 0, 1) := by decide +kernel
theorem dX6_copyDoubled_12 : decode cX6_copyDoubled 12 = .ok (.getfield 9, 3) := by decide +kernel
theorem dX6_copyDoubled_15 : decode cX6_copyDoubled 15 = .ok (.arraylength, 1) := by decide +kernel
theorem dX6_copyDoubled_16 : decode cX6_copyDoubled 16 = .ok (.if_icmp .ge 23, 3) := by decide +kernel
theorem dX6_copyDoubled_19 : decode cX6_copyDoubled 19 = .ok (.aload_n 0, 1) := by decide +kernel
theorem dX6_copyDoubled_20 : decode cX6_copyDoubled 20 = .ok (.getfield 9, 3) := by decide +kernel
theorem dX6_copyDoubled_23 : decode cX6_copyDoubled 23 = .ok (.iload_n 2, 1) := by decide +kernel
theorem dX6_copyDoubled_24 : decode cX6_copyDoubled 24 = .ok (.iconst 2, 1) := by decide +kernel
theorem dX6_copyDoubled_25 : decode cX6_copyDoubled 25 = .ok (.aload_n 1, 1) := by decide +kernel
theorem dX6_copyDoubled_26 : decode cX6_copyDoubled 26 = .ok (.getfield 9, 3) := by decide +kernel
theorem dX6_copyDoubled_29 : decode cX6_copyDoubled 29 = .ok (.iload_n 2, 1) := by decide +kernel
theorem dX6_copyDoubled_30 : decode cX6_copyDoubled 30 = .ok (.iaload, 1) := by decide +kernel
theorem dX6_copyDoubled_31 : decode cX6_copyDoubled 31 = .ok (.imul, 1) := by decide +kernel
theorem dX6_copyDoubled_32 : decode cX6_copyDoubled 32 = .ok (.iastore, 1) := by decide +kernel
theorem dX6_copyDoubled_33 : decode cX6_copyDoubled 33 = .ok (.iinc 2 1, 3) := by decide +kernel
theorem dX6_copyDoubled_36 : decode cX6_copyDoubled 36 = .ok (.goto (-26), 3) := by decide +kernel
theorem dX6_copyDoubled_39 : decode cX6_copyDoubled 39 = .ok (.return_, 1) := by decide +kernel
theorem dX6_hasPoint_0 : decode cX6_hasPoint 0 = .ok (.iload_n 1, 1) := by decide +kernel
theorem dX6_hasPoint_1 : decode cX6_hasPoint 1 = .ok (.ifCond .lt 15, 3) := by decide +kernel
theorem dX6_hasPoint_4 : decode cX6_hasPoint 4 = .ok (.iload_n 1, 1) := by decide +kernel
theorem dX6_hasPoint_5 : decode cX6_hasPoint 5 = .ok (.aload_n 0, 1) := by decide +kernel
theorem dX6_hasPoint_6 : decode cX6_hasPoint 6 = .ok (.getfield 19, 3) := by decide +kernel
theorem dX6_hasPoint_9 : decode cX6_hasPoint 9 = .ok (.if_icmp .ge 7, 3) := by decide +kernel
theorem dX6_hasPoint_12 : decode cX6_hasPoint 12 = .ok (.iconst 1, 1) := by decide +kernel
theorem dX6_hasPoint_13 : decode cX6_hasPoint 13 = .ok (.goto 4, 3) := by decide +kernel
theorem dX6_hasPoint_16 : decode cX6_hasPoint 16 = .ok (.iconst 0, 1) := by decide +kernel
theorem dX6_hasPoint_17 : decode cX6_hasPoint 17 = .ok (.ireturn, 1) := by decide +kernel
theorem dX6_hasPair_0 : decode cX6_hasPair 0 = .ok (.aload_n 0, 1) := by decide +kernel
theorem dX6_hasPair_1 : decode cX6_hasPair 1 = .ok (.iload_n 1, 1) := by decide +kernel
theorem dX6_hasPair_2 : decode cX6_hasPair 2 = .ok (.invokevirtual 23, 3) := by decide +kernel
theorem dX6_hasPair_5 : decode cX6_hasPair 5 = .ok (.ifCond .eq 15, 3) := by decide +kernel
theorem dX6_hasPair_8 : decode cX6_hasPair 8 = .ok (.aload_n 0, 1) := by decide +kernel
theorem dX6_hasPair_9 : decode cX6_hasPair 9 = .ok (.iload_n 2, 1) := by decide +kernel
theorem dX6_hasPair_10 : decode cX6_hasPair 10 = .ok (.invokevirtual 23, 3) := by decide +kernel
theorem dX6_hasPair_13 : decode cX6_hasPair 13 = .ok (.ifCond .eq 7, 3) := by decide +kernel
theorem dX6_hasPair_16 : decode cX6_hasPair 16 = .ok (.iconst 1, 1) := by decide +kernel
theorem dX6_hasPair_17 : decode cX6_hasPair 17 = .ok (.goto 4, 3) := by decide +kernel
theorem dX6_hasPair_20 : decode cX6_hasPair 20 = .ok (.iconst 0, 1) := by decide +kernel
theorem dX6_hasPair_21 : decode cX6_hasPair 21 = .ok (.ireturn, 1) := by decide +kernel
theorem dX6_hasCut_0 : decode cX6_hasCut 0 = .ok (.iload_n 1, 1) := by decide +kernel
theorem dX6_hasCut_1 : decode cX6_hasCut 1 = .ok (.ifCond .le 25, 3) := by decide +kernel
theorem dX6_hasCut_4 : decode cX6_hasCut 4 = .ok (.iload_n 1, 1) := by decide +kernel
theorem dX6_hasCut_5 : decode cX6_hasCut 5 = .ok (.iconst 1, 1) := by decide +kernel
theorem dX6_hasCut_6 : decode cX6_hasCut 6 = .ok (.aload_n 0, 1) := by decide +kernel
theorem dX6_hasCut_7 : decode cX6_hasCut 7 = .ok (.getfield 19, 3) := by decide +kernel
theorem dX6_hasCut_10 : decode cX6_hasCut 10 = .ok (.ishl, 1) := by decide +kernel
theorem dX6_hasCut_11 : decode cX6_hasCut 11 = .ok (.if_icmp .ge 15, 3) := by decide +kernel
theorem dX6_hasCut_14 : decode cX6_hasCut 14 = .ok (.iload_n 1, 1) := by decide +kernel
theorem dX6_hasCut_15 : decode cX6_hasCut 15 = .ok (.iconst 0, 1) := by decide +kernel
theorem dX6_hasCut_16 : decode cX6_hasCut 16 = .ok (.invokestatic 27, 3) := by decide +kernel
theorem dX6_hasCut_19 : decode cX6_hasCut 19 = .ok (.ifCond .ne 7, 3) := by decide +kernel
theorem dX6_hasCut_22 : decode cX6_hasCut 22 = .ok (.iconst 1, 1) := by decide +kernel
theorem dX6_hasCut_23 : decode cX6_hasCut 23 = .ok (.goto 4, 3) := by decide +kernel
theorem dX6_hasCut_26 : decode cX6_hasCut 26 = .ok (.iconst 0, 1) := by decide +kernel
theorem dX6_hasCut_27 : decode cX6_hasCut 27 = .ok (.ireturn, 1) := by decide +kernel
theorem dX6_between_0 : decode cX6_between 0 = .ok (.aload_n 0, 1) := by decide +kernel
theorem dX6_between_1 : decode cX6_between 1 = .ok (.getfield 9, 3) := by decide +kernel
theorem dX6_between_4 : decode cX6_between 4 = .ok (.iload_n 1, 1) := by decide +kernel
theorem dX6_between_5 : decode cX6_between 5 = .ok (.bipush 6, 2) := by decide +kernel
theorem dX6_between_7 : decode cX6_between 7 = .ok (.imul, 1) := by decide +kernel
theorem dX6_between_8 : decode cX6_between 8 = .ok (.iload_n 2, 1) := by decide +kernel
theorem dX6_between_9 : decode cX6_between 9 = .ok (.iadd, 1) := by decide +kernel
theorem dX6_between_10 : decode cX6_between 10 = .ok (.iaload, 1) := by decide +kernel
theorem dX6_between_11 : decode cX6_between 11 = .ok (.ireturn, 1) := by decide +kernel
theorem dX6_put_0 : decode cX6_put 0 = .ok (.aload_n 0, 1) := by decide +kernel
theorem dX6_put_1 : decode cX6_put 1 = .ok (.getfield 9, 3) := by decide +kernel
theorem dX6_put_4 : decode cX6_put 4 = .ok (.iload_n 1, 1) := by decide +kernel
theorem dX6_put_5 : decode cX6_put 5 = .ok (.bipush 6, 2) := by decide +kernel
theorem dX6_put_7 : decode cX6_put 7 = .ok (.imul, 1) := by decide +kernel
theorem dX6_put_8 : decode cX6_put 8 = .ok (.iload_n 2, 1) := by decide +kernel
theorem dX6_put_9 : decode cX6_put 9 = .ok (.iadd, 1) := by decide +kernel
theorem dX6_put_10 : decode cX6_put 10 = .ok (.iload_n 3, 1) := by decide +kernel
theorem dX6_put_11 : decode cX6_put 11 = .ok (.iastore, 1) := by decide +kernel
theorem dX6_put_12 : decode cX6_put 12 = .ok (.aload_n 0, 1) := by decide +kernel
theorem dX6_put_13 : decode cX6_put 13 = .ok (.getfield 9, 3) := by decide +kernel
theorem dX6_put_16 : decode cX6_put 16 = .ok (.iload_n 2, 1) := by decide +kernel
theorem dX6_put_17 : decode cX6_put 17 = .ok (.bipush 6, 2) := by decide +kernel
theorem dX6_put_19 : decode cX6_put 19 = .ok (.imul, 1) := by decide +kernel
theorem dX6_put_20 : decode cX6_put 20 = .ok (.iload_n 1, 1) := by decide +kernel
theorem dX6_put_21 : decode cX6_put 21 = .ok (.iadd, 1) := by decide +kernel
theorem dX6_put_22 : decode cX6_put 22 = .ok (.iload_n 3, 1) := by decide +kernel
theorem dX6_put_23 : decode cX6_put 23 = .ok (.iastore, 1) := by decide +kernel
theorem dX6_put_24 : decode cX6_put 24 = .ok (.return_, 1) := by decide +kernel
theorem dX6_bearsCut_0 : decode cX6_bearsCut 0 = .ok (.iconst 0, 1) := by decide +kernel
theorem dX6_bearsCut_1 : decode cX6_bearsCut 1 = .ok (.istore_n 3, 1) := by decide +kernel
theorem dX6_bearsCut_2 : decode cX6_bearsCut 2 = .ok (.iload_n 3, 1) := by decide +kernel
theorem dX6_bearsCut_3 : decode cX6_bearsCut 3 = .ok (.aload_n 0, 1) := by decide +kernel
theorem dX6_bearsCut_4 : decode cX6_bearsCut 4 = .ok (.getfield 19, 3) := by decide +kernel
theorem dX6_bearsCut_7 : decode cX6_bearsCut 7 = .ok (.if_icmp .ge 64, 3) := by decide +kernel
theorem dX6_bearsCut_10 : decode cX6_bearsCut 10 = .ok (.iload_n 3, 1) := by decide +kernel
theorem dX6_bearsCut_11 : decode cX6_bearsCut 11 = .ok (.iconst 1, 1) := by decide +kernel
theorem dX6_bearsCut_12 : decode cX6_bearsCut 12 = .ok (.iadd, 1) := by decide +kernel
theorem dX6_bearsCut_13 : decode cX6_bearsCut 13 = .ok (.istore 4, 2) := by decide +kernel
theorem dX6_bearsCut_15 : decode cX6_bearsCut 15 = .ok (.iload 4, 2) := by decide +kernel
theorem dX6_bearsCut_17 : decode cX6_bearsCut 17 = .ok (.aload_n 0, 1) := by decide +kernel
theorem dX6_bearsCut_18 : decode cX6_bearsCut 18 = .ok (.getfield 19, 3) := by decide +kernel
theorem dX6_bearsCut_21 : decode cX6_bearsCut 21 = .ok (.if_icmp .ge 44, 3) := by decide +kernel
theorem dX6_bearsCut_24 : decode cX6_bearsCut 24 = .ok (.aload_n 0, 1) := by decide +kernel
theorem dX6_bearsCut_25 : decode cX6_bearsCut 25 = .ok (.iload_n 3, 1) := by decide +kernel
theorem dX6_bearsCut_26 : decode cX6_bearsCut 26 = .ok (.iload 4, 2) := by decide +kernel
theorem dX6_bearsCut_28 : decode cX6_bearsCut 28 = .ok (.invokevirtual 31, 3) := by decide +kernel
theorem dX6_bearsCut_31 : decode cX6_bearsCut 31 = .ok (.iload_n 2, 1) := by decide +kernel
theorem dX6_bearsCut_32 : decode cX6_bearsCut 32 = .ok (.iadd, 1) := by decide +kernel
theorem dX6_bearsCut_33 : decode cX6_bearsCut 33 = .ok (.istore 5, 2) := by decide +kernel
theorem dX6_bearsCut_35 : decode cX6_bearsCut 35 = .ok (.iload_n 1, 1) := by decide +kernel
theorem dX6_bearsCut_36 : decode cX6_bearsCut 36 = .ok (.iload_n 3, 1) := by decide +kernel
theorem dX6_bearsCut_37 : decode cX6_bearsCut 37 = .ok (.iload 4, 2) := by decide +kernel
theorem dX6_bearsCut_39 : decode cX6_bearsCut 39 = .ok (.invokestatic 35, 3) := by decide +kernel
theorem dX6_bearsCut_42 : decode cX6_bearsCut 42 = .ok (.ifCond .eq 17, 3) := by decide +kernel
theorem dX6_bearsCut_45 : decode cX6_bearsCut 45 = .ok (.iload 5, 2) := by decide +kernel
theorem dX6_bearsCut_47 : decode cX6_bearsCut 47 = .ok (.ifCond .lt 10, 3) := by decide +kernel
theorem dX6_bearsCut_50 : decode cX6_bearsCut 50 = .ok (.iload 5, 2) := by decide +kernel
theorem dX6_bearsCut_52 : decode cX6_bearsCut 52 = .ok (.bipush 30, 2) := by decide +kernel
theorem dX6_bearsCut_54 : decode cX6_bearsCut 54 = .ok (.if_icmp .le 5, 3) := by decide +kernel
theorem dX6_bearsCut_57 : decode cX6_bearsCut 57 = .ok (.iconst 0, 1) := by decide +kernel
theorem dX6_bearsCut_58 : decode cX6_bearsCut 58 = .ok (.ireturn, 1) := by decide +kernel
theorem dX6_bearsCut_59 : decode cX6_bearsCut 59 = .ok (.iinc 4 1, 3) := by decide +kernel
theorem dX6_bearsCut_62 : decode cX6_bearsCut 62 = .ok (.goto (-47), 3) := by decide +kernel
theorem dX6_bearsCut_65 : decode cX6_bearsCut 65 = .ok (.iinc 3 1, 3) := by decide +kernel
theorem dX6_bearsCut_68 : decode cX6_bearsCut 68 = .ok (.goto (-66), 3) := by decide +kernel
theorem dX6_bearsCut_71 : decode cX6_bearsCut 71 = .ok (.iconst 1, 1) := by decide +kernel
theorem dX6_bearsCut_72 : decode cX6_bearsCut 72 = .ok (.ireturn, 1) := by decide +kernel
theorem dX6_putCut_0 : decode cX6_putCut 0 = .ok (.iconst 0, 1) := by decide +kernel
theorem dX6_putCut_1 : decode cX6_putCut 1 = .ok (.istore_n 3, 1) := by decide +kernel
theorem dX6_putCut_2 : decode cX6_putCut 2 = .ok (.iload_n 3, 1) := by decide +kernel
theorem dX6_putCut_3 : decode cX6_putCut 3 = .ok (.aload_n 0, 1) := by decide +kernel
theorem dX6_putCut_4 : decode cX6_putCut 4 = .ok (.getfield 19, 3) := by decide +kernel
theorem dX6_putCut_7 : decode cX6_putCut 7 = .ok (.if_icmp .ge 55, 3) := by decide +kernel
theorem dX6_putCut_10 : decode cX6_putCut 10 = .ok (.iload_n 3, 1) := by decide +kernel
theorem dX6_putCut_11 : decode cX6_putCut 11 = .ok (.iconst 1, 1) := by decide +kernel
theorem dX6_putCut_12 : decode cX6_putCut 12 = .ok (.iadd, 1) := by decide +kernel
theorem dX6_putCut_13 : decode cX6_putCut 13 = .ok (.istore 4, 2) := by decide +kernel
theorem dX6_putCut_15 : decode cX6_putCut 15 = .ok (.iload 4, 2) := by decide +kernel
theorem dX6_putCut_17 : decode cX6_putCut 17 = .ok (.aload_n 0, 1) := by decide +kernel
theorem dX6_putCut_18 : decode cX6_putCut 18 = .ok (.getfield 19, 3) := by decide +kernel
theorem dX6_putCut_21 : decode cX6_putCut 21 = .ok (.if_icmp .ge 35, 3) := by decide +kernel
theorem dX6_putCut_24 : decode cX6_putCut 24 = .ok (.iload_n 1, 1) := by decide +kernel
theorem dX6_putCut_25 : decode cX6_putCut 25 = .ok (.iload_n 3, 1) := by decide +kernel
theorem dX6_putCut_26 : decode cX6_putCut 26 = .ok (.iload 4, 2) := by decide +kernel
theorem dX6_putCut_28 : decode cX6_putCut 28 = .ok (.invokestatic 35, 3) := by decide +kernel
theorem dX6_putCut_31 : decode cX6_putCut 31 = .ok (.ifCond .eq 19, 3) := by decide +kernel
theorem dX6_putCut_34 : decode cX6_putCut 34 = .ok (.aload_n 0, 1) := by decide +kernel
theorem dX6_putCut_35 : decode cX6_putCut 35 = .ok (.iload_n 3, 1) := by decide +kernel
theorem dX6_putCut_36 : decode cX6_putCut 36 = .ok (.iload 4, 2) := by decide +kernel
theorem dX6_putCut_38 : decode cX6_putCut 38 = .ok (.aload_n 0, 1) := by decide +kernel
theorem dX6_putCut_39 : decode cX6_putCut 39 = .ok (.iload_n 3, 1) := by decide +kernel
theorem dX6_putCut_40 : decode cX6_putCut 40 = .ok (.iload 4, 2) := by decide +kernel
theorem dX6_putCut_42 : decode cX6_putCut 42 = .ok (.invokevirtual 31, 3) := by decide +kernel
theorem dX6_putCut_45 : decode cX6_putCut 45 = .ok (.iload_n 2, 1) := by decide +kernel
theorem dX6_putCut_46 : decode cX6_putCut 46 = .ok (.iadd, 1) := by decide +kernel
theorem dX6_putCut_47 : decode cX6_putCut 47 = .ok (.invokevirtual 39, 3) := by decide +kernel
theorem dX6_putCut_50 : decode cX6_putCut 50 = .ok (.iinc 4 1, 3) := by decide +kernel
theorem dX6_putCut_53 : decode cX6_putCut 53 = .ok (.goto (-38), 3) := by decide +kernel
theorem dX6_putCut_56 : decode cX6_putCut 56 = .ok (.iinc 3 1, 3) := by decide +kernel
theorem dX6_putCut_59 : decode cX6_putCut 59 = .ok (.goto (-57), 3) := by decide +kernel
theorem dX6_putCut_62 : decode cX6_putCut 62 = .ok (.return_, 1) := by decide +kernel
theorem dX7_init_0 : decode cX7_init 0 = .ok (.aload_n 0, 1) := by decide +kernel
theorem dX7_init_1 : decode cX7_init 1 = .ok (.invokespecial 3, 3) := by decide +kernel
theorem dX7_init_4 : decode cX7_init 4 = .ok (.aload_n 0, 1) := by decide +kernel
theorem dX7_init_5 : decode cX7_init 5 = .ok (.new 9, 3) := by decide +kernel
theorem dX7_init_8 : decode cX7_init 8 = .ok (.dup, 1) := by decide +kernel
theorem dX7_init_9 : decode cX7_init 9 = .ok (.invokespecial 11, 3) := by decide +kernel
theorem dX7_init_12 : decode cX7_init 12 = .ok (.putfield 12, 3) := by decide +kernel
theorem dX7_init_15 : decode cX7_init 15 = .ok (.aload_n 0, 1) := by decide +kernel
theorem dX7_init_16 : decode cX7_init 16 = .ok (.new 16, 3) := by decide +kernel
theorem dX7_init_19 : decode cX7_init 19 = .ok (.dup, 1) := by decide +kernel
theorem dX7_init_20 : decode cX7_init 20 = .ok (.aload_n 0, 1) := by decide +kernel
theorem dX7_init_21 : decode cX7_init 21 = .ok (.getfield 12, 3) := by decide +kernel
theorem dX7_init_24 : decode cX7_init 24 = .ok (.invokespecial 18, 3) := by decide +kernel
theorem dX7_init_27 : decode cX7_init 27 = .ok (.putfield 21, 3) := by decide +kernel
theorem dX7_init_30 : decode cX7_init 30 = .ok (.aload_n 0, 1) := by decide +kernel
theorem dX7_init_31 : decode cX7_init 31 = .ok (.new 25, 3) := by decide +kernel
theorem dX7_init_34 : decode cX7_init 34 = .ok (.dup, 1) := by decide +kernel
theorem dX7_init_35 : decode cX7_init 35 = .ok (.aload_n 0, 1) := by decide +kernel
theorem dX7_init_36 : decode cX7_init 36 = .ok (.getfield 12, 3) := by decide +kernel
theorem dX7_init_39 : decode cX7_init 39 = .ok (.invokespecial 27, 3) := by decide +kernel
theorem dX7_init_42 : decode cX7_init 42 = .ok (.putfield 28, 3) := by decide +kernel
theorem dX7_init_45 : decode cX7_init 45 = .ok (.aload_n 0, 1) := by decide +kernel
theorem dX7_init_46 : decode cX7_init 46 = .ok (.new 32, 3) := by decide +kernel
theorem dX7_init_49 : decode cX7_init 49 = .ok (.dup, 1) := by decide +kernel
theorem dX7_init_50 : decode cX7_init 50 = .ok (.aload_n 0, 1) := by decide +kernel
theorem dX7_init_51 : decode cX7_init 51 = .ok (.getfield 12, 3) := by decide +kernel
theorem dX7_init_54 : decode cX7_init 54 = .ok (.invokespecial 34, 3) := by decide +kernel
theorem dX7_init_57 : decode cX7_init 57 = .ok (.putfield 35, 3) := by decide +kernel
theorem dX7_init_60 : decode cX7_init 60 = .ok (.aload_n 0, 1) := by decide +kernel
theorem dX7_init_61 : decode cX7_init 61 = .ok (.new 39, 3) := by decide +kernel
theorem dX7_init_64 : decode cX7_init 64 = .ok (.dup, 1) := by decide +kernel
theorem dX7_init_65 : decode cX7_init 65 = .ok (.aload_n 0, 1) := by decide +kernel
theorem dX7_init_66 : decode cX7_init 66 = .ok (.getfield 12, 3) := by decide +kernel
theorem dX7_init_69 : decode cX7_init 69 = .ok (.invokespecial 41, 3) := by decide +kernel
theorem dX7_init_72 : decode cX7_init 72 = .ok (.putfield 42, 3) := by decide +kernel
theorem dX7_init_75 : decode cX7_init 75 = .ok (.aload_n 0, 1) := by decide +kernel
theorem dX7_init_76 : decode cX7_init 76 = .ok (.new 46, 3) := by decide +kernel
theorem dX7_init_79 : decode cX7_init 79 = .ok (.dup, 1) := by decide +kernel
theorem dX7_init_80 : decode cX7_init 80 = .ok (.aload_n 0, 1) := by decide +kernel
theorem dX7_init_81 : decode cX7_init 81 = .ok (.getfield 12, 3) := by decide +kernel
theorem dX7_init_84 : decode cX7_init 84 = .ok (.invokespecial 48, 3) := by decide +kernel
theorem dX7_init_87 : decode cX7_init 87 = .ok (.putfield 49, 3) := by decide +kernel
theorem dX7_init_90 : decode cX7_init 90 = .ok (.aload_n 0, 1) := by decide +kernel
theorem dX7_init_91 : decode cX7_init 91 = .ok (.new 53, 3) := by decide +kernel
theorem dX7_init_94 : decode cX7_init 94 = .ok (.dup, 1) := by decide +kernel
theorem dX7_init_95 : decode cX7_init 95 = .ok (.invokespecial 55, 3) := by decide +kernel
theorem dX7_init_98 : decode cX7_init 98 = .ok (.putfield 56, 3) := by decide +kernel
theorem dX7_init_101 : decode cX7_init 101 = .ok (.return_, 1) := by decide +kernel
theorem dX7_table_0 : decode cX7_table 0 = .ok (.iload_n 1, 1) := by decide +kernel
theorem dX7_table_1 : decode cX7_table 1 = .ok (.iconst 2, 1) := by decide +kernel
theorem dX7_table_2 : decode cX7_table 2 = .ok (.if_icmp .lt 9, 3) := by decide +kernel
theorem dX7_table_5 : decode cX7_table 5 = .ok (.iload_n 1, 1) := by decide +kernel
theorem dX7_table_6 : decode cX7_table 6 = .ok (.bipush 6, 2) := by decide +kernel
theorem dX7_table_8 : decode cX7_table 8 = .ok (.if_icmp .le 5, 3) := by decide +kernel
theorem dX7_table_11 : decode cX7_table 11 = .ok (.iconst (-1), 1) := by decide +kernel
theorem dX7_table_12 : decode cX7_table 12 = .ok (.ireturn, 1) := by decide +kernel
theorem dX7_table_13 : decode cX7_table 13 = .ok (.aload_n 0, 1) := by decide +kernel
theorem dX7_table_14 : decode cX7_table 14 = .ok (.getfield 12, 3) := by decide +kernel
theorem dX7_table_17 : decode cX7_table 17 = .ok (.iload_n 1, 1) := by decide +kernel
theorem dX7_table_18 : decode cX7_table 18 = .ok (.invokevirtual 60, 3) := by decide +kernel
theorem dX7_table_21 : decode cX7_table 21 = .ok (.iload_n 1, 1) := by decide +kernel
theorem dX7_table_22 : decode cX7_table 22 = .ok (.ireturn, 1) := by decide +kernel
theorem dX7_set_0 : decode cX7_set 0 = .ok (.aload_n 0, 1) := by decide +kernel
theorem dX7_set_1 : decode cX7_set 1 = .ok (.getfield 12, 3) := by decide +kernel
theorem dX7_set_4 : decode cX7_set 4 = .ok (.iload_n 1, 1) := by decide +kernel
theorem dX7_set_5 : decode cX7_set 5 = .ok (.iload_n 2, 1) := by decide +kernel
theorem dX7_set_6 : decode cX7_set 6 = .ok (.invokevirtual 64, 3) := by decide +kernel
theorem dX7_set_9 : decode cX7_set 9 = .ok (.ifCond .eq 18, 3) := by decide +kernel
theorem dX7_set_12 : decode cX7_set 12 = .ok (.iload_n 1, 1) := by decide +kernel
theorem dX7_set_13 : decode cX7_set 13 = .ok (.iload_n 2, 1) := by decide +kernel
theorem dX7_set_14 : decode cX7_set 14 = .ok (.if_icmp .eq 13, 3) := by decide +kernel
theorem dX7_set_17 : decode cX7_set 17 = .ok (.iload_n 3, 1) := by decide +kernel
theorem dX7_set_18 : decode cX7_set 18 = .ok (.ifCond .lt 9, 3) := by decide +kernel
theorem dX7_set_21 : decode cX7_set 21 = .ok (.iload_n 3, 1) := by decide +kernel
theorem dX7_set_22 : decode cX7_set 22 = .ok (.bipush 30, 2) := by decide +kernel
theorem dX7_set_24 : decode cX7_set 24 = .ok (.if_icmp .le 5, 3) := by decide +kernel
theorem dX7_set_27 : decode cX7_set 27 = .ok (.iconst (-1), 1) := by decide +kernel
theorem dX7_set_28 : decode cX7_set 28 = .ok (.ireturn, 1) := by decide +kernel
theorem dX7_set_29 : decode cX7_set 29 = .ok (.aload_n 0, 1) := by decide +kernel
theorem dX7_set_30 : decode cX7_set 30 = .ok (.getfield 12, 3) := by decide +kernel
theorem dX7_set_33 : decode cX7_set 33 = .ok (.iload_n 1, 1) := by decide +kernel
theorem dX7_set_34 : decode cX7_set 34 = .ok (.iload_n 2, 1) := by decide +kernel
theorem dX7_set_35 : decode cX7_set 35 = .ok (.invokevirtual 68, 3) := by decide +kernel
theorem dX7_set_38 : decode cX7_set 38 = .ok (.istore 4, 2) := by decide +kernel
theorem dX7_set_40 : decode cX7_set 40 = .ok (.aload_n 0, 1) := by decide +kernel
theorem dX7_set_41 : decode cX7_set 41 = .ok (.getfield 12, 3) := by decide +kernel
theorem dX7_set_44 : decode cX7_set 44 = .ok (.iload_n 1, 1) := by decide +kernel
theorem dX7_set_45 : decode cX7_set 45 = .ok (.iload_n 2, 1) := by decide +kernel
theorem dX7_set_46 : decode cX7_set 46 = .ok (.iload_n 3, 1) := by decide +kernel
theorem dX7_set_47 : decode cX7_set 47 = .ok (.invokevirtual 72, 3) := by decide +kernel
theorem dX7_set_50 : decode cX7_set 50 = .ok (.iload 4, 2) := by decide +kernel
theorem dX7_set_52 : decode cX7_set 52 = .ok (.ireturn, 1) := by decide +kernel
theorem dX7_at_0 : decode cX7_at 0 = .ok (.aload_n 0, 1) := by decide +kernel
theorem dX7_at_1 : decode cX7_at 1 = .ok (.getfield 12, 3) := by decide +kernel
theorem dX7_at_4 : decode cX7_at 4 = .ok (.iload_n 1, 1) := by decide +kernel
theorem dX7_at_5 : decode cX7_at 5 = .ok (.iload_n 2, 1) := by decide +kernel
theorem dX7_at_6 : decode cX7_at 6 = .ok (.invokevirtual 64, 3) := by decide +kernel
theorem dX7_at_9 : decode cX7_at 9 = .ok (.ifCond .eq 15, 3) := by decide +kernel
theorem dX7_at_12 : decode cX7_at 12 = .ok (.aload_n 0, 1) := by decide +kernel
theorem dX7_at_13 : decode cX7_at 13 = .ok (.getfield 12, 3) := by decide +kernel
theorem dX7_at_16 : decode cX7_at 16 = .ok (.iload_n 1, 1) := by decide +kernel
theorem dX7_at_17 : decode cX7_at 17 = .ok (.iload_n 2, 1) := by decide +kernel
theorem dX7_at_18 : decode cX7_at 18 = .ok (.invokevirtual 68, 3) := by decide +kernel
theorem dX7_at_21 : decode cX7_at 21 = .ok (.goto 4, 3) := by decide +kernel
theorem dX7_at_24 : decode cX7_at 24 = .ok (.iconst (-1), 1) := by decide +kernel
theorem dX7_at_25 : decode cX7_at 25 = .ok (.ireturn, 1) := by decide +kernel
theorem dX7_law_0 : decode cX7_law 0 = .ok (.iload_n 1, 1) := by decide +kernel
theorem dX7_law_1 : decode cX7_law 1 = .ok (.invokestatic 76, 3) := by decide +kernel
theorem dX7_law_4 : decode cX7_law 4 = .ok (.ifCond .ne 5, 3) := by decide +kernel
theorem dX7_law_7 : decode cX7_law 7 = .ok (.iconst (-1), 1) := by decide +kernel
theorem dX7_law_8 : decode cX7_law 8 = .ok (.ireturn, 1) := by decide +kernel
theorem dX7_law_9 : decode cX7_law 9 = .ok (.aload_n 0, 1) := by decide +kernel
theorem dX7_law_10 : decode cX7_law 10 = .ok (.getfield 21, 3) := by decide +kernel
theorem dX7_law_13 : decode cX7_law 13 = .ok (.iload_n 1, 1) := by decide +kernel
theorem dX7_law_14 : decode cX7_law 14 = .ok (.invokevirtual 80, 3) := by decide +kernel
theorem dX7_law_17 : decode cX7_law 17 = .ok (.aload_n 0, 1) := by decide +kernel
theorem dX7_law_18 : decode cX7_law 18 = .ok (.getfield 21, 3) := by decide +kernel
theorem dX7_law_21 : decode cX7_law 21 = .ok (.getfield 83, 3) := by decide +kernel
theorem dX7_law_24 : decode cX7_law 24 = .ok (.ireturn, 1) := by decide +kernel
theorem dX7_breaks_0 : decode cX7_breaks 0 = .ok (.iload_n 1, 1) := by decide +kernel
theorem dX7_breaks_1 : decode cX7_breaks 1 = .ok (.invokestatic 76, 3) := by decide +kernel
theorem dX7_breaks_4 : decode cX7_breaks 4 = .ok (.ifCond .ne 5, 3) := by decide +kernel
theorem dX7_breaks_7 : decode cX7_breaks 7 = .ok (.iconst (-1), 1) := by decide +kernel
theorem dX7_breaks_8 : decode cX7_breaks 8 = .ok (.ireturn, 1) := by decide +kernel
theorem dX7_breaks_9 : decode cX7_breaks 9 = .ok (.aload_n 0, 1) := by decide +kernel
theorem dX7_breaks_10 : decode cX7_breaks 10 = .ok (.getfield 21, 3) := by decide +kernel
theorem dX7_breaks_13 : decode cX7_breaks 13 = .ok (.iload_n 1, 1) := by decide +kernel
theorem dX7_breaks_14 : decode cX7_breaks 14 = .ok (.invokevirtual 80, 3) := by decide +kernel
theorem dX7_breaks_17 : decode cX7_breaks 17 = .ok (.aload_n 0, 1) := by decide +kernel
theorem dX7_breaks_18 : decode cX7_breaks 18 = .ok (.getfield 21, 3) := by decide +kernel
theorem dX7_breaks_21 : decode cX7_breaks 21 = .ok (.getfield 87, 3) := by decide +kernel
theorem dX7_breaks_24 : decode cX7_breaks 24 = .ok (.ireturn, 1) := by decide +kernel
theorem dX7_flat_0 : decode cX7_flat 0 = .ok (.aload_n 0, 1) := by decide +kernel
theorem dX7_flat_1 : decode cX7_flat 1 = .ok (.getfield 28, 3) := by decide +kernel
theorem dX7_flat_4 : decode cX7_flat 4 = .ok (.invokevirtual 90, 3) := by decide +kernel
theorem dX7_flat_7 : decode cX7_flat 7 = .ok (.ifCond .eq 7, 3) := by decide +kernel
theorem dX7_flat_10 : decode cX7_flat 10 = .ok (.iconst 1, 1) := by decide +kernel
theorem dX7_flat_11 : decode cX7_flat 11 = .ok (.goto 4, 3) := by decide +kernel
theorem dX7_flat_14 : decode cX7_flat 14 = .ok (.iconst 0, 1) := by decide +kernel
theorem dX7_flat_15 : decode cX7_flat 15 = .ok (.ireturn, 1) := by decide +kernel
theorem dX7_ways_0 : decode cX7_ways 0 = .ok (.aload_n 0, 1) := by decide +kernel
theorem dX7_ways_1 : decode cX7_ways 1 = .ok (.getfield 28, 3) := by decide +kernel
theorem dX7_ways_4 : decode cX7_ways 4 = .ok (.invokevirtual 94, 3) := by decide +kernel
theorem dX7_ways_7 : decode cX7_ways 7 = .ok (.ireturn, 1) := by decide +kernel
theorem dX7_bulk_0 : decode cX7_bulk 0 = .ok (.iload_n 1, 1) := by decide +kernel
theorem dX7_bulk_1 : decode cX7_bulk 1 = .ok (.iconst 2, 1) := by decide +kernel
theorem dX7_bulk_2 : decode cX7_bulk 2 = .ok (.if_icmp .lt 14, 3) := by decide +kernel
theorem dX7_bulk_5 : decode cX7_bulk 5 = .ok (.iload_n 1, 1) := by decide +kernel
theorem dX7_bulk_6 : decode cX7_bulk 6 = .ok (.aload_n 0, 1) := by decide +kernel
theorem dX7_bulk_7 : decode cX7_bulk 7 = .ok (.getfield 12, 3) := by decide +kernel
theorem dX7_bulk_10 : decode cX7_bulk 10 = .ok (.getfield 98, 3) := by decide +kernel
theorem dX7_bulk_13 : decode cX7_bulk 13 = .ok (.if_icmp .le 7, 3) := by decide +kernel
theorem dX7_bulk_16 : decode cX7_bulk 16 = .ok (.ldc2_w 101, 3) := by decide +kernel
theorem dX7_bulk_19 : decode cX7_bulk 19 = .ok (.lreturn, 1) := by decide +kernel
theorem dX7_bulk_20 : decode cX7_bulk 20 = .ok (.aload_n 0, 1) := by decide +kernel
theorem dX7_bulk_21 : decode cX7_bulk 21 = .ok (.getfield 28, 3) := by decide +kernel
theorem dX7_bulk_24 : decode cX7_bulk 24 = .ok (.iconst 1, 1) := by decide +kernel
theorem dX7_bulk_25 : decode cX7_bulk 25 = .ok (.iload_n 1, 1) := by decide +kernel
theorem dX7_bulk_26 : decode cX7_bulk 26 = .ok (.iconst 1, 1) := by decide +kernel
theorem dX7_bulk_27 : decode cX7_bulk 27 = .ok (.isub, 1) := by decide +kernel
theorem dX7_bulk_28 : decode cX7_bulk 28 = .ok (.ishl, 1) := by decide +kernel
theorem dX7_bulk_29 : decode cX7_bulk 29 = .ok (.iconst 1, 1) := by decide +kernel
theorem dX7_bulk_30 : decode cX7_bulk 30 = .ok (.isub, 1) := by decide +kernel
theorem dX7_bulk_31 : decode cX7_bulk 31 = .ok (.invokevirtual 103, 3) := by decide +kernel
theorem dX7_bulk_34 : decode cX7_bulk 34 = .ok (.lreturn, 1) := by decide +kernel
theorem dX7_add_0 : decode cX7_add 0 = .ok (.aload_n 0, 1) := by decide +kernel
theorem dX7_add_1 : decode cX7_add 1 = .ok (.getfield 12, 3) := by decide +kernel
theorem dX7_add_4 : decode cX7_add 4 = .ok (.iload_n 1, 1) := by decide +kernel
theorem dX7_add_5 : decode cX7_add 5 = .ok (.invokevirtual 107, 3) := by decide +kernel
theorem dX7_add_8 : decode cX7_add 8 = .ok (.ifCond .eq 15, 3) := by decide +kernel
theorem dX7_add_11 : decode cX7_add 11 = .ok (.iload_n 2, 1) := by decide +kernel
theorem dX7_add_12 : decode cX7_add 12 = .ok (.bipush (-30), 2) := by decide +kernel
theorem dX7_add_14 : decode cX7_add 14 = .ok (.if_icmp .lt 9, 3) := by decide +kernel
theorem dX7_add_17 : decode cX7_add 17 = .ok (.iload_n 2, 1) := by decide +kernel
theorem dX7_add_18 : decode cX7_add 18 = .ok (.bipush 30, 2) := by decide +kernel
theorem dX7_add_20 : decode cX7_add 20 = .ok (.if_icmp .le 5, 3) := by decide +kernel
theorem dX7_add_23 : decode cX7_add 23 = .ok (.iconst (-1), 1) := by decide +kernel
theorem dX7_add_24 : decode cX7_add 24 = .ok (.ireturn, 1) := by decide +kernel
theorem dX7_add_25 : decode cX7_add 25 = .ok (.aload_n 0, 1) := by decide +kernel
theorem dX7_add_26 : decode cX7_add 26 = .ok (.getfield 12, 3) := by decide +kernel
theorem dX7_add_29 : decode cX7_add 29 = .ok (.iload_n 1, 1) := by decide +kernel
theorem dX7_add_30 : decode cX7_add 30 = .ok (.iload_n 2, 1) := by decide +kernel
theorem dX7_add_31 : decode cX7_add 31 = .ok (.invokevirtual 110, 3) := by decide +kernel
theorem dX7_add_34 : decode cX7_add 34 = .ok (.ifCond .ne 6, 3) := by decide +kernel
theorem dX7_add_37 : decode cX7_add 37 = .ok (.bipush (-2), 2) := by decide +kernel
theorem dX7_add_39 : decode cX7_add 39 = .ok (.ireturn, 1) := by decide +kernel
theorem dX7_add_40 : decode cX7_add 40 = .ok (.aload_n 0, 1) := by decide +kernel
theorem dX7_add_41 : decode cX7_add 41 = .ok (.getfield 12, 3) := by decide +kernel
theorem dX7_add_44 : decode cX7_add 44 = .ok (.iload_n 1, 1) := by decide +kernel
theorem dX7_add_45 : decode cX7_add 45 = .ok (.iload_n 2, 1) := by decide +kernel
theorem dX7_add_46 : decode cX7_add 46 = .ok (.invokevirtual 113, 3) := by decide +kernel
theorem dX7_add_49 : decode cX7_add 49 = .ok (.iconst 0, 1) := by decide +kernel
theorem dX7_add_50 : decode cX7_add 50 = .ok (.ireturn, 1) := by decide +kernel
theorem dX7_peel_0 : decode cX7_peel 0 = .ok (.aload_n 0, 1) := by decide +kernel
theorem dX7_peel_1 : decode cX7_peel 1 = .ok (.getfield 12, 3) := by decide +kernel
theorem dX7_peel_4 : decode cX7_peel 4 = .ok (.iload_n 1, 1) := by decide +kernel
theorem dX7_peel_5 : decode cX7_peel 5 = .ok (.invokevirtual 107, 3) := by decide +kernel
theorem dX7_peel_8 : decode cX7_peel 8 = .ok (.ifCond .ne 5, 3) := by decide +kernel
theorem dX7_peel_11 : decode cX7_peel 11 = .ok (.iconst (-1), 1) := by decide +kernel
theorem dX7_peel_12 : decode cX7_peel 12 = .ok (.ireturn, 1) := by decide +kernel
theorem dX7_peel_13 : decode cX7_peel 13 = .ok (.aload_n 0, 1) := by decide +kernel
theorem dX7_peel_14 : decode cX7_peel 14 = .ok (.getfield 35, 3) := by decide +kernel
theorem dX7_peel_17 : decode cX7_peel 17 = .ok (.invokevirtual 117, 3) := by decide +kernel
theorem dX7_peel_20 : decode cX7_peel 20 = .ok (.aload_n 0, 1) := by decide +kernel
theorem dX7_peel_21 : decode cX7_peel 21 = .ok (.getfield 35, 3) := by decide +kernel
theorem dX7_peel_24 : decode cX7_peel 24 = .ok (.getfield 120, 3) := by decide +kernel
theorem dX7_peel_27 : decode cX7_peel 27 = .ok (.iload_n 1, 1) := by decide +kernel
theorem dX7_peel_28 : decode cX7_peel 28 = .ok (.iaload, 1) := by decide +kernel
theorem dX7_peel_29 : decode cX7_peel 29 = .ok (.ireturn, 1) := by decide +kernel
theorem dX7_left_0 : decode cX7_left 0 = .ok (.aload_n 0, 1) := by decide +kernel
theorem dX7_left_1 : decode cX7_left 1 = .ok (.getfield 12, 3) := by decide +kernel
theorem dX7_left_4 : decode cX7_left 4 = .ok (.iload_n 1, 1) := by decide +kernel
theorem dX7_left_5 : decode cX7_left 5 = .ok (.iload_n 2, 1) := by decide +kernel
theorem dX7_left_6 : decode cX7_left 6 = .ok (.invokevirtual 64, 3) := by decide +kernel
theorem dX7_left_9 : decode cX7_left 9 = .ok (.ifCond .ne 5, 3) := by decide +kernel
theorem dX7_left_12 : decode cX7_left 12 = .ok (.iconst (-1), 1) := by decide +kernel
theorem dX7_left_13 : decode cX7_left 13 = .ok (.ireturn, 1) := by decide +kernel
theorem dX7_left_14 : decode cX7_left 14 = .ok (.aload_n 0, 1) := by decide +kernel
theorem dX7_left_15 : decode cX7_left 15 = .ok (.getfield 35, 3) := by decide +kernel
theorem dX7_left_18 : decode cX7_left 18 = .ok (.invokevirtual 117, 3) := by decide +kernel
theorem dX7_left_21 : decode cX7_left 21 = .ok (.aload_n 0, 1) := by decide +kernel
theorem dX7_left_22 : decode cX7_left 22 = .ok (.getfield 35, 3) := by decide +kernel
theorem dX7_left_25 : decode cX7_left 25 = .ok (.getfield 124, 3) := by decide +kernel
theorem dX7_left_28 : decode cX7_left 28 = .ok (.iload_n 1, 1) := by decide +kernel
theorem dX7_left_29 : decode cX7_left 29 = .ok (.iload_n 2, 1) := by decide +kernel
theorem dX7_left_30 : decode cX7_left 30 = .ok (.invokevirtual 68, 3) := by decide +kernel
theorem dX7_left_33 : decode cX7_left 33 = .ok (.ireturn, 1) := by decide +kernel
theorem dX7_line_0 : decode cX7_line 0 = .ok (.iload_n 3, 1) := by decide +kernel
theorem dX7_line_1 : decode cX7_line 1 = .ok (.ifCond .lt 19, 3) := by decide +kernel
theorem dX7_line_4 : decode cX7_line 4 = .ok (.iload_n 3, 1) := by decide +kernel
theorem dX7_line_5 : decode cX7_line 5 = .ok (.iconst 2, 1) := by decide +kernel
theorem dX7_line_6 : decode cX7_line 6 = .ok (.if_icmp .gt 14, 3) := by decide +kernel
theorem dX7_line_9 : decode cX7_line 9 = .ok (.aload_n 0, 1) := by decide +kernel
theorem dX7_line_10 : decode cX7_line 10 = .ok (.getfield 42, 3) := by decide +kernel
theorem dX7_line_13 : decode cX7_line 13 = .ok (.iload_n 1, 1) := by decide +kernel
theorem dX7_line_14 : decode cX7_line 14 = .ok (.invokevirtual 127, 3) := by decide +kernel
theorem dX7_line_17 : decode cX7_line 17 = .ok (.ifCond .ne 5, 3) := by decide +kernel
theorem dX7_line_20 : decode cX7_line 20 = .ok (.iconst (-1), 1) := by decide +kernel
theorem dX7_line_21 : decode cX7_line 21 = .ok (.ireturn, 1) := by decide +kernel
theorem dX7_line_22 : decode cX7_line 22 = .ok (.iload_n 3, 1) := by decide +kernel
theorem dX7_line_23 : decode cX7_line 23 = .ok (.ifCond .ne 16, 3) := by decide +kernel
theorem dX7_line_26 : decode cX7_line 26 = .ok (.aload_n 0, 1) := by decide +kernel
theorem dX7_line_27 : decode cX7_line 27 = .ok (.getfield 12, 3) := by decide +kernel
theorem dX7_line_30 : decode cX7_line 30 = .ok (.iload_n 2, 1) := by decide +kernel
theorem dX7_line_31 : decode cX7_line 31 = .ok (.invokevirtual 130, 3) := by decide +kernel
theorem dX7_line_34 : decode cX7_line 34 = .ok (.ifCond .ne 5, 3) := by decide +kernel
theorem dX7_line_37 : decode cX7_line 37 = .ok (.iconst (-1), 1) := by decide +kernel
theorem dX7_line_38 : decode cX7_line 38 = .ok (.ireturn, 1) := by decide +kernel
theorem dX7_line_39 : decode cX7_line 39 = .ok (.aload_n 0, 1) := by decide +kernel
theorem dX7_line_40 : decode cX7_line 40 = .ok (.getfield 42, 3) := by decide +kernel
theorem dX7_line_43 : decode cX7_line 43 = .ok (.iload_n 1, 1) := by decide +kernel
theorem dX7_line_44 : decode cX7_line 44 = .ok (.invokevirtual 133, 3) := by decide +kernel
theorem dX7_line_47 : decode cX7_line 47 = .ok (.iload_n 3, 1) := by decide +kernel
theorem dX7_line_48 : decode cX7_line 48 = .ok (.ifCond .ne 15, 3) := by decide +kernel
theorem dX7_line_51 : decode cX7_line 51 = .ok (.aload_n 0, 1) := by decide +kernel
theorem dX7_line_52 : decode cX7_line 52 = .ok (.getfield 42, 3) := by decide +kernel
theorem dX7_line_55 : decode cX7_line 55 = .ok (.getfield 136, 3) := by decide +kernel
theorem dX7_line_58 : decode cX7_line 58 = .ok (.iload_n 2, 1) := by decide +kernel
theorem dX7_line_59 : decode cX7_line 59 = .ok (.iaload, 1) := by decide +kernel
theorem dX7_line_60 : decode cX7_line 60 = .ok (.goto 11, 3) := by decide +kernel
theorem dX7_line_63 : decode cX7_line 63 = .ok (.aload_n 0, 1) := by decide +kernel
theorem dX7_line_64 : decode cX7_line 64 = .ok (.getfield 42, 3) := by decide +kernel
theorem dX7_line_67 : decode cX7_line 67 = .ok (.iload_n 3, 1) := by decide +kernel
theorem dX7_line_68 : decode cX7_line 68 = .ok (.invokevirtual 139, 3) := by decide +kernel
theorem dX7_line_71 : decode cX7_line 71 = .ok (.ireturn, 1) := by decide +kernel
theorem dX7_best_0 : decode cX7_best 0 = .ok (.iload_n 1, 1) := by decide +kernel
theorem dX7_best_1 : decode cX7_best 1 = .ok (.ifCond .lt 8, 3) := by decide +kernel
theorem dX7_best_4 : decode cX7_best 4 = .ok (.iload_n 1, 1) := by decide +kernel
theorem dX7_best_5 : decode cX7_best 5 = .ok (.iconst 2, 1) := by decide +kernel
theorem dX7_best_6 : decode cX7_best 6 = .ok (.if_icmp .le 5, 3) := by decide +kernel
theorem dX7_best_9 : decode cX7_best 9 = .ok (.iconst (-1), 1) := by decide +kernel
theorem dX7_best_10 : decode cX7_best 10 = .ok (.ireturn, 1) := by decide +kernel
theorem dX7_best_11 : decode cX7_best 11 = .ok (.aload_n 0, 1) := by decide +kernel
theorem dX7_best_12 : decode cX7_best 12 = .ok (.getfield 42, 3) := by decide +kernel
theorem dX7_best_15 : decode cX7_best 15 = .ok (.invokevirtual 143, 3) := by decide +kernel
theorem dX7_best_18 : decode cX7_best 18 = .ok (.istore_n 2, 1) := by decide +kernel
theorem dX7_best_19 : decode cX7_best 19 = .ok (.iload_n 1, 1) := by decide +kernel
theorem dX7_best_20 : decode cX7_best 20 = .ok (.ifCond .ne 5, 3) := by decide +kernel
theorem dX7_best_23 : decode cX7_best 23 = .ok (.iload_n 2, 1) := by decide +kernel
theorem dX7_best_24 : decode cX7_best 24 = .ok (.ireturn, 1) := by decide +kernel
theorem dX7_best_25 : decode cX7_best 25 = .ok (.aload_n 0, 1) := by decide +kernel
theorem dX7_best_26 : decode cX7_best 26 = .ok (.getfield 42, 3) := by decide +kernel
theorem dX7_best_29 : decode cX7_best 29 = .ok (.iload_n 2, 1) := by decide +kernel
theorem dX7_best_30 : decode cX7_best 30 = .ok (.invokevirtual 133, 3) := by decide +kernel
theorem dX7_best_33 : decode cX7_best 33 = .ok (.aload_n 0, 1) := by decide +kernel
theorem dX7_best_34 : decode cX7_best 34 = .ok (.getfield 42, 3) := by decide +kernel
theorem dX7_best_37 : decode cX7_best 37 = .ok (.iload_n 1, 1) := by decide +kernel
theorem dX7_best_38 : decode cX7_best 38 = .ok (.invokevirtual 139, 3) := by decide +kernel
theorem dX7_best_41 : decode cX7_best 41 = .ok (.ireturn, 1) := by decide +kernel
theorem dX7_centres_0 : decode cX7_centres 0 = .ok (.iload_n 1, 1) := by decide +kernel
theorem dX7_centres_1 : decode cX7_centres 1 = .ok (.iconst 1, 1) := by decide +kernel
theorem dX7_centres_2 : decode cX7_centres 2 = .ok (.if_icmp .lt 32, 3) := by decide +kernel
theorem dX7_centres_5 : decode cX7_centres 5 = .ok (.iload_n 1, 1) := by decide +kernel
theorem dX7_centres_6 : decode cX7_centres 6 = .ok (.aload_n 0, 1) := by decide +kernel
theorem dX7_centres_7 : decode cX7_centres 7 = .ok (.getfield 12, 3) := by decide +kernel
theorem dX7_centres_10 : decode cX7_centres 10 = .ok (.getfield 98, 3) := by decide +kernel
theorem dX7_centres_13 : decode cX7_centres 13 = .ok (.if_icmp .gt 21, 3) := by decide +kernel
theorem dX7_centres_16 : decode cX7_centres 16 = .ok (.iload_n 2, 1) := by decide +kernel
theorem dX7_centres_17 : decode cX7_centres 17 = .ok (.ifCond .lt 17, 3) := by decide +kernel
theorem dX7_centres_20 : decode cX7_centres 20 = .ok (.iload_n 2, 1) := by decide +kernel
theorem dX7_centres_21 : decode cX7_centres 21 = .ok (.iconst 1, 1) := by decide +kernel
theorem dX7_centres_22 : decode cX7_centres 22 = .ok (.if_icmp .gt 12, 3) := by decide +kernel
theorem dX7_centres_25 : decode cX7_centres 25 = .ok (.iload_n 3, 1) := by decide +kernel
theorem dX7_centres_26 : decode cX7_centres 26 = .ok (.ifCond .lt 8, 3) := by decide +kernel
theorem dX7_centres_29 : decode cX7_centres 29 = .ok (.iload_n 3, 1) := by decide +kernel
theorem dX7_centres_30 : decode cX7_centres 30 = .ok (.iconst 1, 1) := by decide +kernel
theorem dX7_centres_31 : decode cX7_centres 31 = .ok (.if_icmp .le 5, 3) := by decide +kernel
theorem dX7_centres_34 : decode cX7_centres 34 = .ok (.iconst (-1), 1) := by decide +kernel
theorem dX7_centres_35 : decode cX7_centres 35 = .ok (.ireturn, 1) := by decide +kernel
theorem dX7_centres_36 : decode cX7_centres 36 = .ok (.aload_n 0, 1) := by decide +kernel
theorem dX7_centres_37 : decode cX7_centres 37 = .ok (.getfield 49, 3) := by decide +kernel
theorem dX7_centres_40 : decode cX7_centres 40 = .ok (.iload_n 1, 1) := by decide +kernel
theorem dX7_centres_41 : decode cX7_centres 41 = .ok (.iload_n 2, 1) := by decide +kernel
theorem dX7_centres_42 : decode cX7_centres 42 = .ok (.iconst 1, 1) := by decide +kernel
theorem dX7_centres_43 : decode cX7_centres 43 = .ok (.if_icmp .ne 7, 3) := by decide +kernel
theorem dX7_centres_46 : decode cX7_centres 46 = .ok (.iconst 1, 1) := by decide +kernel
theorem dX7_centres_47 : decode cX7_centres 47 = .ok (.goto 4, 3) := by decide +kernel
theorem dX7_centres_50 : decode cX7_centres 50 = .ok (.iconst 0, 1) := by decide +kernel
theorem dX7_centres_51 : decode cX7_centres 51 = .ok (.invokevirtual 146, 3) := by decide +kernel
theorem dX7_centres_54 : decode cX7_centres 54 = .ok (.istore 4, 2) := by decide +kernel
theorem dX7_centres_56 : decode cX7_centres 56 = .ok (.iload_n 3, 1) := by decide +kernel
theorem dX7_centres_57 : decode cX7_centres 57 = .ok (.ifCond .ne 8, 3) := by decide +kernel
theorem dX7_centres_60 : decode cX7_centres 60 = .ok (.iload 4, 2) := by decide +kernel
theorem dX7_centres_62 : decode cX7_centres 62 = .ok (.goto 22, 3) := by decide +kernel
theorem dX7_centres_65 : decode cX7_centres 65 = .ok (.aload_n 0, 1) := by decide +kernel
theorem dX7_centres_66 : decode cX7_centres 66 = .ok (.getfield 49, 3) := by decide +kernel
theorem dX7_centres_69 : decode cX7_centres 69 = .ok (.iload 4, 2) := by decide +kernel
theorem dX7_centres_71 : decode cX7_centres 71 = .ok (.iload_n 2, 1) := by decide +kernel
theorem dX7_centres_72 : decode cX7_centres 72 = .ok (.iconst 1, 1) := by decide +kernel
theorem dX7_centres_73 : decode cX7_centres 73 = .ok (.if_icmp .ne 7, 3) := by decide +kernel
theorem dX7_centres_76 : decode cX7_centres 76 = .ok (.iconst 1, 1) := by decide +kernel
theorem dX7_centres_77 : decode cX7_centres 77 = .ok (.goto 4, 3) := by decide +kernel
theorem dX7_centres_80 : decode cX7_centres 80 = .ok (.iconst 0, 1) := by decide +kernel
theorem dX7_centres_81 : decode cX7_centres 81 = .ok (.invokevirtual 150, 3) := by decide +kernel
theorem dX7_centres_84 : decode cX7_centres 84 = .ok (.ireturn, 1) := by decide +kernel
theorem dX7_number_0 : decode cX7_number 0 = .ok (.iload_n 1, 1) := by decide +kernel
theorem dX7_number_1 : decode cX7_number 1 = .ok (.ifCond .lt 23, 3) := by decide +kernel
theorem dX7_number_4 : decode cX7_number 4 = .ok (.iload_n 1, 1) := by decide +kernel
theorem dX7_number_5 : decode cX7_number 5 = .ok (.bipush 10, 2) := by decide +kernel
theorem dX7_number_7 : decode cX7_number 7 = .ok (.if_icmp .ge 17, 3) := by decide +kernel
theorem dX7_number_10 : decode cX7_number 10 = .ok (.iload_n 2, 1) := by decide +kernel
theorem dX7_number_11 : decode cX7_number 11 = .ok (.sipush (-1000), 3) := by decide +kernel
theorem dX7_number_14 : decode cX7_number 14 = .ok (.if_icmp .lt 10, 3) := by decide +kernel
theorem dX7_number_17 : decode cX7_number 17 = .ok (.iload_n 2, 1) := by decide +kernel
theorem dX7_number_18 : decode cX7_number 18 = .ok (.sipush 1000, 3) := by decide +kernel
theorem dX7_number_21 : decode cX7_number 21 = .ok (.if_icmp .le 7, 3) := by decide +kernel
theorem dX7_number_24 : decode cX7_number 24 = .ok (.sipush (-10000), 3) := by decide +kernel
theorem dX7_number_27 : decode cX7_number 27 = .ok (.ireturn, 1) := by decide +kernel
theorem dX7_number_28 : decode cX7_number 28 = .ok (.aload_n 0, 1) := by decide +kernel
theorem dX7_number_29 : decode cX7_number 29 = .ok (.getfield 56, 3) := by decide +kernel
theorem dX7_number_32 : decode cX7_number 32 = .ok (.getfield 153, 3) := by decide +kernel
theorem dX7_number_35 : decode cX7_number 35 = .ok (.iload_n 1, 1) := by decide +kernel
theorem dX7_number_36 : decode cX7_number 36 = .ok (.iaload, 1) := by decide +kernel
theorem dX7_number_37 : decode cX7_number 37 = .ok (.istore_n 3, 1) := by decide +kernel
theorem dX7_number_38 : decode cX7_number 38 = .ok (.aload_n 0, 1) := by decide +kernel
theorem dX7_number_39 : decode cX7_number 39 = .ok (.getfield 56, 3) := by decide +kernel
theorem dX7_number_42 : decode cX7_number 42 = .ok (.getfield 153, 3) := by decide +kernel
theorem dX7_number_45 : decode cX7_number 45 = .ok (.iload_n 1, 1) := by decide +kernel
theorem dX7_number_46 : decode cX7_number 46 = .ok (.iload_n 2, 1) := by decide +kernel
theorem dX7_number_47 : decode cX7_number 47 = .ok (.iastore, 1) := by decide +kernel
theorem dX7_number_48 : decode cX7_number 48 = .ok (.iload_n 3, 1) := by decide +kernel
theorem dX7_number_49 : decode cX7_number 49 = .ok (.ireturn, 1) := by decide +kernel
theorem dX7_signs_0 : decode cX7_signs 0 = .ok (.iload_n 1, 1) := by decide +kernel
theorem dX7_signs_1 : decode cX7_signs 1 = .ok (.invokestatic 156, 3) := by decide +kernel
theorem dX7_signs_4 : decode cX7_signs 4 = .ok (.ifCond .eq 14, 3) := by decide +kernel
theorem dX7_signs_7 : decode cX7_signs 7 = .ok (.iload_n 2, 1) := by decide +kernel
theorem dX7_signs_8 : decode cX7_signs 8 = .ok (.ifCond .lt 10, 3) := by decide +kernel
theorem dX7_signs_11 : decode cX7_signs 11 = .ok (.iload_n 2, 1) := by decide +kernel
theorem dX7_signs_12 : decode cX7_signs 12 = .ok (.sipush 10000, 3) := by decide +kernel
theorem dX7_signs_15 : decode cX7_signs 15 = .ok (.if_icmp .le 5, 3) := by decide +kernel
theorem dX7_signs_18 : decode cX7_signs 18 = .ok (.iconst (-1), 1) := by decide +kernel
theorem dX7_signs_19 : decode cX7_signs 19 = .ok (.ireturn, 1) := by decide +kernel
theorem dX7_signs_20 : decode cX7_signs 20 = .ok (.aload_n 0, 1) := by decide +kernel
theorem dX7_signs_21 : decode cX7_signs 21 = .ok (.getfield 56, 3) := by decide +kernel
theorem dX7_signs_24 : decode cX7_signs 24 = .ok (.iload_n 1, 1) := by decide +kernel
theorem dX7_signs_25 : decode cX7_signs 25 = .ok (.iload_n 2, 1) := by decide +kernel
theorem dX7_signs_26 : decode cX7_signs 26 = .ok (.invokevirtual 159, 3) := by decide +kernel
theorem dX7_signs_29 : decode cX7_signs 29 = .ok (.ireturn, 1) := by decide +kernel
theorem dX7_least_0 : decode cX7_least 0 = .ok (.iload_n 1, 1) := by decide +kernel
theorem dX7_least_1 : decode cX7_least 1 = .ok (.invokestatic 156, 3) := by decide +kernel
theorem dX7_least_4 : decode cX7_least 4 = .ok (.ifCond .eq 12, 3) := by decide +kernel
theorem dX7_least_7 : decode cX7_least 7 = .ok (.iload_n 2, 1) := by decide +kernel
theorem dX7_least_8 : decode cX7_least 8 = .ok (.ifCond .lt 8, 3) := by decide +kernel
theorem dX7_least_11 : decode cX7_least 11 = .ok (.iload_n 2, 1) := by decide +kernel
theorem dX7_least_12 : decode cX7_least 12 = .ok (.iconst 1, 1) := by decide +kernel
theorem dX7_least_13 : decode cX7_least 13 = .ok (.if_icmp .le 5, 3) := by decide +kernel
theorem dX7_least_16 : decode cX7_least 16 = .ok (.iconst (-1), 1) := by decide +kernel
theorem dX7_least_17 : decode cX7_least 17 = .ok (.ireturn, 1) := by decide +kernel
theorem dX7_least_18 : decode cX7_least 18 = .ok (.aload_n 0, 1) := by decide +kernel
theorem dX7_least_19 : decode cX7_least 19 = .ok (.getfield 56, 3) := by decide +kernel
theorem dX7_least_22 : decode cX7_least 22 = .ok (.iload_n 1, 1) := by decide +kernel
theorem dX7_least_23 : decode cX7_least 23 = .ok (.invokevirtual 162, 3) := by decide +kernel
theorem dX7_least_26 : decode cX7_least 26 = .ok (.istore_n 3, 1) := by decide +kernel
theorem dX7_least_27 : decode cX7_least 27 = .ok (.iload_n 2, 1) := by decide +kernel
theorem dX7_least_28 : decode cX7_least 28 = .ok (.ifCond .ne 7, 3) := by decide +kernel
theorem dX7_least_31 : decode cX7_least 31 = .ok (.iload_n 3, 1) := by decide +kernel
theorem dX7_least_32 : decode cX7_least 32 = .ok (.goto 12, 3) := by decide +kernel
theorem dX7_least_35 : decode cX7_least 35 = .ok (.aload_n 0, 1) := by decide +kernel
theorem dX7_least_36 : decode cX7_least 36 = .ok (.getfield 56, 3) := by decide +kernel
theorem dX7_least_39 : decode cX7_least 39 = .ok (.iload_n 1, 1) := by decide +kernel
theorem dX7_least_40 : decode cX7_least 40 = .ok (.iload_n 3, 1) := by decide +kernel
theorem dX7_least_41 : decode cX7_least 41 = .ok (.invokevirtual 165, 3) := by decide +kernel
theorem dX7_least_44 : decode cX7_least 44 = .ok (.ireturn, 1) := by decide +kernel
theorem dX7_count_0 : decode cX7_count 0 = .ok (.aload_n 0, 1) := by decide +kernel
theorem dX7_count_1 : decode cX7_count 1 = .ok (.getfield 12, 3) := by decide +kernel
theorem dX7_count_4 : decode cX7_count 4 = .ok (.getfield 98, 3) := by decide +kernel
theorem dX7_count_7 : decode cX7_count 7 = .ok (.ireturn, 1) := by decide +kernel
theorem dX7_holds_0 : decode cX7_holds 0 = .ok (.iload_n 0, 1) := by decide +kernel
theorem dX7_holds_1 : decode cX7_holds 1 = .ok (.iload_n 1, 1) := by decide +kernel
theorem dX7_holds_2 : decode cX7_holds 2 = .ok (.ishr, 1) := by decide +kernel
theorem dX7_holds_3 : decode cX7_holds 3 = .ok (.iconst 1, 1) := by decide +kernel
theorem dX7_holds_4 : decode cX7_holds 4 = .ok (.iand, 1) := by decide +kernel
theorem dX7_holds_5 : decode cX7_holds 5 = .ok (.iconst 1, 1) := by decide +kernel
theorem dX7_holds_6 : decode cX7_holds 6 = .ok (.if_icmp .ne 7, 3) := by decide +kernel
theorem dX7_holds_9 : decode cX7_holds 9 = .ok (.iconst 1, 1) := by decide +kernel
theorem dX7_holds_10 : decode cX7_holds 10 = .ok (.goto 4, 3) := by decide +kernel
theorem dX7_holds_13 : decode cX7_holds 13 = .ok (.iconst 0, 1) := by decide +kernel
theorem dX7_holds_14 : decode cX7_holds 14 = .ok (.ireturn, 1) := by decide +kernel
theorem dX7_parts_0 : decode cX7_parts 0 = .ok (.iload_n 0, 1) := by decide +kernel
theorem dX7_parts_1 : decode cX7_parts 1 = .ok (.iload_n 1, 1) := by decide +kernel
theorem dX7_parts_2 : decode cX7_parts 2 = .ok (.invokestatic 168, 3) := by decide +kernel
theorem dX7_parts_5 : decode cX7_parts 5 = .ok (.iload_n 0, 1) := by decide +kernel
theorem dX7_parts_6 : decode cX7_parts 6 = .ok (.iload_n 2, 1) := by decide +kernel
theorem dX7_parts_7 : decode cX7_parts 7 = .ok (.invokestatic 168, 3) := by decide +kernel
theorem dX7_parts_10 : decode cX7_parts 10 = .ok (.if_icmp .eq 7, 3) := by decide +kernel
theorem dX7_parts_13 : decode cX7_parts 13 = .ok (.iconst 1, 1) := by decide +kernel
theorem dX7_parts_14 : decode cX7_parts 14 = .ok (.goto 4, 3) := by decide +kernel
theorem dX7_parts_17 : decode cX7_parts 17 = .ok (.iconst 0, 1) := by decide +kernel
theorem dX7_parts_18 : decode cX7_parts 18 = .ok (.ireturn, 1) := by decide +kernel
theorem dX8_init_0 : decode cX8_init 0 = .ok (.aload_n 0, 1) := by decide +kernel
theorem dX8_init_1 : decode cX8_init 1 = .ok (.invokespecial 1, 3) := by decide +kernel
theorem dX8_init_4 : decode cX8_init 4 = .ok (.aload_n 0, 1) := by decide +kernel
theorem dX8_init_5 : decode cX8_init 5 = .ok (.iconst 2, 1) := by decide +kernel
theorem dX8_init_6 : decode cX8_init 6 = .ok (.putfield 7, 3) := by decide +kernel
theorem dX8_init_9 : decode cX8_init 9 = .ok (.aload_n 0, 1) := by decide +kernel
theorem dX8_init_10 : decode cX8_init 10 = .ok (.bipush 36, 2) := by decide +kernel
theorem dX8_init_12 : decode cX8_init 12 = .ok (.newarray .int, 2) := by decide +kernel
theorem dX8_init_14 : decode cX8_init 14 = .ok (.putfield 13, 3) := by decide +kernel
theorem dX8_init_17 : decode cX8_init 17 = .ok (.aload_n 0, 1) := by decide +kernel
theorem dX8_init_18 : decode cX8_init 18 = .ok (.bipush 36, 2) := by decide +kernel
theorem dX8_init_20 : decode cX8_init 20 = .ok (.newarray .int, 2) := by decide +kernel
theorem dX8_init_22 : decode cX8_init 22 = .ok (.putfield 17, 3) := by decide +kernel
theorem dX8_init_25 : decode cX8_init 25 = .ok (.aload_n 0, 1) := by decide +kernel
theorem dX8_init_26 : decode cX8_init 26 = .ok (.bipush 64, 2) := by decide +kernel
theorem dX8_init_28 : decode cX8_init 28 = .ok (.newarray .int, 2) := by decide +kernel
theorem dX8_init_30 : decode cX8_init 30 = .ok (.putfield 20, 3) := by decide +kernel
theorem dX8_init_33 : decode cX8_init 33 = .ok (.aload_n 0, 1) := by decide +kernel
theorem dX8_init_34 : decode cX8_init 34 = .ok (.bipush 10, 2) := by decide +kernel
theorem dX8_init_36 : decode cX8_init 36 = .ok (.newarray .int, 2) := by decide +kernel
theorem dX8_init_38 : decode cX8_init 38 = .ok (.putfield 23, 3) := by decide +kernel
theorem dX8_init_41 : decode cX8_init 41 = .ok (.aload_n 0, 1) := by decide +kernel
theorem dX8_init_42 : decode cX8_init 42 = .ok (.iconst 5, 1) := by decide +kernel
theorem dX8_init_43 : decode cX8_init 43 = .ok (.newarray .int, 2) := by decide +kernel
theorem dX8_init_45 : decode cX8_init 45 = .ok (.putfield 26, 3) := by decide +kernel
theorem dX8_init_48 : decode cX8_init 48 = .ok (.aload_n 0, 1) := by decide +kernel
theorem dX8_init_49 : decode cX8_init 49 = .ok (.bipush 32, 2) := by decide +kernel
theorem dX8_init_51 : decode cX8_init 51 = .ok (.newarray .long, 2) := by decide +kernel
theorem dX8_init_53 : decode cX8_init 53 = .ok (.putfield 29, 3) := by decide +kernel
theorem dX8_init_56 : decode cX8_init 56 = .ok (.aload_n 0, 1) := by decide +kernel
theorem dX8_init_57 : decode cX8_init 57 = .ok (.bipush 6, 2) := by decide +kernel
theorem dX8_init_59 : decode cX8_init 59 = .ok (.newarray .int, 2) := by decide +kernel
theorem dX8_init_61 : decode cX8_init 61 = .ok (.putfield 33, 3) := by decide +kernel
theorem dX8_init_64 : decode cX8_init 64 = .ok (.aload_n 0, 1) := by decide +kernel
theorem dX8_init_65 : decode cX8_init 65 = .ok (.invokevirtual 36, 3) := by decide +kernel
theorem dX8_init_68 : decode cX8_init 68 = .ok (.return_, 1) := by decide +kernel
theorem dX8_in_0 : decode cX8_in 0 = .ok (.iload_n 0, 1) := by decide +kernel
theorem dX8_in_1 : decode cX8_in 1 = .ok (.iload_n 1, 1) := by decide +kernel
theorem dX8_in_2 : decode cX8_in 2 = .ok (.if_icmp .lt 12, 3) := by decide +kernel
theorem dX8_in_5 : decode cX8_in 5 = .ok (.iload_n 0, 1) := by decide +kernel
theorem dX8_in_6 : decode cX8_in 6 = .ok (.iload_n 2, 1) := by decide +kernel
theorem dX8_in_7 : decode cX8_in 7 = .ok (.if_icmp .gt 7, 3) := by decide +kernel
theorem dX8_in_10 : decode cX8_in 10 = .ok (.iconst 1, 1) := by decide +kernel
theorem dX8_in_11 : decode cX8_in 11 = .ok (.goto 4, 3) := by decide +kernel
theorem dX8_in_14 : decode cX8_in 14 = .ok (.iconst 0, 1) := by decide +kernel
theorem dX8_in_15 : decode cX8_in 15 = .ok (.ireturn, 1) := by decide +kernel
theorem dX8_fills_0 : decode cX8_fills 0 = .ok (.iconst 0, 1) := by decide +kernel
theorem dX8_fills_1 : decode cX8_fills 1 = .ok (.istore_n 1, 1) := by decide +kernel
theorem dX8_fills_2 : decode cX8_fills 2 = .ok (.iload_n 1, 1) := by decide +kernel
theorem dX8_fills_3 : decode cX8_fills 3 = .ok (.bipush 36, 2) := by decide +kernel
theorem dX8_fills_5 : decode cX8_fills 5 = .ok (.if_icmp .ge 31, 3) := by decide +kernel
theorem dX8_fills_8 : decode cX8_fills 8 = .ok (.aload_n 0, 1) := by decide +kernel
theorem dX8_fills_9 : decode cX8_fills 9 = .ok (.getfield 13, 3) := by decide +kernel
theorem dX8_fills_12 : decode cX8_fills 12 = .ok (.iload_n 1, 1) := by decide +kernel
theorem dX8_fills_13 : decode cX8_fills 13 = .ok (.iload_n 1, 1) := by decide +kernel
theorem dX8_fills_14 : decode cX8_fills 14 = .ok (.bipush 6, 2) := by decide +kernel
theorem dX8_fills_16 : decode cX8_fills 16 = .ok (.idiv, 1) := by decide +kernel
theorem dX8_fills_17 : decode cX8_fills 17 = .ok (.iload_n 1, 1) := by decide +kernel
theorem dX8_fills_18 : decode cX8_fills 18 = .ok (.bipush 6, 2) := by decide +kernel
theorem dX8_fills_20 : decode cX8_fills 20 = .ok (.irem, 1) := by decide +kernel
theorem dX8_fills_21 : decode cX8_fills 21 = .ok (.if_icmp .ne 7, 3) := by decide +kernel
theorem dX8_fills_24 : decode cX8_fills 24 = .ok (.iconst 0, 1) := by decide +kernel
theorem dX8_fills_25 : decode cX8_fills 25 = .ok (.goto 4, 3) := by decide +kernel
theorem dX8_fills_28 : decode cX8_fills 28 = .ok (.iconst 1, 1) := by decide +kernel
theorem dX8_fills_29 : decode cX8_fills 29 = .ok (.iastore, 1) := by decide +kernel
theorem dX8_fills_30 : decode cX8_fills 30 = .ok (.iinc 1 1, 3) := by decide +kernel
theorem dX8_fills_33 : decode cX8_fills 33 = .ok (.goto (-31), 3) := by decide +kernel
theorem dX8_fills_36 : decode cX8_fills 36 = .ok (.return_, 1) := by decide +kernel
theorem dX8_dist_0 : decode cX8_dist 0 = .ok (.aload_n 0, 1) := by decide +kernel
theorem dX8_dist_1 : decode cX8_dist 1 = .ok (.getfield 13, 3) := by decide +kernel
theorem dX8_dist_4 : decode cX8_dist 4 = .ok (.bipush 6, 2) := by decide +kernel
theorem dX8_dist_6 : decode cX8_dist 6 = .ok (.iload_n 1, 1) := by decide +kernel
theorem dX8_dist_7 : decode cX8_dist 7 = .ok (.imul, 1) := by decide +kernel
theorem dX8_dist_8 : decode cX8_dist 8 = .ok (.iload_n 2, 1) := by decide +kernel
theorem dX8_dist_9 : decode cX8_dist 9 = .ok (.iadd, 1) := by decide +kernel
theorem dX8_dist_10 : decode cX8_dist 10 = .ok (.iaload, 1) := by decide +kernel
theorem dX8_dist_11 : decode cX8_dist 11 = .ok (.ireturn, 1) := by decide +kernel
theorem dX8_table_0 : decode cX8_table 0 = .ok (.iload_n 1, 1) := by decide +kernel
theorem dX8_table_1 : decode cX8_table 1 = .ok (.iconst 2, 1) := by decide +kernel
theorem dX8_table_2 : decode cX8_table 2 = .ok (.bipush 6, 2) := by decide +kernel
theorem dX8_table_4 : decode cX8_table 4 = .ok (.invokestatic 39, 3) := by decide +kernel
theorem dX8_table_7 : decode cX8_table 7 = .ok (.ifCond .ne 5, 3) := by decide +kernel
theorem dX8_table_10 : decode cX8_table 10 = .ok (.iconst (-1), 1) := by decide +kernel
theorem dX8_table_11 : decode cX8_table 11 = .ok (.ireturn, 1) := by decide +kernel
theorem dX8_table_12 : decode cX8_table 12 = .ok (.aload_n 0, 1) := by decide +kernel
theorem dX8_table_13 : decode cX8_table 13 = .ok (.iload_n 1, 1) := by decide +kernel
theorem dX8_table_14 : decode cX8_table 14 = .ok (.putfield 7, 3) := by decide +kernel
theorem dX8_table_17 : decode cX8_table 17 = .ok (.aload_n 0, 1) := by decide +kernel
theorem dX8_table_18 : decode cX8_table 18 = .ok (.invokevirtual 36, 3) := by decide +kernel
theorem dX8_table_21 : decode cX8_table 21 = .ok (.aload_n 0, 1) := by decide +kernel
theorem dX8_table_22 : decode cX8_table 22 = .ok (.getfield 7, 3) := by decide +kernel
theorem dX8_table_25 : decode cX8_table 25 = .ok (.ireturn, 1) := by decide +kernel
theorem dX8_isPoint_0 : decode cX8_isPoint 0 = .ok (.iload_n 1, 1) := by decide +kernel
theorem dX8_isPoint_1 : decode cX8_isPoint 1 = .ok (.iconst 0, 1) := by decide +kernel
theorem dX8_isPoint_2 : decode cX8_isPoint 2 = .ok (.aload_n 0, 1) := by decide +kernel
theorem dX8_isPoint_3 : decode cX8_isPoint 3 = .ok (.getfield 7, 3) := by decide +kernel
theorem dX8_isPoint_6 : decode cX8_isPoint 6 = .ok (.iconst 1, 1) := by decide +kernel
theorem dX8_isPoint_7 : decode cX8_isPoint 7 = .ok (.isub, 1) := by decide +kernel
theorem dX8_isPoint_8 : decode cX8_isPoint 8 = .ok (.invokestatic 39, 3) := by decide +kernel
theorem dX8_isPoint_11 : decode cX8_isPoint 11 = .ok (.ireturn, 1) := by decide +kernel
theorem dX8_set_0 : decode cX8_set 0 = .ok (.aload_n 0, 1) := by decide +kernel
theorem dX8_set_1 : decode cX8_set 1 = .ok (.iload_n 1, 1) := by decide +kernel
theorem dX8_set_2 : decode cX8_set 2 = .ok (.invokevirtual 43, 3) := by decide +kernel
theorem dX8_set_5 : decode cX8_set 5 = .ok (.ifCond .eq 26, 3) := by decide +kernel
theorem dX8_set_8 : decode cX8_set 8 = .ok (.aload_n 0, 1) := by decide +kernel
theorem dX8_set_9 : decode cX8_set 9 = .ok (.iload_n 2, 1) := by decide +kernel
theorem dX8_set_10 : decode cX8_set 10 = .ok (.invokevirtual 43, 3) := by decide +kernel
theorem dX8_set_13 : decode cX8_set 13 = .ok (.ifCond .eq 18, 3) := by decide +kernel
theorem dX8_set_16 : decode cX8_set 16 = .ok (.iload_n 1, 1) := by decide +kernel
theorem dX8_set_17 : decode cX8_set 17 = .ok (.iload_n 2, 1) := by decide +kernel
theorem dX8_set_18 : decode cX8_set 18 = .ok (.if_icmp .eq 13, 3) := by decide +kernel
theorem dX8_set_21 : decode cX8_set 21 = .ok (.iload_n 3, 1) := by decide +kernel
theorem dX8_set_22 : decode cX8_set 22 = .ok (.iconst 0, 1) := by decide +kernel
theorem dX8_set_23 : decode cX8_set 23 = .ok (.bipush 30, 2) := by decide +kernel
theorem dX8_set_25 : decode cX8_set 25 = .ok (.invokestatic 39, 3) := by decide +kernel
theorem dX8_set_28 : decode cX8_set 28 = .ok (.ifCond .ne 5, 3) := by decide +kernel
theorem dX8_set_31 : decode cX8_set 31 = .ok (.iconst (-1), 1) := by decide +kernel
theorem dX8_set_32 : decode cX8_set 32 = .ok (.ireturn, 1) := by decide +kernel
theorem dX8_set_33 : decode cX8_set 33 = .ok (.aload_n 0, 1) := by decide +kernel
theorem dX8_set_34 : decode cX8_set 34 = .ok (.iload_n 1, 1) := by decide +kernel
theorem dX8_set_35 : decode cX8_set 35 = .ok (.iload_n 2, 1) := by decide +kernel
theorem dX8_set_36 : decode cX8_set 36 = .ok (.invokevirtual 47, 3) := by decide +kernel
theorem dX8_set_39 : decode cX8_set 39 = .ok (.istore 4, 2) := by decide +kernel
theorem dX8_set_41 : decode cX8_set 41 = .ok (.aload_n 0, 1) := by decide +kernel
theorem dX8_set_42 : decode cX8_set 42 = .ok (.getfield 13, 3) := by decide +kernel
theorem dX8_set_45 : decode cX8_set 45 = .ok (.bipush 6, 2) := by decide +kernel
theorem dX8_set_47 : decode cX8_set 47 = .ok (.iload_n 1, 1) := by decide +kernel
theorem dX8_set_48 : decode cX8_set 48 = .ok (.imul, 1) := by decide +kernel
theorem dX8_set_49 : decode cX8_set 49 = .ok (.iload_n 2, 1) := by decide +kernel
theorem dX8_set_50 : decode cX8_set 50 = .ok (.iadd, 1) := by decide +kernel
theorem dX8_set_51 : decode cX8_set 51 = .ok (.iload_n 3, 1) := by decide +kernel
theorem dX8_set_52 : decode cX8_set 52 = .ok (.iastore, 1) := by decide +kernel
theorem dX8_set_53 : decode cX8_set 53 = .ok (.aload_n 0, 1) := by decide +kernel
theorem dX8_set_54 : decode cX8_set 54 = .ok (.getfield 13, 3) := by decide +kernel
theorem dX8_set_57 : decode cX8_set 57 = .ok (.bipush 6, 2) := by decide +kernel
theorem dX8_set_59 : decode cX8_set 59 = .ok (.iload_n 2, 1) := by decide +kernel
