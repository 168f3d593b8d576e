theorem dX0_init_0 : decode cX0_init 0 = .ok (.aload_n 0, 1) := by decide +kernel
theorem dX0_init_1 : decode cX0_init 1 = .ok (.invokespecial 3, 3) := by decide +kernel
theorem dX0_init_4 : decode cX0_init 4 = .ok (.aload_n 0, 1) := by decide +kernel
theorem dX0_init_5 : decode cX0_init 5 = .ok (.bipush 12, 2) := by decide +kernel
theorem dX0_init_7 : decode cX0_init 7 = .ok (.newarray .int, 2) := by decide +kernel
theorem dX0_init_9 : decode cX0_init 9 = .ok (.putfield 9, 3) := by decide +kernel
theorem dX0_init_12 : decode cX0_init 12 = .ok (.aload_n 0, 1) := by decide +kernel
theorem dX0_init_13 : decode cX0_init 13 = .ok (.bipush 12, 2) := by decide +kernel
theorem dX0_init_15 : decode cX0_init 15 = .ok (.newarray .int, 2) := by decide +kernel
theorem dX0_init_17 : decode cX0_init 17 = .ok (.putfield 15, 3) := by decide +kernel
theorem dX0_init_20 : decode cX0_init 20 = .ok (.return_, 1) := by decide +kernel
theorem dX0_isSetOfThem_0 : decode cX0_isSetOfThem 0 = .ok (.iload_n 1, 1) := by decide +kernel
theorem dX0_isSetOfThem_1 : decode cX0_isSetOfThem 1 = .ok (.ifCond .lt 16, 3) := by decide +kernel
theorem dX0_isSetOfThem_4 : decode cX0_isSetOfThem 4 = .ok (.iload_n 1, 1) := by decide +kernel
theorem dX0_isSetOfThem_5 : decode cX0_isSetOfThem 5 = .ok (.aload_n 0, 1) := by decide +kernel
theorem dX0_isSetOfThem_6 : decode cX0_isSetOfThem 6 = .ok (.getfield 18, 3) := by decide +kernel
theorem dX0_isSetOfThem_9 : decode cX0_isSetOfThem 9 = .ok (.ishr, 1) := by decide +kernel
theorem dX0_isSetOfThem_10 : decode cX0_isSetOfThem 10 = .ok (.ifCond .ne 7, 3) := by decide +kernel
theorem dX0_isSetOfThem_13 : decode cX0_isSetOfThem 13 = .ok (.iconst 1, 1) := by decide +kernel
theorem dX0_isSetOfThem_14 : decode cX0_isSetOfThem 14 = .ok (.goto 4, 3) := by decide +kernel
theorem dX0_isSetOfThem_17 : decode cX0_isSetOfThem 17 = .ok (.iconst 0, 1) := by decide +kernel
theorem dX0_isSetOfThem_18 : decode cX0_isSetOfThem 18 = .ok (.ireturn, 1) := by decide +kernel
theorem dX0_addClaim_0 : decode cX0_addClaim 0 = .ok (.aload_n 0, 1) := by decide +kernel
theorem dX0_addClaim_1 : decode cX0_addClaim 1 = .ok (.getfield 18, 3) := by decide +kernel
theorem dX0_addClaim_4 : decode cX0_addClaim 4 = .ok (.istore_n 2, 1) := by decide +kernel
theorem dX0_addClaim_5 : decode cX0_addClaim 5 = .ok (.iload_n 1, 1) := by decide +kernel
theorem dX0_addClaim_6 : decode cX0_addClaim 6 = .ok (.istore_n 3, 1) := by decide +kernel
theorem dX0_addClaim_7 : decode cX0_addClaim 7 = .ok (.iconst 0, 1) := by decide +kernel
theorem dX0_addClaim_8 : decode cX0_addClaim 8 = .ok (.istore 4, 2) := by decide +kernel
theorem dX0_addClaim_10 : decode cX0_addClaim 10 = .ok (.iload 4, 2) := by decide +kernel
theorem dX0_addClaim_12 : decode cX0_addClaim 12 = .ok (.iload_n 2, 1) := by decide +kernel
theorem dX0_addClaim_13 : decode cX0_addClaim 13 = .ok (.if_icmp .ge 30, 3) := by decide +kernel
theorem dX0_addClaim_16 : decode cX0_addClaim 16 = .ok (.iload_n 1, 1) := by decide +kernel
theorem dX0_addClaim_17 : decode cX0_addClaim 17 = .ok (.iload 4, 2) := by decide +kernel
theorem dX0_addClaim_19 : decode cX0_addClaim 19 = .ok (.invokestatic 22, 3) := by decide +kernel
theorem dX0_addClaim_22 : decode cX0_addClaim 22 = .ok (.ifCond .eq 15, 3) := by decide +kernel
theorem dX0_addClaim_25 : decode cX0_addClaim 25 = .ok (.iload_n 3, 1) := by decide +kernel
theorem dX0_addClaim_26 : decode cX0_addClaim 26 = .ok (.aload_n 0, 1) := by decide +kernel
theorem dX0_addClaim_27 : decode cX0_addClaim 27 = .ok (.getfield 15, 3) := by decide +kernel
theorem dX0_addClaim_30 : decode cX0_addClaim 30 = .ok (.iload 4, 2) := by decide +kernel
theorem dX0_addClaim_32 : decode cX0_addClaim 32 = .ok (.invokestatic 26, 3) := by decide +kernel
theorem dX0_addClaim_35 : decode cX0_addClaim 35 = .ok (.ior, 1) := by decide +kernel
theorem dX0_addClaim_36 : decode cX0_addClaim 36 = .ok (.istore_n 3, 1) := by decide +kernel
theorem dX0_addClaim_37 : decode cX0_addClaim 37 = .ok (.iinc 4 1, 3) := by decide +kernel
theorem dX0_addClaim_40 : decode cX0_addClaim 40 = .ok (.goto (-30), 3) := by decide +kernel
theorem dX0_addClaim_43 : decode cX0_addClaim 43 = .ok (.aload_n 0, 1) := by decide +kernel
theorem dX0_addClaim_44 : decode cX0_addClaim 44 = .ok (.getfield 9, 3) := by decide +kernel
theorem dX0_addClaim_47 : decode cX0_addClaim 47 = .ok (.iload_n 2, 1) := by decide +kernel
theorem dX0_addClaim_48 : decode cX0_addClaim 48 = .ok (.iload_n 1, 1) := by decide +kernel
theorem dX0_addClaim_49 : decode cX0_addClaim 49 = .ok (.invokestatic 30, 3) := by decide +kernel
theorem dX0_addClaim_52 : decode cX0_addClaim 52 = .ok (.aload_n 0, 1) := by decide +kernel
theorem dX0_addClaim_53 : decode cX0_addClaim 53 = .ok (.getfield 15, 3) := by decide +kernel
theorem dX0_addClaim_56 : decode cX0_addClaim 56 = .ok (.iload_n 2, 1) := by decide +kernel
theorem dX0_addClaim_57 : decode cX0_addClaim 57 = .ok (.iload_n 3, 1) := by decide +kernel
theorem dX0_addClaim_58 : decode cX0_addClaim 58 = .ok (.invokestatic 30, 3) := by decide +kernel
theorem dX0_addClaim_61 : decode cX0_addClaim 61 = .ok (.aload_n 0, 1) := by decide +kernel
theorem dX0_addClaim_62 : decode cX0_addClaim 62 = .ok (.dup, 1) := by decide +kernel
theorem dX0_addClaim_63 : decode cX0_addClaim 63 = .ok (.getfield 18, 3) := by decide +kernel
theorem dX0_addClaim_66 : decode cX0_addClaim 66 = .ok (.iconst 1, 1) := by decide +kernel
theorem dX0_addClaim_67 : decode cX0_addClaim 67 = .ok (.iadd, 1) := by decide +kernel
theorem dX0_addClaim_68 : decode cX0_addClaim 68 = .ok (.putfield 18, 3) := by decide +kernel
theorem dX0_addClaim_71 : decode cX0_addClaim 71 = .ok (.iload_n 2, 1) := by decide +kernel
theorem dX0_addClaim_72 : decode cX0_addClaim 72 = .ok (.ireturn, 1) := by decide +kernel
theorem dX0_setWithdrawn_0 : decode cX0_setWithdrawn 0 = .ok (.aload_n 0, 1) := by decide +kernel
theorem dX0_setWithdrawn_1 : decode cX0_setWithdrawn 1 = .ok (.iload_n 2, 1) := by decide +kernel
theorem dX0_setWithdrawn_2 : decode cX0_setWithdrawn 2 = .ok (.ifCond .eq 14, 3) := by decide +kernel
theorem dX0_setWithdrawn_5 : decode cX0_setWithdrawn 5 = .ok (.aload_n 0, 1) := by decide +kernel
theorem dX0_setWithdrawn_6 : decode cX0_setWithdrawn 6 = .ok (.getfield 34, 3) := by decide +kernel
theorem dX0_setWithdrawn_9 : decode cX0_setWithdrawn 9 = .ok (.iconst 1, 1) := by decide +kernel
theorem dX0_setWithdrawn_10 : decode cX0_setWithdrawn 10 = .ok (.iload_n 1, 1) := by decide +kernel
theorem dX0_setWithdrawn_11 : decode cX0_setWithdrawn 11 = .ok (.ishl, 1) := by decide +kernel
theorem dX0_setWithdrawn_12 : decode cX0_setWithdrawn 12 = .ok (.ior, 1) := by decide +kernel
theorem dX0_setWithdrawn_13 : decode cX0_setWithdrawn 13 = .ok (.goto 13, 3) := by decide +kernel
theorem dX0_setWithdrawn_16 : decode cX0_setWithdrawn 16 = .ok (.aload_n 0, 1) := by decide +kernel
theorem dX0_setWithdrawn_17 : decode cX0_setWithdrawn 17 = .ok (.getfield 34, 3) := by decide +kernel
theorem dX0_setWithdrawn_20 : decode cX0_setWithdrawn 20 = .ok (.iconst 1, 1) := by decide +kernel
theorem dX0_setWithdrawn_21 : decode cX0_setWithdrawn 21 = .ok (.iload_n 1, 1) := by decide +kernel
theorem dX0_setWithdrawn_22 : decode cX0_setWithdrawn 22 = .ok (.ishl, 1) := by decide +kernel
theorem dX0_setWithdrawn_23 : decode cX0_setWithdrawn 23 = .ok (.iconst (-1), 1) := by decide +kernel
theorem dX0_setWithdrawn_24 : decode cX0_setWithdrawn 24 = .ok (.ixor, 1) := by decide +kernel
theorem dX0_setWithdrawn_25 : decode cX0_setWithdrawn 25 = .ok (.iand, 1) := by decide +kernel
theorem dX0_setWithdrawn_26 : decode cX0_setWithdrawn 26 = .ok (.putfield 34, 3) := by decide +kernel
theorem dX0_setWithdrawn_29 : decode cX0_setWithdrawn 29 = .ok (.return_, 1) := by decide +kernel
theorem dX0_hangsOn_0 : decode cX0_hangsOn 0 = .ok (.aload_n 0, 1) := by decide +kernel
theorem dX0_hangsOn_1 : decode cX0_hangsOn 1 = .ok (.getfield 9, 3) := by decide +kernel
theorem dX0_hangsOn_4 : decode cX0_hangsOn 4 = .ok (.iload_n 1, 1) := by decide +kernel
theorem dX0_hangsOn_5 : decode cX0_hangsOn 5 = .ok (.invokestatic 26, 3) := by decide +kernel
theorem dX0_hangsOn_8 : decode cX0_hangsOn 8 = .ok (.ireturn, 1) := by decide +kernel
theorem dX0_isWithdrawn_0 : decode cX0_isWithdrawn 0 = .ok (.aload_n 0, 1) := by decide +kernel
theorem dX0_isWithdrawn_1 : decode cX0_isWithdrawn 1 = .ok (.getfield 34, 3) := by decide +kernel
theorem dX0_isWithdrawn_4 : decode cX0_isWithdrawn 4 = .ok (.iload_n 1, 1) := by decide +kernel
theorem dX0_isWithdrawn_5 : decode cX0_isWithdrawn 5 = .ok (.invokestatic 22, 3) := by decide +kernel
theorem dX0_isWithdrawn_8 : decode cX0_isWithdrawn 8 = .ok (.ireturn, 1) := by decide +kernel
theorem dX0_isStanding_0 : decode cX0_isStanding 0 = .ok (.aload_n 0, 1) := by decide +kernel
theorem dX0_isStanding_1 : decode cX0_isStanding 1 = .ok (.aload_n 0, 1) := by decide +kernel
theorem dX0_isStanding_2 : decode cX0_isStanding 2 = .ok (.getfield 34, 3) := by decide +kernel
theorem dX0_isStanding_5 : decode cX0_isStanding 5 = .ok (.invokevirtual 37, 3) := by decide +kernel
theorem dX0_isStanding_8 : decode cX0_isStanding 8 = .ok (.iload_n 1, 1) := by decide +kernel
theorem dX0_isStanding_9 : decode cX0_isStanding 9 = .ok (.invokestatic 22, 3) := by decide +kernel
theorem dX0_isStanding_12 : decode cX0_isStanding 12 = .ok (.ireturn, 1) := by decide +kernel
theorem dX0_countStanding_0 : decode cX0_countStanding 0 = .ok (.aload_n 0, 1) := by decide +kernel
theorem dX0_countStanding_1 : decode cX0_countStanding 1 = .ok (.aload_n 0, 1) := by decide +kernel
theorem dX0_countStanding_2 : decode cX0_countStanding 2 = .ok (.getfield 34, 3) := by decide +kernel
theorem dX0_countStanding_5 : decode cX0_countStanding 5 = .ok (.invokevirtual 37, 3) := by decide +kernel
theorem dX0_countStanding_8 : decode cX0_countStanding 8 = .ok (.invokestatic 41, 3) := by decide +kernel
theorem dX0_countStanding_11 : decode cX0_countStanding 11 = .ok (.ireturn, 1) := by decide +kernel
theorem dX0_fallingWith_0 : decode cX0_fallingWith 0 = .ok (.aload_n 0, 1) := by decide +kernel
theorem dX0_fallingWith_1 : decode cX0_fallingWith 1 = .ok (.invokevirtual 46, 3) := by decide +kernel
theorem dX0_fallingWith_4 : decode cX0_fallingWith 4 = .ok (.aload_n 0, 1) := by decide +kernel
theorem dX0_fallingWith_5 : decode cX0_fallingWith 5 = .ok (.aload_n 0, 1) := by decide +kernel
theorem dX0_fallingWith_6 : decode cX0_fallingWith 6 = .ok (.getfield 34, 3) := by decide +kernel
theorem dX0_fallingWith_9 : decode cX0_fallingWith 9 = .ok (.iconst 1, 1) := by decide +kernel
theorem dX0_fallingWith_10 : decode cX0_fallingWith 10 = .ok (.iload_n 1, 1) := by decide +kernel
theorem dX0_fallingWith_11 : decode cX0_fallingWith 11 = .ok (.ishl, 1) := by decide +kernel
theorem dX0_fallingWith_12 : decode cX0_fallingWith 12 = .ok (.ior, 1) := by decide +kernel
theorem dX0_fallingWith_13 : decode cX0_fallingWith 13 = .ok (.invokevirtual 37, 3) := by decide +kernel
theorem dX0_fallingWith_16 : decode cX0_fallingWith 16 = .ok (.invokestatic 41, 3) := by decide +kernel
theorem dX0_fallingWith_19 : decode cX0_fallingWith 19 = .ok (.isub, 1) := by decide +kernel
theorem dX0_fallingWith_20 : decode cX0_fallingWith 20 = .ok (.ireturn, 1) := by decide +kernel
theorem dX0_areConsistent_0 : decode cX0_areConsistent 0 = .ok (.aload_n 0, 1) := by decide +kernel
theorem dX0_areConsistent_1 : decode cX0_areConsistent 1 = .ok (.aload_n 0, 1) := by decide +kernel
theorem dX0_areConsistent_2 : decode cX0_areConsistent 2 = .ok (.getfield 34, 3) := by decide +kernel
theorem dX0_areConsistent_5 : decode cX0_areConsistent 5 = .ok (.invokevirtual 37, 3) := by decide +kernel
theorem dX0_areConsistent_8 : decode cX0_areConsistent 8 = .ok (.istore_n 1, 1) := by decide +kernel
theorem dX0_areConsistent_9 : decode cX0_areConsistent 9 = .ok (.iconst 0, 1) := by decide +kernel
theorem dX0_areConsistent_10 : decode cX0_areConsistent 10 = .ok (.istore_n 2, 1) := by decide +kernel
theorem dX0_areConsistent_11 : decode cX0_areConsistent 11 = .ok (.iload_n 2, 1) := by decide +kernel
theorem dX0_areConsistent_12 : decode cX0_areConsistent 12 = .ok (.aload_n 0, 1) := by decide +kernel
theorem dX0_areConsistent_13 : decode cX0_areConsistent 13 = .ok (.getfield 18, 3) := by decide +kernel
theorem dX0_areConsistent_16 : decode cX0_areConsistent 16 = .ok (.if_icmp .ge 46, 3) := by decide +kernel
theorem dX0_areConsistent_19 : decode cX0_areConsistent 19 = .ok (.aload_n 0, 1) := by decide +kernel
theorem dX0_areConsistent_20 : decode cX0_areConsistent 20 = .ok (.getfield 15, 3) := by decide +kernel
theorem dX0_areConsistent_23 : decode cX0_areConsistent 23 = .ok (.iload_n 2, 1) := by decide +kernel
theorem dX0_areConsistent_24 : decode cX0_areConsistent 24 = .ok (.invokestatic 26, 3) := by decide +kernel
theorem dX0_areConsistent_27 : decode cX0_areConsistent 27 = .ok (.iconst 1, 1) := by decide +kernel
theorem dX0_areConsistent_28 : decode cX0_areConsistent 28 = .ok (.iload_n 2, 1) := by decide +kernel
theorem dX0_areConsistent_29 : decode cX0_areConsistent 29 = .ok (.ishl, 1) := by decide +kernel
theorem dX0_areConsistent_30 : decode cX0_areConsistent 30 = .ok (.ior, 1) := by decide +kernel
theorem dX0_areConsistent_31 : decode cX0_areConsistent 31 = .ok (.aload_n 0, 1) := by decide +kernel
theorem dX0_areConsistent_32 : decode cX0_areConsistent 32 = .ok (.getfield 34, 3) := by decide +kernel
theorem dX0_areConsistent_35 : decode cX0_areConsistent 35 = .ok (.iand, 1) := by decide +kernel
theorem dX0_areConsistent_36 : decode cX0_areConsistent 36 = .ok (.ifCond .ne 7, 3) := by decide +kernel
theorem dX0_areConsistent_39 : decode cX0_areConsistent 39 = .ok (.iconst 1, 1) := by decide +kernel
theorem dX0_areConsistent_40 : decode cX0_areConsistent 40 = .ok (.goto 4, 3) := by decide +kernel
theorem dX0_areConsistent_43 : decode cX0_areConsistent 43 = .ok (.iconst 0, 1) := by decide +kernel
theorem dX0_areConsistent_44 : decode cX0_areConsistent 44 = .ok (.istore_n 3, 1) := by decide +kernel
theorem dX0_areConsistent_45 : decode cX0_areConsistent 45 = .ok (.iload_n 1, 1) := by decide +kernel
theorem dX0_areConsistent_46 : decode cX0_areConsistent 46 = .ok (.iload_n 2, 1) := by decide +kernel
theorem dX0_areConsistent_47 : decode cX0_areConsistent 47 = .ok (.invokestatic 22, 3) := by decide +kernel
theorem dX0_areConsistent_50 : decode cX0_areConsistent 50 = .ok (.iload_n 3, 1) := by decide +kernel
theorem dX0_areConsistent_51 : decode cX0_areConsistent 51 = .ok (.if_icmp .eq 5, 3) := by decide +kernel
theorem dX0_areConsistent_54 : decode cX0_areConsistent 54 = .ok (.iconst 0, 1) := by decide +kernel
theorem dX0_areConsistent_55 : decode cX0_areConsistent 55 = .ok (.ireturn, 1) := by decide +kernel
theorem dX0_areConsistent_56 : decode cX0_areConsistent 56 = .ok (.iinc 2 1, 3) := by decide +kernel
theorem dX0_areConsistent_59 : decode cX0_areConsistent 59 = .ok (.goto (-48), 3) := by decide +kernel
theorem dX0_areConsistent_62 : decode cX0_areConsistent 62 = .ok (.iconst 1, 1) := by decide +kernel
theorem dX0_areConsistent_63 : decode cX0_areConsistent 63 = .ok (.ireturn, 1) := by decide +kernel
theorem dX0_standingWithout_0 : decode cX0_standingWithout 0 = .ok (.iconst 0, 1) := by decide +kernel
theorem dX0_standingWithout_1 : decode cX0_standingWithout 1 = .ok (.istore_n 2, 1) := by decide +kernel
theorem dX0_standingWithout_2 : decode cX0_standingWithout 2 = .ok (.iconst 0, 1) := by decide +kernel
theorem dX0_standingWithout_3 : decode cX0_standingWithout 3 = .ok (.istore_n 3, 1) := by decide +kernel
theorem dX0_standingWithout_4 : decode cX0_standingWithout 4 = .ok (.iload_n 3, 1) := by decide +kernel
theorem dX0_standingWithout_5 : decode cX0_standingWithout 5 = .ok (.aload_n 0, 1) := by decide +kernel
theorem dX0_standingWithout_6 : decode cX0_standingWithout 6 = .ok (.getfield 18, 3) := by decide +kernel
theorem dX0_standingWithout_9 : decode cX0_standingWithout 9 = .ok (.if_icmp .ge 38, 3) := by decide +kernel
theorem dX0_standingWithout_12 : decode cX0_standingWithout 12 = .ok (.iload_n 1, 1) := by decide +kernel
theorem dX0_standingWithout_13 : decode cX0_standingWithout 13 = .ok (.iload_n 3, 1) := by decide +kernel
theorem dX0_standingWithout_14 : decode cX0_standingWithout 14 = .ok (.invokestatic 22, 3) := by decide +kernel
theorem dX0_standingWithout_17 : decode cX0_standingWithout 17 = .ok (.ifCond .ne 24, 3) := by decide +kernel
theorem dX0_standingWithout_20 : decode cX0_standingWithout 20 = .ok (.aload_n 0, 1) := by decide +kernel
theorem dX0_standingWithout_21 : decode cX0_standingWithout 21 = .ok (.getfield 9, 3) := by decide +kernel
theorem dX0_standingWithout_24 : decode cX0_standingWithout 24 = .ok (.iload_n 3, 1) := by decide +kernel
theorem dX0_standingWithout_25 : decode cX0_standingWithout 25 = .ok (.invokestatic 26, 3) := by decide +kernel
theorem dX0_standingWithout_28 : decode cX0_standingWithout 28 = .ok (.iload_n 2, 1) := by decide +kernel
theorem dX0_standingWithout_29 : decode cX0_standingWithout 29 = .ok (.iconst (-1), 1) := by decide +kernel
theorem dX0_standingWithout_30 : decode cX0_standingWithout 30 = .ok (.ixor, 1) := by decide +kernel
theorem dX0_standingWithout_31 : decode cX0_standingWithout 31 = .ok (.iand, 1) := by decide +kernel
theorem dX0_standingWithout_32 : decode cX0_standingWithout 32 = .ok (.ifCond .ne 9, 3) := by decide +kernel
theorem dX0_standingWithout_35 : decode cX0_standingWithout 35 = .ok (.iload_n 2, 1) := by decide +kernel
theorem dX0_standingWithout_36 : decode cX0_standingWithout 36 = .ok (.iconst 1, 1) := by decide +kernel
theorem dX0_standingWithout_37 : decode cX0_standingWithout 37 = .ok (.iload_n 3, 1) := by decide +kernel
theorem dX0_standingWithout_38 : decode cX0_standingWithout 38 = .ok (.ishl, 1) := by decide +kernel
theorem dX0_standingWithout_39 : decode cX0_standingWithout 39 = .ok (.ior, 1) := by decide +kernel
theorem dX0_standingWithout_40 : decode cX0_standingWithout 40 = .ok (.istore_n 2, 1) := by decide +kernel
theorem dX0_standingWithout_41 : decode cX0_standingWithout 41 = .ok (.iinc 3 1, 3) := by decide +kernel
theorem dX0_standingWithout_44 : decode cX0_standingWithout 44 = .ok (.goto (-40), 3) := by decide +kernel
theorem dX0_standingWithout_47 : decode cX0_standingWithout 47 = .ok (.iload_n 2, 1) := by decide +kernel
theorem dX0_standingWithout_48 : decode cX0_standingWithout 48 = .ok (.ireturn, 1) := by decide +kernel
theorem dX1_init_0 : decode cX1_init 0 = .ok (.aload_n 0, 1) := by decide +kernel
theorem dX1_init_1 : decode cX1_init 1 = .ok (.invokespecial 1, 3) := by decide +kernel
theorem dX1_init_4 : decode cX1_init 4 = .ok (.lload_n 1, 1) := by decide +kernel
theorem dX1_init_5 : decode cX1_init 5 = .ok (.lload_n 3, 1) := by decide +kernel
theorem dX1_init_6 : decode cX1_init 6 = .ok (.invokestatic 7, 3) := by decide +kernel
theorem dX1_init_9 : decode cX1_init 9 = .ok (.lstore 5, 2) := by decide +kernel
theorem dX1_init_11 : decode cX1_init 11 = .ok (.aload_n 0, 1) := by decide +kernel
theorem dX1_init_12 : decode cX1_init 12 = .ok (.lload 5, 2) := by decide +kernel
theorem dX1_init_14 : decode cX1_init 14 = .ok (.lconst 1, 1) := by decide +kernel
theorem dX1_init_15 : decode cX1_init 15 = .ok (.lcmp, 1) := by decide +kernel
theorem dX1_init_16 : decode cX1_init 16 = .ok (.ifCond .le 10, 3) := by decide +kernel
theorem dX1_init_19 : decode cX1_init 19 = .ok (.lload_n 1, 1) := by decide +kernel
theorem dX1_init_20 : decode cX1_init 20 = .ok (.lload 5, 2) := by decide +kernel
theorem dX1_init_22 : decode cX1_init 22 = .ok (.ldiv, 1) := by decide +kernel
theorem dX1_init_23 : decode cX1_init 23 = .ok (.goto 4, 3) := by decide +kernel
theorem dX1_init_26 : decode cX1_init 26 = .ok (.lload_n 1, 1) := by decide +kernel
theorem dX1_init_27 : decode cX1_init 27 = .ok (.putfield 13, 3) := by decide +kernel
theorem dX1_init_30 : decode cX1_init 30 = .ok (.aload_n 0, 1) := by decide +kernel
theorem dX1_init_31 : decode cX1_init 31 = .ok (.lload 5, 2) := by decide +kernel
theorem dX1_init_33 : decode cX1_init 33 = .ok (.lconst 1, 1) := by decide +kernel
theorem dX1_init_34 : decode cX1_init 34 = .ok (.lcmp, 1) := by decide +kernel
theorem dX1_init_35 : decode cX1_init 35 = .ok (.ifCond .le 10, 3) := by decide +kernel
theorem dX1_init_38 : decode cX1_init 38 = .ok (.lload_n 3, 1) := by decide +kernel
theorem dX1_init_39 : decode cX1_init 39 = .ok (.lload 5, 2) := by decide +kernel
theorem dX1_init_41 : decode cX1_init 41 = .ok (.ldiv, 1) := by decide +kernel
theorem dX1_init_42 : decode cX1_init 42 = .ok (.goto 4, 3) := by decide +kernel
theorem dX1_init_45 : decode cX1_init 45 = .ok (.lload_n 3, 1) := by decide +kernel
theorem dX1_init_46 : decode cX1_init 46 = .ok (.putfield 19, 3) := by decide +kernel
theorem dX1_init_49 : decode cX1_init 49 = .ok (.return_, 1) := by decide +kernel
theorem dX1_times_0 : decode cX1_times 0 = .ok (.new 14, 3) := by decide +kernel
theorem dX1_times_3 : decode cX1_times 3 = .ok (.dup, 1) := by decide +kernel
theorem dX1_times_4 : decode cX1_times 4 = .ok (.aload_n 0, 1) := by decide +kernel
theorem dX1_times_5 : decode cX1_times 5 = .ok (.getfield 13, 3) := by decide +kernel
theorem dX1_times_8 : decode cX1_times 8 = .ok (.lload_n 1, 1) := by decide +kernel
theorem dX1_times_9 : decode cX1_times 9 = .ok (.lmul, 1) := by decide +kernel
theorem dX1_times_10 : decode cX1_times 10 = .ok (.aload_n 0, 1) := by decide +kernel
theorem dX1_times_11 : decode cX1_times 11 = .ok (.getfield 19, 3) := by decide +kernel
theorem dX1_times_14 : decode cX1_times 14 = .ok (.lload_n 3, 1) := by decide +kernel
theorem dX1_times_15 : decode cX1_times 15 = .ok (.lmul, 1) := by decide +kernel
theorem dX1_times_16 : decode cX1_times 16 = .ok (.invokespecial 22, 3) := by decide +kernel
theorem dX1_times_19 : decode cX1_times 19 = .ok (.areturn, 1) := by decide +kernel
theorem dX1_withoutWhole_0 : decode cX1_withoutWhole 0 = .ok (.aload_n 0, 1) := by decide +kernel
theorem dX1_withoutWhole_1 : decode cX1_withoutWhole 1 = .ok (.getfield 19, 3) := by decide +kernel
theorem dX1_withoutWhole_4 : decode cX1_withoutWhole 4 = .ok (.lconst 0, 1) := by decide +kernel
theorem dX1_withoutWhole_5 : decode cX1_withoutWhole 5 = .ok (.lcmp, 1) := by decide +kernel
theorem dX1_withoutWhole_6 : decode cX1_withoutWhole 6 = .ok (.ifCond .le 28, 3) := by decide +kernel
theorem dX1_withoutWhole_9 : decode cX1_withoutWhole 9 = .ok (.new 14, 3) := by decide +kernel
theorem dX1_withoutWhole_12 : decode cX1_withoutWhole 12 = .ok (.dup, 1) := by decide +kernel
theorem dX1_withoutWhole_13 : decode cX1_withoutWhole 13 = .ok (.aload_n 0, 1) := by decide +kernel
theorem dX1_withoutWhole_14 : decode cX1_withoutWhole 14 = .ok (.getfield 13, 3) := by decide +kernel
theorem dX1_withoutWhole_17 : decode cX1_withoutWhole 17 = .ok (.aload_n 0, 1) := by decide +kernel
theorem dX1_withoutWhole_18 : decode cX1_withoutWhole 18 = .ok (.getfield 19, 3) := by decide +kernel
theorem dX1_withoutWhole_21 : decode cX1_withoutWhole 21 = .ok (.invokestatic 25, 3) := by decide +kernel
theorem dX1_withoutWhole_24 : decode cX1_withoutWhole 24 = .ok (.aload_n 0, 1) := by decide +kernel
theorem dX1_withoutWhole_25 : decode cX1_withoutWhole 25 = .ok (.getfield 19, 3) := by decide +kernel
theorem dX1_withoutWhole_28 : decode cX1_withoutWhole 28 = .ok (.invokespecial 22, 3) := by decide +kernel
theorem dX1_withoutWhole_31 : decode cX1_withoutWhole 31 = .ok (.goto 4, 3) := by decide +kernel
theorem dX1_withoutWhole_34 : decode cX1_withoutWhole 34 = .ok (.aload_n 0, 1) := by decide +kernel
theorem dX1_withoutWhole_35 : decode cX1_withoutWhole 35 = .ok (.areturn, 1) := by decide +kernel
theorem dX1_cellOf_0 : decode cX1_cellOf 0 = .ok (.aload_n 0, 1) := by decide +kernel
theorem dX1_cellOf_1 : decode cX1_cellOf 1 = .ok (.getfield 19, 3) := by decide +kernel
theorem dX1_cellOf_4 : decode cX1_cellOf 4 = .ok (.lconst 0, 1) := by decide +kernel
theorem dX1_cellOf_5 : decode cX1_cellOf 5 = .ok (.lcmp, 1) := by decide +kernel
theorem dX1_cellOf_6 : decode cX1_cellOf 6 = .ok (.ifCond .le 19, 3) := by decide +kernel
theorem dX1_cellOf_9 : decode cX1_cellOf 9 = .ok (.aload_n 0, 1) := by decide +kernel
theorem dX1_cellOf_10 : decode cX1_cellOf 10 = .ok (.getfield 13, 3) := by decide +kernel
theorem dX1_cellOf_13 : decode cX1_cellOf 13 = .ok (.iload_n 1, 1) := by decide +kernel
theorem dX1_cellOf_14 : decode cX1_cellOf 14 = .ok (.i2l, 1) := by decide +kernel
theorem dX1_cellOf_15 : decode cX1_cellOf 15 = .ok (.lmul, 1) := by decide +kernel
theorem dX1_cellOf_16 : decode cX1_cellOf 16 = .ok (.aload_n 0, 1) := by decide +kernel
theorem dX1_cellOf_17 : decode cX1_cellOf 17 = .ok (.getfield 19, 3) := by decide +kernel
theorem dX1_cellOf_20 : decode cX1_cellOf 20 = .ok (.ldiv, 1) := by decide +kernel
theorem dX1_cellOf_21 : decode cX1_cellOf 21 = .ok (.l2i, 1) := by decide +kernel
theorem dX1_cellOf_22 : decode cX1_cellOf 22 = .ok (.goto 4, 3) := by decide +kernel
theorem dX1_cellOf_25 : decode cX1_cellOf 25 = .ok (.iconst 0, 1) := by decide +kernel
theorem dX1_cellOf_26 : decode cX1_cellOf 26 = .ok (.ireturn, 1) := by decide +kernel
theorem dX1_isSameAs_0 : decode cX1_isSameAs 0 = .ok (.aload_n 0, 1) := by decide +kernel
theorem dX1_isSameAs_1 : decode cX1_isSameAs 1 = .ok (.getfield 13, 3) := by decide +kernel
theorem dX1_isSameAs_4 : decode cX1_isSameAs 4 = .ok (.aload_n 1, 1) := by decide +kernel
theorem dX1_isSameAs_5 : decode cX1_isSameAs 5 = .ok (.getfield 13, 3) := by decide +kernel
theorem dX1_isSameAs_8 : decode cX1_isSameAs 8 = .ok (.lcmp, 1) := by decide +kernel
theorem dX1_isSameAs_9 : decode cX1_isSameAs 9 = .ok (.ifCond .ne 19, 3) := by decide +kernel
theorem dX1_isSameAs_12 : decode cX1_isSameAs 12 = .ok (.aload_n 0, 1) := by decide +kernel
theorem dX1_isSameAs_13 : decode cX1_isSameAs 13 = .ok (.getfield 19, 3) := by decide +kernel
theorem dX1_isSameAs_16 : decode cX1_isSameAs 16 = .ok (.aload_n 1, 1) := by decide +kernel
theorem dX1_isSameAs_17 : decode cX1_isSameAs 17 = .ok (.getfield 19, 3) := by decide +kernel
theorem dX1_isSameAs_20 : decode cX1_isSameAs 20 = .ok (.lcmp, 1) := by decide +kernel
theorem dX1_isSameAs_21 : decode cX1_isSameAs 21 = .ok (.ifCond .ne 7, 3) := by decide +kernel
theorem dX1_isSameAs_24 : decode cX1_isSameAs 24 = .ok (.iconst 1, 1) := by decide +kernel
theorem dX1_isSameAs_25 : decode cX1_isSameAs 25 = .ok (.goto 4, 3) := by decide +kernel
theorem dX1_isSameAs_28 : decode cX1_isSameAs 28 = .ok (.iconst 0, 1) := by decide +kernel
theorem dX1_isSameAs_29 : decode cX1_isSameAs 29 = .ok (.ireturn, 1) := by decide +kernel
theorem dX1_isOppositeOf_0 : decode cX1_isOppositeOf 0 = .ok (.aload_n 0, 1) := by decide +kernel
theorem dX1_isOppositeOf_1 : decode cX1_isOppositeOf 1 = .ok (.getfield 13, 3) := by decide +kernel
theorem dX1_isOppositeOf_4 : decode cX1_isOppositeOf 4 = .ok (.aload_n 1, 1) := by decide +kernel
theorem dX1_isOppositeOf_5 : decode cX1_isOppositeOf 5 = .ok (.getfield 13, 3) := by decide +kernel
theorem dX1_isOppositeOf_8 : decode cX1_isOppositeOf 8 = .ok (.lneg, 1) := by decide +kernel
theorem dX1_isOppositeOf_9 : decode cX1_isOppositeOf 9 = .ok (.lcmp, 1) := by decide +kernel
theorem dX1_isOppositeOf_10 : decode cX1_isOppositeOf 10 = .ok (.ifCond .ne 19, 3) := by decide +kernel
theorem dX1_isOppositeOf_13 : decode cX1_isOppositeOf 13 = .ok (.aload_n 0, 1) := by decide +kernel
theorem dX1_isOppositeOf_14 : decode cX1_isOppositeOf 14 = .ok (.getfield 19, 3) := by decide +kernel
theorem dX1_isOppositeOf_17 : decode cX1_isOppositeOf 17 = .ok (.aload_n 1, 1) := by decide +kernel
theorem dX1_isOppositeOf_18 : decode cX1_isOppositeOf 18 = .ok (.getfield 19, 3) := by decide +kernel
theorem dX1_isOppositeOf_21 : decode cX1_isOppositeOf 21 = .ok (.lcmp, 1) := by decide +kernel
theorem dX1_isOppositeOf_22 : decode cX1_isOppositeOf 22 = .ok (.ifCond .ne 7, 3) := by decide +kernel
theorem dX1_isOppositeOf_25 : decode cX1_isOppositeOf 25 = .ok (.iconst 1, 1) := by decide +kernel
theorem dX1_isOppositeOf_26 : decode cX1_isOppositeOf 26 = .ok (.goto 4, 3) := by decide +kernel
theorem dX1_isOppositeOf_29 : decode cX1_isOppositeOf 29 = .ok (.iconst 0, 1) := by decide +kernel
theorem dX1_isOppositeOf_30 : decode cX1_isOppositeOf 30 = .ok (.ireturn, 1) := by decide +kernel
theorem dX1_told_0 : decode cX1_told 0 = .ok (.iload_n 1, 1) := by decide +kernel
theorem dX1_told_1 : decode cX1_told 1 = .ok (.ifCond .eq 10, 3) := by decide +kernel
theorem dX1_told_4 : decode cX1_told 4 = .ok (.aload_n 0, 1) := by decide +kernel
theorem dX1_told_5 : decode cX1_told 5 = .ok (.getfield 13, 3) := by decide +kernel
theorem dX1_told_8 : decode cX1_told 8 = .ok (.goto 7, 3) := by decide +kernel
theorem dX1_told_11 : decode cX1_told 11 = .ok (.aload_n 0, 1) := by decide +kernel
theorem dX1_told_12 : decode cX1_told 12 = .ok (.getfield 19, 3) := by decide +kernel
theorem dX1_told_15 : decode cX1_told 15 = .ok (.lreturn, 1) := by decide +kernel
theorem dX2_init_0 : decode cX2_init 0 = .ok (.aload_n 0, 1) := by decide +kernel
theorem dX2_init_1 : decode cX2_init 1 = .ok (.invokespecial 3, 3) := by decide +kernel
theorem dX2_init_4 : decode cX2_init 4 = .ok (.aload_n 0, 1) := by decide +kernel
theorem dX2_init_5 : decode cX2_init 5 = .ok (.bipush 12, 2) := by decide +kernel
theorem dX2_init_7 : decode cX2_init 7 = .ok (.newarray .int, 2) := by decide +kernel
theorem dX2_init_9 : decode cX2_init 9 = .ok (.putfield 9, 3) := by decide +kernel
theorem dX2_init_12 : decode cX2_init 12 = .ok (.aload_n 0, 1) := by decide +kernel
theorem dX2_init_13 : decode cX2_init 13 = .ok (.bipush 12, 2) := by decide +kernel
theorem dX2_init_15 : decode cX2_init 15 = .ok (.newarray .int, 2) := by decide +kernel
theorem dX2_init_17 : decode cX2_init 17 = .ok (.putfield 15, 3) := by decide +kernel
theorem dX2_init_20 : decode cX2_init 20 = .ok (.aload_n 0, 1) := by decide +kernel
theorem dX2_init_21 : decode cX2_init 21 = .ok (.bipush 12, 2) := by decide +kernel
theorem dX2_init_23 : decode cX2_init 23 = .ok (.newarray .int, 2) := by decide +kernel
theorem dX2_init_25 : decode cX2_init 25 = .ok (.putfield 18, 3) := by decide +kernel
theorem dX2_init_28 : decode cX2_init 28 = .ok (.aload_n 0, 1) := by decide +kernel
theorem dX2_init_29 : decode cX2_init 29 = .ok (.new 21, 3) := by decide +kernel
theorem dX2_init_32 : decode cX2_init 32 = .ok (.dup, 1) := by decide +kernel
theorem dX2_init_33 : decode cX2_init 33 = .ok (.lconst 1, 1) := by decide +kernel
theorem dX2_init_34 : decode cX2_init 34 = .ok (.lconst 1, 1) := by decide +kernel
theorem dX2_init_35 : decode cX2_init 35 = .ok (.invokespecial 23, 3) := by decide +kernel
theorem dX2_init_38 : decode cX2_init 38 = .ok (.putfield 26, 3) := by decide +kernel
theorem dX2_init_41 : decode cX2_init 41 = .ok (.aload_n 0, 1) := by decide +kernel
theorem dX2_init_42 : decode cX2_init 42 = .ok (.new 21, 3) := by decide +kernel
theorem dX2_init_45 : decode cX2_init 45 = .ok (.dup, 1) := by decide +kernel
theorem dX2_init_46 : decode cX2_init 46 = .ok (.lconst 0, 1) := by decide +kernel
theorem dX2_init_47 : decode cX2_init 47 = .ok (.lconst 1, 1) := by decide +kernel
theorem dX2_init_48 : decode cX2_init 48 = .ok (.invokespecial 23, 3) := by decide +kernel
theorem dX2_init_51 : decode cX2_init 51 = .ok (.putfield 30, 3) := by decide +kernel
theorem dX2_init_54 : decode cX2_init 54 = .ok (.aload_n 0, 1) := by decide +kernel
theorem dX2_init_55 : decode cX2_init 55 = .ok (.bipush 7, 2) := by decide +kernel
theorem dX2_init_57 : decode cX2_init 57 = .ok (.anewarray 21, 3) := by decide +kernel
theorem dX2_init_60 : decode cX2_init 60 = .ok (.putfield 33, 3) := by decide +kernel
theorem dX2_init_63 : decode cX2_init 63 = .ok (.aload_n 0, 1) := by decide +kernel
theorem dX2_init_64 : decode cX2_init 64 = .ok (.bipush 7, 2) := by decide +kernel
theorem dX2_init_66 : decode cX2_init 66 = .ok (.anewarray 21, 3) := by decide +kernel
theorem dX2_init_69 : decode cX2_init 69 = .ok (.putfield 37, 3) := by decide +kernel
theorem dX2_init_72 : decode cX2_init 72 = .ok (.aload_n 0, 1) := by decide +kernel
theorem dX2_init_73 : decode cX2_init 73 = .ok (.iconst 0, 1) := by decide +kernel
theorem dX2_init_74 : decode cX2_init 74 = .ok (.aload_n 0, 1) := by decide +kernel
theorem dX2_init_75 : decode cX2_init 75 = .ok (.getfield 33, 3) := by decide +kernel
theorem dX2_init_78 : decode cX2_init 78 = .ok (.invokevirtual 40, 3) := by decide +kernel
theorem dX2_init_81 : decode cX2_init 81 = .ok (.return_, 1) := by decide +kernel
theorem dX2_addWheel_0 : decode cX2_addWheel 0 = .ok (.aload_n 0, 1) := by decide +kernel
theorem dX2_addWheel_1 : decode cX2_addWheel 1 = .ok (.getfield 44, 3) := by decide +kernel
theorem dX2_addWheel_4 : decode cX2_addWheel 4 = .ok (.istore_n 3, 1) := by decide +kernel
theorem dX2_addWheel_5 : decode cX2_addWheel 5 = .ok (.aload_n 0, 1) := by decide +kernel
theorem dX2_addWheel_6 : decode cX2_addWheel 6 = .ok (.getfield 9, 3) := by decide +kernel
theorem dX2_addWheel_9 : decode cX2_addWheel 9 = .ok (.iload_n 3, 1) := by decide +kernel
theorem dX2_addWheel_10 : decode cX2_addWheel 10 = .ok (.iload_n 1, 1) := by decide +kernel
theorem dX2_addWheel_11 : decode cX2_addWheel 11 = .ok (.invokestatic 48, 3) := by decide +kernel
theorem dX2_addWheel_14 : decode cX2_addWheel 14 = .ok (.aload_n 0, 1) := by decide +kernel
theorem dX2_addWheel_15 : decode cX2_addWheel 15 = .ok (.getfield 15, 3) := by decide +kernel
theorem dX2_addWheel_18 : decode cX2_addWheel 18 = .ok (.iload_n 3, 1) := by decide +kernel
theorem dX2_addWheel_19 : decode cX2_addWheel 19 = .ok (.iload_n 2, 1) := by decide +kernel
theorem dX2_addWheel_20 : decode cX2_addWheel 20 = .ok (.invokestatic 48, 3) := by decide +kernel
theorem dX2_addWheel_23 : decode cX2_addWheel 23 = .ok (.aload_n 0, 1) := by decide +kernel
theorem dX2_addWheel_24 : decode cX2_addWheel 24 = .ok (.dup, 1) := by decide +kernel
theorem dX2_addWheel_25 : decode cX2_addWheel 25 = .ok (.getfield 44, 3) := by decide +kernel
theorem dX2_addWheel_28 : decode cX2_addWheel 28 = .ok (.iconst 1, 1) := by decide +kernel
theorem dX2_addWheel_29 : decode cX2_addWheel 29 = .ok (.iadd, 1) := by decide +kernel
theorem dX2_addWheel_30 : decode cX2_addWheel 30 = .ok (.putfield 44, 3) := by decide +kernel
theorem dX2_addWheel_33 : decode cX2_addWheel 33 = .ok (.iload_n 3, 1) := by decide +kernel
theorem dX2_addWheel_34 : decode cX2_addWheel 34 = .ok (.ireturn, 1) := by decide +kernel
theorem dX2_axleOf_0 : decode cX2_axleOf 0 = .ok (.aload_n 0, 1) := by decide +kernel
theorem dX2_axleOf_1 : decode cX2_axleOf 1 = .ok (.getfield 9, 3) := by decide +kernel
theorem dX2_axleOf_4 : decode cX2_axleOf 4 = .ok (.iload_n 1, 1) := by decide +kernel
theorem dX2_axleOf_5 : decode cX2_axleOf 5 = .ok (.invokestatic 52, 3) := by decide +kernel
theorem dX2_axleOf_8 : decode cX2_axleOf 8 = .ok (.ireturn, 1) := by decide +kernel
theorem dX2_teethOf_0 : decode cX2_teethOf 0 = .ok (.aload_n 0, 1) := by decide +kernel
theorem dX2_teethOf_1 : decode cX2_teethOf 1 = .ok (.getfield 15, 3) := by decide +kernel
theorem dX2_teethOf_4 : decode cX2_teethOf 4 = .ok (.iload_n 1, 1) := by decide +kernel
theorem dX2_teethOf_5 : decode cX2_teethOf 5 = .ok (.invokestatic 52, 3) := by decide +kernel
theorem dX2_teethOf_8 : decode cX2_teethOf 8 = .ok (.ireturn, 1) := by decide +kernel
theorem dX2_meshedWith_0 : decode cX2_meshedWith 0 = .ok (.aload_n 0, 1) := by decide +kernel
theorem dX2_meshedWith_1 : decode cX2_meshedWith 1 = .ok (.getfield 18, 3) := by decide +kernel
theorem dX2_meshedWith_4 : decode cX2_meshedWith 4 = .ok (.iload_n 1, 1) := by decide +kernel
theorem dX2_meshedWith_5 : decode cX2_meshedWith 5 = .ok (.invokestatic 52, 3) := by decide +kernel
theorem dX2_meshedWith_8 : decode cX2_meshedWith 8 = .ok (.ireturn, 1) := by decide +kernel
theorem dX2_areOnOneAxle_0 : decode cX2_areOnOneAxle 0 = .ok (.aload_n 0, 1) := by decide +kernel
theorem dX2_areOnOneAxle_1 : decode cX2_areOnOneAxle 1 = .ok (.iload_n 1, 1) := by decide +kernel
theorem dX2_areOnOneAxle_2 : decode cX2_areOnOneAxle 2 = .ok (.invokevirtual 56, 3) := by decide +kernel
theorem dX2_areOnOneAxle_5 : decode cX2_areOnOneAxle 5 = .ok (.aload_n 0, 1) := by decide +kernel
theorem dX2_areOnOneAxle_6 : decode cX2_areOnOneAxle 6 = .ok (.iload_n 2, 1) := by decide +kernel
theorem dX2_areOnOneAxle_7 : decode cX2_areOnOneAxle 7 = .ok (.invokevirtual 56, 3) := by decide +kernel
theorem dX2_areOnOneAxle_10 : decode cX2_areOnOneAxle 10 = .ok (.if_icmp .ne 7, 3) := by decide +kernel
theorem dX2_areOnOneAxle_13 : decode cX2_areOnOneAxle 13 = .ok (.iconst 1, 1) := by decide +kernel
theorem dX2_areOnOneAxle_14 : decode cX2_areOnOneAxle 14 = .ok (.goto 4, 3) := by decide +kernel
theorem dX2_areOnOneAxle_17 : decode cX2_areOnOneAxle 17 = .ok (.iconst 0, 1) := by decide +kernel
theorem dX2_areOnOneAxle_18 : decode cX2_areOnOneAxle 18 = .ok (.ireturn, 1) := by decide +kernel
theorem dX2_areMeshed_0 : decode cX2_areMeshed 0 = .ok (.aload_n 0, 1) := by decide +kernel
theorem dX2_areMeshed_1 : decode cX2_areMeshed 1 = .ok (.iload_n 1, 1) := by decide +kernel
theorem dX2_areMeshed_2 : decode cX2_areMeshed 2 = .ok (.invokevirtual 60, 3) := by decide +kernel
theorem dX2_areMeshed_5 : decode cX2_areMeshed 5 = .ok (.iload_n 2, 1) := by decide +kernel
theorem dX2_areMeshed_6 : decode cX2_areMeshed 6 = .ok (.invokestatic 63, 3) := by decide +kernel
theorem dX2_areMeshed_9 : decode cX2_areMeshed 9 = .ok (.ireturn, 1) := by decide +kernel
theorem dX2_join_0 : decode cX2_join 0 = .ok (.aload_n 0, 1) := by decide +kernel
theorem dX2_join_1 : decode cX2_join 1 = .ok (.getfield 18, 3) := by decide +kernel
theorem dX2_join_4 : decode cX2_join 4 = .ok (.iload_n 1, 1) := by decide +kernel
theorem dX2_join_5 : decode cX2_join 5 = .ok (.aload_n 0, 1) := by decide +kernel
theorem dX2_join_6 : decode cX2_join 6 = .ok (.iload_n 1, 1) := by decide +kernel
theorem dX2_join_7 : decode cX2_join 7 = .ok (.invokevirtual 60, 3) := by decide +kernel
theorem dX2_join_10 : decode cX2_join 10 = .ok (.iconst 1, 1) := by decide +kernel
theorem dX2_join_11 : decode cX2_join 11 = .ok (.iload_n 2, 1) := by decide +kernel
theorem dX2_join_12 : decode cX2_join 12 = .ok (.ishl, 1) := by decide +kernel
theorem dX2_join_13 : decode cX2_join 13 = .ok (.ior, 1) := by decide +kernel
theorem dX2_join_14 : decode cX2_join 14 = .ok (.invokestatic 48, 3) := by decide +kernel
theorem dX2_join_17 : decode cX2_join 17 = .ok (.aload_n 0, 1) := by decide +kernel
theorem dX2_join_18 : decode cX2_join 18 = .ok (.getfield 18, 3) := by decide +kernel
theorem dX2_join_21 : decode cX2_join 21 = .ok (.iload_n 2, 1) := by decide +kernel
theorem dX2_join_22 : decode cX2_join 22 = .ok (.aload_n 0, 1) := by decide +kernel
theorem dX2_join_23 : decode cX2_join 23 = .ok (.iload_n 2, 1) := by decide +kernel
theorem dX2_join_24 : decode cX2_join 24 = .ok (.invokevirtual 60, 3) := by decide +kernel
theorem dX2_join_27 : decode cX2_join 27 = .ok (.iconst 1, 1) := by decide +kernel
theorem dX2_join_28 : decode cX2_join 28 = .ok (.iload_n 1, 1) := by decide +kernel
theorem dX2_join_29 : decode cX2_join 29 = .ok (.ishl, 1) := by decide +kernel
theorem dX2_join_30 : decode cX2_join 30 = .ok (.ior, 1) := by decide +kernel
theorem dX2_join_31 : decode cX2_join 31 = .ok (.invokestatic 48, 3) := by decide +kernel
theorem dX2_join_34 : decode cX2_join 34 = .ok (.aload_n 0, 1) := by decide +kernel
theorem dX2_join_35 : decode cX2_join 35 = .ok (.iconst 0, 1) := by decide +kernel
theorem dX2_join_36 : decode cX2_join 36 = .ok (.aload_n 0, 1) := by decide +kernel
theorem dX2_join_37 : decode cX2_join 37 = .ok (.getfield 33, 3) := by decide +kernel
theorem dX2_join_40 : decode cX2_join 40 = .ok (.invokevirtual 40, 3) := by decide +kernel
theorem dX2_join_43 : decode cX2_join 43 = .ok (.return_, 1) := by decide +kernel
theorem dX2_separate_0 : decode cX2_separate 0 = .ok (.aload_n 0, 1) := by decide +kernel
theorem dX2_separate_1 : decode cX2_separate 1 = .ok (.getfield 18, 3) := by decide +kernel
theorem dX2_separate_4 : decode cX2_separate 4 = .ok (.iload_n 1, 1) := by decide +kernel
theorem dX2_separate_5 : decode cX2_separate 5 = .ok (.aload_n 0, 1) := by decide +kernel
theorem dX2_separate_6 : decode cX2_separate 6 = .ok (.iload_n 1, 1) := by decide +kernel
theorem dX2_separate_7 : decode cX2_separate 7 = .ok (.invokevirtual 60, 3) := by decide +kernel
theorem dX2_separate_10 : decode cX2_separate 10 = .ok (.iconst 1, 1) := by decide +kernel
theorem dX2_separate_11 : decode cX2_separate 11 = .ok (.iload_n 2, 1) := by decide +kernel
theorem dX2_separate_12 : decode cX2_separate 12 = .ok (.ishl, 1) := by decide +kernel
theorem dX2_separate_13 : decode cX2_separate 13 = .ok (.iconst (-1), 1) := by decide +kernel
theorem dX2_separate_14 : decode cX2_separate 14 = .ok (.ixor, 1) := by decide +kernel
theorem dX2_separate_15 : decode cX2_separate 15 = .ok (.iand, 1) := by decide +kernel
theorem dX2_separate_16 : decode cX2_separate 16 = .ok (.invokestatic 48, 3) := by decide +kernel
theorem dX2_separate_19 : decode cX2_separate 19 = .ok (.aload_n 0, 1) := by decide +kernel
theorem dX2_separate_20 : decode cX2_separate 20 = .ok (.getfield 18, 3) := by decide +kernel
theorem dX2_separate_23 : decode cX2_separate 23 = .ok (.iload_n 2, 1) := by decide +kernel
theorem dX2_separate_24 : decode cX2_separate 24 = .ok (.aload_n 0, 1) := by decide +kernel
theorem dX2_separate_25 : decode cX2_separate 25 = .ok (.iload_n 2, 1) := by decide +kernel
theorem dX2_separate_26 : decode cX2_separate 26 = .ok (.invokevirtual 60, 3) := by decide +kernel
theorem dX2_separate_29 : decode cX2_separate 29 = .ok (.iconst 1, 1) := by decide +kernel
theorem dX2_separate_30 : decode cX2_separate 30 = .ok (.iload_n 1, 1) := by decide +kernel
theorem dX2_separate_31 : decode cX2_separate 31 = .ok (.ishl, 1) := by decide +kernel
theorem dX2_separate_32 : decode cX2_separate 32 = .ok (.iconst (-1), 1) := by decide +kernel
theorem dX2_separate_33 : decode cX2_separate 33 = .ok (.ixor, 1) := by decide +kernel
theorem dX2_separate_34 : decode cX2_separate 34 = .ok (.iand, 1) := by decide +kernel
theorem dX2_separate_35 : decode cX2_separate 35 = .ok (.invokestatic 48, 3) := by decide +kernel
theorem dX2_separate_38 : decode cX2_separate 38 = .ok (.aload_n 0, 1) := by decide +kernel
theorem dX2_separate_39 : decode cX2_separate 39 = .ok (.iconst 0, 1) := by decide +kernel
theorem dX2_separate_40 : decode cX2_separate 40 = .ok (.aload_n 0, 1) := by decide +kernel
theorem dX2_separate_41 : decode cX2_separate 41 = .ok (.getfield 33, 3) := by decide +kernel
theorem dX2_separate_44 : decode cX2_separate 44 = .ok (.invokevirtual 40, 3) := by decide +kernel
theorem dX2_separate_47 : decode cX2_separate 47 = .ok (.return_, 1) := by decide +kernel
theorem dX2_wouldJam_0 : decode cX2_wouldJam 0 = .ok (.aload_n 0, 1) := by decide +kernel
theorem dX2_wouldJam_1 : decode cX2_wouldJam 1 = .ok (.aload_n 0, 1) := by decide +kernel
theorem dX2_wouldJam_2 : decode cX2_wouldJam 2 = .ok (.iload_n 1, 1) := by decide +kernel
theorem dX2_wouldJam_3 : decode cX2_wouldJam 3 = .ok (.invokevirtual 56, 3) := by decide +kernel
theorem dX2_wouldJam_6 : decode cX2_wouldJam 6 = .ok (.aload_n 0, 1) := by decide +kernel
theorem dX2_wouldJam_7 : decode cX2_wouldJam 7 = .ok (.getfield 37, 3) := by decide +kernel
theorem dX2_wouldJam_10 : decode cX2_wouldJam 10 = .ok (.invokevirtual 40, 3) := by decide +kernel
theorem dX2_wouldJam_13 : decode cX2_wouldJam 13 = .ok (.aload_n 0, 1) := by decide +kernel
theorem dX2_wouldJam_14 : decode cX2_wouldJam 14 = .ok (.getfield 37, 3) := by decide +kernel
theorem dX2_wouldJam_17 : decode cX2_wouldJam 17 = .ok (.aload_n 0, 1) := by decide +kernel
theorem dX2_wouldJam_18 : decode cX2_wouldJam 18 = .ok (.iload_n 2, 1) := by decide +kernel
theorem dX2_wouldJam_19 : decode cX2_wouldJam 19 = .ok (.invokevirtual 56, 3) := by decide +kernel
theorem dX2_wouldJam_22 : decode cX2_wouldJam 22 = .ok (.invokestatic 67, 3) := by decide +kernel
theorem dX2_wouldJam_25 : decode cX2_wouldJam 25 = .ok (.astore_n 3, 1) := by decide +kernel
theorem dX2_wouldJam_26 : decode cX2_wouldJam 26 = .ok (.aload_n 3, 1) := by decide +kernel
theorem dX2_wouldJam_27 : decode cX2_wouldJam 27 = .ok (.ifnull 34, 3) := by decide +kernel
theorem dX2_wouldJam_30 : decode cX2_wouldJam 30 = .ok (.aload_n 3, 1) := by decide +kernel
theorem dX2_wouldJam_31 : decode cX2_wouldJam 31 = .ok (.new 21, 3) := by decide +kernel
theorem dX2_wouldJam_34 : decode cX2_wouldJam 34 = .ok (.dup, 1) := by decide +kernel
theorem dX2_wouldJam_35 : decode cX2_wouldJam 35 = .ok (.aload_n 0, 1) := by decide +kernel
theorem dX2_wouldJam_36 : decode cX2_wouldJam 36 = .ok (.iload_n 1, 1) := by decide +kernel
theorem dX2_wouldJam_37 : decode cX2_wouldJam 37 = .ok (.invokevirtual 71, 3) := by decide +kernel
theorem dX2_wouldJam_40 : decode cX2_wouldJam 40 = .ok (.ineg, 1) := by decide +kernel
theorem dX2_wouldJam_41 : decode cX2_wouldJam 41 = .ok (.i2l, 1) := by decide +kernel
theorem dX2_wouldJam_42 : decode cX2_wouldJam 42 = .ok (.aload_n 0, 1) := by decide +kernel
theorem dX2_wouldJam_43 : decode cX2_wouldJam 43 = .ok (.iload_n 2, 1) := by decide +kernel
theorem dX2_wouldJam_44 : decode cX2_wouldJam 44 = .ok (.invokevirtual 71, 3) := by decide +kernel
theorem dX2_wouldJam_47 : decode cX2_wouldJam 47 = .ok (.i2l, 1) := by decide +kernel
theorem dX2_wouldJam_48 : decode cX2_wouldJam 48 = .ok (.invokespecial 23, 3) := by decide +kernel
theorem dX2_wouldJam_51 : decode cX2_wouldJam 51 = .ok (.invokevirtual 74, 3) := by decide +kernel
theorem dX2_wouldJam_54 : decode cX2_wouldJam 54 = .ok (.ifCond .ne 7, 3) := by decide +kernel
theorem dX2_wouldJam_57 : decode cX2_wouldJam 57 = .ok (.iconst 1, 1) := by decide +kernel
theorem dX2_wouldJam_58 : decode cX2_wouldJam 58 = .ok (.goto 4, 3) := by decide +kernel
theorem dX2_wouldJam_61 : decode cX2_wouldJam 61 = .ok (.iconst 0, 1) := by decide +kernel
theorem dX2_wouldJam_62 : decode cX2_wouldJam 62 = .ok (.ireturn, 1) := by decide +kernel
theorem dX2_isMoved_0 : decode cX2_isMoved 0 = .ok (.aload_n 0, 1) := by decide +kernel
theorem dX2_isMoved_1 : decode cX2_isMoved 1 = .ok (.getfield 33, 3) := by decide +kernel
theorem dX2_isMoved_4 : decode cX2_isMoved 4 = .ok (.iload_n 1, 1) := by decide +kernel
theorem dX2_isMoved_5 : decode cX2_isMoved 5 = .ok (.invokestatic 67, 3) := by decide +kernel
theorem dX2_isMoved_8 : decode cX2_isMoved 8 = .ok (.ifnull 7, 3) := by decide +kernel
theorem dX2_isMoved_11 : decode cX2_isMoved 11 = .ok (.iconst 1, 1) := by decide +kernel
theorem dX2_isMoved_12 : decode cX2_isMoved 12 = .ok (.goto 4, 3) := by decide +kernel
theorem dX2_isMoved_15 : decode cX2_isMoved 15 = .ok (.iconst 0, 1) := by decide +kernel
theorem dX2_isMoved_16 : decode cX2_isMoved 16 = .ok (.ireturn, 1) := by decide +kernel
theorem dX2_rateOf_0 : decode cX2_rateOf 0 = .ok (.aload_n 0, 1) := by decide +kernel
theorem dX2_rateOf_1 : decode cX2_rateOf 1 = .ok (.getfield 33, 3) := by decide +kernel
theorem dX2_rateOf_4 : decode cX2_rateOf 4 = .ok (.iload_n 1, 1) := by decide +kernel
theorem dX2_rateOf_5 : decode cX2_rateOf 5 = .ok (.invokestatic 67, 3) := by decide +kernel
theorem dX2_rateOf_8 : decode cX2_rateOf 8 = .ok (.astore_n 2, 1) := by decide +kernel
theorem dX2_rateOf_9 : decode cX2_rateOf 9 = .ok (.aload_n 2, 1) := by decide +kernel
theorem dX2_rateOf_10 : decode cX2_rateOf 10 = .ok (.ifnonnull 10, 3) := by decide +kernel
theorem dX2_rateOf_13 : decode cX2_rateOf 13 = .ok (.aload_n 0, 1) := by decide +kernel
theorem dX2_rateOf_14 : decode cX2_rateOf 14 = .ok (.getfield 30, 3) := by decide +kernel
theorem dX2_rateOf_17 : decode cX2_rateOf 17 = .ok (.goto 4, 3) := by decide +kernel
theorem dX2_rateOf_20 : decode cX2_rateOf 20 = .ok (.aload_n 2, 1) := by decide +kernel
theorem dX2_rateOf_21 : decode cX2_rateOf 21 = .ok (.areturn, 1) := by decide +kernel
theorem dX2_turnedAt_0 : decode cX2_turnedAt 0 = .ok (.aload_n 0, 1) := by decide +kernel
theorem dX2_turnedAt_1 : decode cX2_turnedAt 1 = .ok (.iload_n 1, 1) := by decide +kernel
theorem dX2_turnedAt_2 : decode cX2_turnedAt 2 = .ok (.invokevirtual 78, 3) := by decide +kernel
theorem dX2_turnedAt_5 : decode cX2_turnedAt 5 = .ok (.iload_n 2, 1) := by decide +kernel
theorem dX2_turnedAt_6 : decode cX2_turnedAt 6 = .ok (.i2l, 1) := by decide +kernel
theorem dX2_turnedAt_7 : decode cX2_turnedAt 7 = .ok (.lconst 1, 1) := by decide +kernel
theorem dX2_turnedAt_8 : decode cX2_turnedAt 8 = .ok (.invokevirtual 82, 3) := by decide +kernel
theorem dX2_turnedAt_11 : decode cX2_turnedAt 11 = .ok (.areturn, 1) := by decide +kernel
theorem dX2_countMeshes_0 : decode cX2_countMeshes 0 = .ok (.iconst 0, 1) := by decide +kernel
theorem dX2_countMeshes_1 : decode cX2_countMeshes 1 = .ok (.istore_n 1, 1) := by decide +kernel
theorem dX2_countMeshes_2 : decode cX2_countMeshes 2 = .ok (.iconst 0, 1) := by decide +kernel
theorem dX2_countMeshes_3 : decode cX2_countMeshes 3 = .ok (.istore_n 2, 1) := by decide +kernel
theorem dX2_countMeshes_4 : decode cX2_countMeshes 4 = .ok (.iload_n 2, 1) := by decide +kernel
theorem dX2_countMeshes_5 : decode cX2_countMeshes 5 = .ok (.aload_n 0, 1) := by decide +kernel
theorem dX2_countMeshes_6 : decode cX2_countMeshes 6 = .ok (.getfield 44, 3) := by decide +kernel
theorem dX2_countMeshes_9 : decode cX2_countMeshes 9 = .ok (.if_icmp .ge 20, 3) := by decide +kernel
theorem dX2_countMeshes_12 : decode cX2_countMeshes 12 = .ok (.iload_n 1, 1) := by decide +kernel
theorem dX2_countMeshes_13 : decode cX2_countMeshes 13 = .ok (.aload_n 0, 1) := by decide +kernel
theorem dX2_countMeshes_14 : decode cX2_countMeshes 14 = .ok (.iload_n 2, 1) := by decide +kernel
theorem dX2_countMeshes_15 : decode cX2_countMeshes 15 = .ok (.invokevirtual 60, 3) := by decide +kernel
theorem dX2_countMeshes_18 : decode cX2_countMeshes 18 = .ok (.invokestatic 86, 3) := by decide +kernel
theorem dX2_countMeshes_21 : decode cX2_countMeshes 21 = .ok (.iadd, 1) := by decide +kernel
theorem dX2_countMeshes_22 : decode cX2_countMeshes 22 = .ok (.istore_n 1, 1) := by decide +kernel
theorem dX2_countMeshes_23 : decode cX2_countMeshes 23 = .ok (.iinc 2 1, 3) := by decide +kernel
theorem dX2_countMeshes_26 : decode cX2_countMeshes 26 = .ok (.goto (-22), 3) := by decide +kernel
theorem dX2_countMeshes_29 : decode cX2_countMeshes 29 = .ok (.iload_n 1, 1) := by decide +kernel
theorem dX2_countMeshes_30 : decode cX2_countMeshes 30 = .ok (.iconst 2, 1) := by decide +kernel
theorem dX2_countMeshes_31 : decode cX2_countMeshes 31 = .ok (.idiv, 1) := by decide +kernel
theorem dX2_countMeshes_32 : decode cX2_countMeshes 32 = .ok (.ireturn, 1) := by decide +kernel
theorem dX2_countMoved_0 : decode cX2_countMoved 0 = .ok (.iconst 0, 1) := by decide +kernel
theorem dX2_countMoved_1 : decode cX2_countMoved 1 = .ok (.istore_n 1, 1) := by decide +kernel
theorem dX2_countMoved_2 : decode cX2_countMoved 2 = .ok (.iconst 0, 1) := by decide +kernel
theorem dX2_countMoved_3 : decode cX2_countMoved 3 = .ok (.istore_n 2, 1) := by decide +kernel
theorem dX2_countMoved_4 : decode cX2_countMoved 4 = .ok (.iload_n 2, 1) := by decide +kernel
theorem dX2_countMoved_5 : decode cX2_countMoved 5 = .ok (.bipush 7, 2) := by decide +kernel
theorem dX2_countMoved_7 : decode cX2_countMoved 7 = .ok (.if_icmp .ge 20, 3) := by decide +kernel
theorem dX2_countMoved_10 : decode cX2_countMoved 10 = .ok (.aload_n 0, 1) := by decide +kernel
theorem dX2_countMoved_11 : decode cX2_countMoved 11 = .ok (.iload_n 2, 1) := by decide +kernel
theorem dX2_countMoved_12 : decode cX2_countMoved 12 = .ok (.invokevirtual 91, 3) := by decide +kernel
theorem dX2_countMoved_15 : decode cX2_countMoved 15 = .ok (.ifCond .eq 6, 3) := by decide +kernel
theorem dX2_countMoved_18 : decode cX2_countMoved 18 = .ok (.iinc 1 1, 3) := by decide +kernel
theorem dX2_countMoved_21 : decode cX2_countMoved 21 = .ok (.iinc 2 1, 3) := by decide +kernel
theorem dX2_countMoved_24 : decode cX2_countMoved 24 = .ok (.goto (-20), 3) := by decide +kernel
theorem dX2_countMoved_27 : decode cX2_countMoved 27 = .ok (.iload_n 1, 1) := by decide +kernel
theorem dX2_countMoved_28 : decode cX2_countMoved 28 = .ok (.ireturn, 1) := by decide +kernel
theorem dX2_turnsToReturn_0 : decode cX2_turnsToReturn 0 = .ok (.lconst 1, 1) := by decide +kernel
theorem dX2_turnsToReturn_1 : decode cX2_turnsToReturn 1 = .ok (.lstore_n 1, 1) := by decide +kernel
theorem dX2_turnsToReturn_2 : decode cX2_turnsToReturn 2 = .ok (.iconst 0, 1) := by decide +kernel
theorem dX2_turnsToReturn_3 : decode cX2_turnsToReturn 3 = .ok (.istore_n 3, 1) := by decide +kernel
theorem dX2_turnsToReturn_4 : decode cX2_turnsToReturn 4 = .ok (.iload_n 3, 1) := by decide +kernel
theorem dX2_turnsToReturn_5 : decode cX2_turnsToReturn 5 = .ok (.bipush 7, 2) := by decide +kernel
theorem dX2_turnsToReturn_7 : decode cX2_turnsToReturn 7 = .ok (.if_icmp .ge 42, 3) := by decide +kernel
theorem dX2_turnsToReturn_10 : decode cX2_turnsToReturn 10 = .ok (.aload_n 0, 1) := by decide +kernel
theorem dX2_turnsToReturn_11 : decode cX2_turnsToReturn 11 = .ok (.iload_n 3, 1) := by decide +kernel
theorem dX2_turnsToReturn_12 : decode cX2_turnsToReturn 12 = .ok (.invokevirtual 78, 3) := by decide +kernel
theorem dX2_turnsToReturn_15 : decode cX2_turnsToReturn 15 = .ok (.getfield 95, 3) := by decide +kernel
theorem dX2_turnsToReturn_18 : decode cX2_turnsToReturn 18 = .ok (.lstore 4, 2) := by decide +kernel
theorem dX2_turnsToReturn_20 : decode cX2_turnsToReturn 20 = .ok (.lload_n 1, 1) := by decide +kernel
theorem dX2_turnsToReturn_21 : decode cX2_turnsToReturn 21 = .ok (.lload 4, 2) := by decide +kernel
theorem dX2_turnsToReturn_23 : decode cX2_turnsToReturn 23 = .ok (.invokestatic 99, 3) := by decide +kernel
theorem dX2_turnsToReturn_26 : decode cX2_turnsToReturn 26 = .ok (.lstore 6, 2) := by decide +kernel
theorem dX2_turnsToReturn_28 : decode cX2_turnsToReturn 28 = .ok (.lload 6, 2) := by decide +kernel
theorem dX2_turnsToReturn_30 : decode cX2_turnsToReturn 30 = .ok (.lconst 0, 1) := by decide +kernel
theorem dX2_turnsToReturn_31 : decode cX2_turnsToReturn 31 = .ok (.lcmp, 1) := by decide +kernel
theorem dX2_turnsToReturn_32 : decode cX2_turnsToReturn 32 = .ok (.ifCond .le 11, 3) := by decide +kernel
theorem dX2_turnsToReturn_35 : decode cX2_turnsToReturn 35 = .ok (.lload_n 1, 1) := by decide +kernel
theorem dX2_turnsToReturn_36 : decode cX2_turnsToReturn 36 = .ok (.lload 6, 2) := by decide +kernel
theorem dX2_turnsToReturn_38 : decode cX2_turnsToReturn 38 = .ok (.ldiv, 1) := by decide +kernel
theorem dX2_turnsToReturn_39 : decode cX2_turnsToReturn 39 = .ok (.lload 4, 2) := by decide +kernel
theorem dX2_turnsToReturn_41 : decode cX2_turnsToReturn 41 = .ok (.lmul, 1) := by decide +kernel
theorem dX2_turnsToReturn_42 : decode cX2_turnsToReturn 42 = .ok (.lstore_n 1, 1) := by decide +kernel
theorem dX2_turnsToReturn_43 : decode cX2_turnsToReturn 43 = .ok (.iinc 3 1, 3) := by decide +kernel
theorem dX2_turnsToReturn_46 : decode cX2_turnsToReturn 46 = .ok (.goto (-42), 3) := by decide +kernel
theorem dX2_turnsToReturn_49 : decode cX2_turnsToReturn 49 = .ok (.lload_n 1, 1) := by decide +kernel
theorem dX2_turnsToReturn_50 : decode cX2_turnsToReturn 50 = .ok (.lreturn, 1) := by decide +kernel
theorem dX2_isPeriodRight_0 : decode cX2_isPeriodRight 0 = .ok (.aload_n 0, 1) := by decide +kernel
theorem dX2_isPeriodRight_1 : decode cX2_isPeriodRight 1 = .ok (.invokevirtual 103, 3) := by decide +kernel
theorem dX2_isPeriodRight_4 : decode cX2_isPeriodRight 4 = .ok (.lstore_n 1, 1) := by decide +kernel
theorem dX2_isPeriodRight_5 : decode cX2_isPeriodRight 5 = .ok (.iconst 0, 1) := by decide +kernel
theorem dX2_isPeriodRight_6 : decode cX2_isPeriodRight 6 = .ok (.istore_n 3, 1) := by decide +kernel
theorem dX2_isPeriodRight_7 : decode cX2_isPeriodRight 7 = .ok (.iload_n 3, 1) := by decide +kernel
theorem dX2_isPeriodRight_8 : decode cX2_isPeriodRight 8 = .ok (.bipush 7, 2) := by decide +kernel
theorem dX2_isPeriodRight_10 : decode cX2_isPeriodRight 10 = .ok (.if_icmp .ge 37, 3) := by decide +kernel
theorem dX2_isPeriodRight_13 : decode cX2_isPeriodRight 13 = .ok (.aload_n 0, 1) := by decide +kernel
theorem dX2_isPeriodRight_14 : decode cX2_isPeriodRight 14 = .ok (.iload_n 3, 1) := by decide +kernel
theorem dX2_isPeriodRight_15 : decode cX2_isPeriodRight 15 = .ok (.invokevirtual 78, 3) := by decide +kernel
theorem dX2_isPeriodRight_18 : decode cX2_isPeriodRight 18 = .ok (.getfield 95, 3) := by decide +kernel
theorem dX2_isPeriodRight_21 : decode cX2_isPeriodRight 21 = .ok (.lstore 4, 2) := by decide +kernel
theorem dX2_isPeriodRight_23 : decode cX2_isPeriodRight 23 = .ok (.lload 4, 2) := by decide +kernel
theorem dX2_isPeriodRight_25 : decode cX2_isPeriodRight 25 = .ok (.lconst 0, 1) := by decide +kernel
theorem dX2_isPeriodRight_26 : decode cX2_isPeriodRight 26 = .ok (.lcmp, 1) := by decide +kernel
theorem dX2_isPeriodRight_27 : decode cX2_isPeriodRight 27 = .ok (.ifCond .le 14, 3) := by decide +kernel
theorem dX2_isPeriodRight_30 : decode cX2_isPeriodRight 30 = .ok (.lload_n 1, 1) := by decide +kernel
theorem dX2_isPeriodRight_31 : decode cX2_isPeriodRight 31 = .ok (.lload 4, 2) := by decide +kernel
theorem dX2_isPeriodRight_33 : decode cX2_isPeriodRight 33 = .ok (.lrem, 1) := by decide +kernel
theorem dX2_isPeriodRight_34 : decode cX2_isPeriodRight 34 = .ok (.lconst 0, 1) := by decide +kernel
theorem dX2_isPeriodRight_35 : decode cX2_isPeriodRight 35 = .ok (.lcmp, 1) := by decide +kernel
theorem dX2_isPeriodRight_36 : decode cX2_isPeriodRight 36 = .ok (.ifCond .eq 5, 3) := by decide +kernel
theorem dX2_isPeriodRight_39 : decode cX2_isPeriodRight 39 = .ok (.iconst 0, 1) := by decide +kernel
theorem dX2_isPeriodRight_40 : decode cX2_isPeriodRight 40 = .ok (.ireturn, 1) := by decide +kernel
theorem dX2_isPeriodRight_41 : decode cX2_isPeriodRight 41 = .ok (.iinc 3 1, 3) := by decide +kernel
theorem dX2_isPeriodRight_44 : decode cX2_isPeriodRight 44 = .ok (.goto (-37), 3) := by decide +kernel
theorem dX2_isPeriodRight_47 : decode cX2_isPeriodRight 47 = .ok (.lload_n 1, 1) := by decide +kernel
theorem dX2_isPeriodRight_48 : decode cX2_isPeriodRight 48 = .ok (.lconst 0, 1) := by decide +kernel
theorem dX2_isPeriodRight_49 : decode cX2_isPeriodRight 49 = .ok (.lcmp, 1) := by decide +kernel
theorem dX2_isPeriodRight_50 : decode cX2_isPeriodRight 50 = .ok (.ifCond .le 7, 3) := by decide +kernel
theorem dX2_isPeriodRight_53 : decode cX2_isPeriodRight 53 = .ok (.iconst 1, 1) := by decide +kernel
theorem dX2_isPeriodRight_54 : decode cX2_isPeriodRight 54 = .ok (.goto 4, 3) := by decide +kernel
theorem dX2_isPeriodRight_57 : decode cX2_isPeriodRight 57 = .ok (.iconst 0, 1) := by decide +kernel
theorem dX2_isPeriodRight_58 : decode cX2_isPeriodRight 58 = .ok (.ireturn, 1) := by decide +kernel
theorem dX2_spreadRates_0 : decode cX2_spreadRates 0 = .ok (.iconst 0, 1) := by decide +kernel
theorem dX2_spreadRates_1 : decode cX2_spreadRates 1 = .ok (.istore_n 3, 1) := by decide +kernel
theorem dX2_spreadRates_2 : decode cX2_spreadRates 2 = .ok (.iload_n 3, 1) := by decide +kernel
theorem dX2_spreadRates_3 : decode cX2_spreadRates 3 = .ok (.aload_n 2, 1) := by decide +kernel
theorem dX2_spreadRates_4 : decode cX2_spreadRates 4 = .ok (.arraylength, 1) := by decide +kernel
theorem dX2_spreadRates_5 : decode cX2_spreadRates 5 = .ok (.if_icmp .ge 25, 3) := by decide +kernel
theorem dX2_spreadRates_8 : decode cX2_spreadRates 8 = .ok (.aload_n 2, 1) := by decide +kernel
theorem dX2_spreadRates_9 : decode cX2_spreadRates 9 = .ok (.iload_n 3, 1) := by decide +kernel
theorem dX2_spreadRates_10 : decode cX2_spreadRates 10 = .ok (.iload_n 3, 1) := by decide +kernel
theorem dX2_spreadRates_11 : decode cX2_spreadRates 11 = .ok (.iload_n 1, 1) := by decide +kernel
theorem dX2_spreadRates_12 : decode cX2_spreadRates 12 = .ok (.if_icmp .ne 10, 3) := by decide +kernel
theorem dX2_spreadRates_15 : decode cX2_spreadRates 15 = .ok (.aload_n 0, 1) := by decide +kernel
theorem dX2_spreadRates_16 : decode cX2_spreadRates 16 = .ok (.getfield 26, 3) := by decide +kernel
theorem dX2_spreadRates_19 : decode cX2_spreadRates 19 = .ok (.goto 4, 3) := by decide +kernel
theorem dX2_spreadRates_22 : decode cX2_spreadRates 22 = .ok (.aconst_null, 1) := by decide +kernel
theorem dX2_spreadRates_23 : decode cX2_spreadRates 23 = .ok (.aastore, 1) := by decide +kernel
theorem dX2_spreadRates_24 : decode cX2_spreadRates 24 = .ok (.iinc 3 1, 3) := by decide +kernel
theorem dX2_spreadRates_27 : decode cX2_spreadRates 27 = .ok (.goto (-25), 3) := by decide +kernel
theorem dX2_spreadRates_30 : decode cX2_spreadRates 30 = .ok (.iconst 1, 1) := by decide +kernel
theorem dX2_spreadRates_31 : decode cX2_spreadRates 31 = .ok (.istore_n 3, 1) := by decide +kernel
theorem dX2_spreadRates_32 : decode cX2_spreadRates 32 = .ok (.iconst 0, 1) := by decide +kernel
theorem dX2_spreadRates_33 : decode cX2_spreadRates 33 = .ok (.istore 4, 2) := by decide +kernel
theorem dX2_spreadRates_35 : decode cX2_spreadRates 35 = .ok (.iload 4, 2) := by decide +kernel
theorem dX2_spreadRates_37 : decode cX2_spreadRates 37 = .ok (.bipush 7, 2) := by decide +kernel
theorem dX2_spreadRates_39 : decode cX2_spreadRates 39 = .ok (.if_icmp .ge 54, 3) := by decide +kernel
theorem dX2_spreadRates_42 : decode cX2_spreadRates 42 = .ok (.iload_n 3, 1) := by decide +kernel
theorem dX2_spreadRates_43 : decode cX2_spreadRates 43 = .ok (.ifCond .eq 50, 3) := by decide +kernel
theorem dX2_spreadRates_46 : decode cX2_spreadRates 46 = .ok (.iconst 0, 1) := by decide +kernel
theorem dX2_spreadRates_47 : decode cX2_spreadRates 47 = .ok (.istore_n 3, 1) := by decide +kernel
theorem dX2_spreadRates_48 : decode cX2_spreadRates 48 = .ok (.iconst 0, 1) := by decide +kernel
theorem dX2_spreadRates_49 : decode cX2_spreadRates 49 = .ok (.istore 5, 2) := by decide +kernel
theorem dX2_spreadRates_51 : decode cX2_spreadRates 51 = .ok (.iload 5, 2) := by decide +kernel
theorem dX2_spreadRates_53 : decode cX2_spreadRates 53 = .ok (.aload_n 0, 1) := by decide +kernel
theorem dX2_spreadRates_54 : decode cX2_spreadRates 54 = .ok (.getfield 44, 3) := by decide +kernel
theorem dX2_spreadRates_57 : decode cX2_spreadRates 57 = .ok (.if_icmp .ge 30, 3) := by decide +kernel
theorem dX2_spreadRates_60 : decode cX2_spreadRates 60 = .ok (.aload_n 0, 1) := by decide +kernel
theorem dX2_spreadRates_61 : decode cX2_spreadRates 61 = .ok (.iload 5, 2) := by decide +kernel
theorem dX2_spreadRates_63 : decode cX2_spreadRates 63 = .ok (.invokevirtual 60, 3) := by decide +kernel
theorem dX2_spreadRates_66 : decode cX2_spreadRates 66 = .ok (.ifCond .eq 15, 3) := by decide +kernel
theorem dX2_spreadRates_69 : decode cX2_spreadRates 69 = .ok (.aload_n 0, 1) := by decide +kernel
theorem dX2_spreadRates_70 : decode cX2_spreadRates 70 = .ok (.iload 5, 2) := by decide +kernel
theorem dX2_spreadRates_72 : decode cX2_spreadRates 72 = .ok (.aload_n 2, 1) := by decide +kernel
theorem dX2_spreadRates_73 : decode cX2_spreadRates 73 = .ok (.invokevirtual 107, 3) := by decide +kernel
theorem dX2_spreadRates_76 : decode cX2_spreadRates 76 = .ok (.ifCond .eq 5, 3) := by decide +kernel
theorem dX2_spreadRates_79 : decode cX2_spreadRates 79 = .ok (.iconst 1, 1) := by decide +kernel
theorem dX2_spreadRates_80 : decode cX2_spreadRates 80 = .ok (.istore_n 3, 1) := by decide +kernel
theorem dX2_spreadRates_81 : decode cX2_spreadRates 81 = .ok (.iinc 5 1, 3) := by decide +kernel
theorem dX2_spreadRates_84 : decode cX2_spreadRates 84 = .ok (.goto (-33), 3) := by decide +kernel
theorem dX2_spreadRates_87 : decode cX2_spreadRates 87 = .ok (.iinc 4 1, 3) := by decide +kernel
theorem dX2_spreadRates_90 : decode cX2_spreadRates 90 = .ok (.goto (-55), 3) := by decide +kernel
theorem dX2_spreadRates_93 : decode cX2_spreadRates 93 = .ok (.return_, 1) := by decide +kernel
theorem dX2_spreadFromWheel_0 : decode cX2_spreadFromWheel 0 = .ok (.aload_n 2, 1) := by decide +kernel
theorem dX2_spreadFromWheel_1 : decode cX2_spreadFromWheel 1 = .ok (.aload_n 0, 1) := by decide +kernel
theorem dX2_spreadFromWheel_2 : decode cX2_spreadFromWheel 2 = .ok (.iload_n 1, 1) := by decide +kernel
theorem dX2_spreadFromWheel_3 : decode cX2_spreadFromWheel 3 = .ok (.invokevirtual 56, 3) := by decide +kernel
theorem dX2_spreadFromWheel_6 : decode cX2_spreadFromWheel 6 = .ok (.invokestatic 67, 3) := by decide +kernel
theorem dX2_spreadFromWheel_9 : decode cX2_spreadFromWheel 9 = .ok (.astore_n 3, 1) := by decide +kernel
theorem dX2_spreadFromWheel_10 : decode cX2_spreadFromWheel 10 = .ok (.aload_n 3, 1) := by decide +kernel
theorem dX2_spreadFromWheel_11 : decode cX2_spreadFromWheel 11 = .ok (.ifnonnull 5, 3) := by decide +kernel
theorem dX2_spreadFromWheel_14 : decode cX2_spreadFromWheel 14 = .ok (.iconst 0, 1) := by decide +kernel
theorem dX2_spreadFromWheel_15 : decode cX2_spreadFromWheel 15 = .ok (.ireturn, 1) := by decide +kernel
theorem dX2_spreadFromWheel_16 : decode cX2_spreadFromWheel 16 = .ok (.iconst 0, 1) := by decide +kernel
theorem dX2_spreadFromWheel_17 : decode cX2_spreadFromWheel 17 = .ok (.istore 4, 2) := by decide +kernel
theorem dX2_spreadFromWheel_19 : decode cX2_spreadFromWheel 19 = .ok (.iconst 0, 1) := by decide +kernel
theorem dX2_spreadFromWheel_20 : decode cX2_spreadFromWheel 20 = .ok (.istore 5, 2) := by decide +kernel
theorem dX2_spreadFromWheel_22 : decode cX2_spreadFromWheel 22 = .ok (.iload 5, 2) := by decide +kernel
theorem dX2_spreadFromWheel_24 : decode cX2_spreadFromWheel 24 = .ok (.aload_n 0, 1) := by decide +kernel
theorem dX2_spreadFromWheel_25 : decode cX2_spreadFromWheel 25 = .ok (.getfield 44, 3) := by decide +kernel
theorem dX2_spreadFromWheel_28 : decode cX2_spreadFromWheel 28 = .ok (.if_icmp .ge 71, 3) := by decide +kernel
theorem dX2_spreadFromWheel_31 : decode cX2_spreadFromWheel 31 = .ok (.aload_n 0, 1) := by decide +kernel
theorem dX2_spreadFromWheel_32 : decode cX2_spreadFromWheel 32 = .ok (.iload 5, 2) := by decide +kernel
theorem dX2_spreadFromWheel_34 : decode cX2_spreadFromWheel 34 = .ok (.invokevirtual 56, 3) := by decide +kernel
theorem dX2_spreadFromWheel_37 : decode cX2_spreadFromWheel 37 = .ok (.istore 6, 2) := by decide +kernel
theorem dX2_spreadFromWheel_39 : decode cX2_spreadFromWheel 39 = .ok (.aload_n 0, 1) := by decide +kernel
