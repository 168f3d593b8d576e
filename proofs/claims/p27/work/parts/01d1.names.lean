theorem dX2_spreadFromWheel_40 : decode cX2_spreadFromWheel 40 = .ok (.iload_n 1, 1) := by decide +kernel
theorem dX2_spreadFromWheel_41 : decode cX2_spreadFromWheel 41 = .ok (.iload 5, 2) := by decide +kernel
theorem dX2_spreadFromWheel_43 : decode cX2_spreadFromWheel 43 = .ok (.invokevirtual 111, 3) := by decide +kernel
theorem dX2_spreadFromWheel_46 : decode cX2_spreadFromWheel 46 = .ok (.ifCond .eq 47, 3) := by decide +kernel
theorem dX2_spreadFromWheel_49 : decode cX2_spreadFromWheel 49 = .ok (.iload 6, 2) := by decide +kernel
theorem dX2_spreadFromWheel_51 : decode cX2_spreadFromWheel 51 = .ok (.ifCond .lt 42, 3) := by decide +kernel
theorem dX2_spreadFromWheel_54 : decode cX2_spreadFromWheel 54 = .ok (.iload 6, 2) := by decide +kernel
theorem dX2_spreadFromWheel_56 : decode cX2_spreadFromWheel 56 = .ok (.aload_n 2, 1) := by decide +kernel
theorem dX2_spreadFromWheel_57 : decode cX2_spreadFromWheel 57 = .ok (.arraylength, 1) := by decide +kernel
theorem dX2_spreadFromWheel_58 : decode cX2_spreadFromWheel 58 = .ok (.if_icmp .ge 35, 3) := by decide +kernel
theorem dX2_spreadFromWheel_61 : decode cX2_spreadFromWheel 61 = .ok (.aload_n 2, 1) := by decide +kernel
theorem dX2_spreadFromWheel_62 : decode cX2_spreadFromWheel 62 = .ok (.iload 6, 2) := by decide +kernel
theorem dX2_spreadFromWheel_64 : decode cX2_spreadFromWheel 64 = .ok (.aaload, 1) := by decide +kernel
theorem dX2_spreadFromWheel_65 : decode cX2_spreadFromWheel 65 = .ok (.ifnonnull 28, 3) := by decide +kernel
theorem dX2_spreadFromWheel_68 : decode cX2_spreadFromWheel 68 = .ok (.aload_n 2, 1) := by decide +kernel
theorem dX2_spreadFromWheel_69 : decode cX2_spreadFromWheel 69 = .ok (.iload 6, 2) := by decide +kernel
theorem dX2_spreadFromWheel_71 : decode cX2_spreadFromWheel 71 = .ok (.aload_n 3, 1) := by decide +kernel
theorem dX2_spreadFromWheel_72 : decode cX2_spreadFromWheel 72 = .ok (.aload_n 0, 1) := by decide +kernel
theorem dX2_spreadFromWheel_73 : decode cX2_spreadFromWheel 73 = .ok (.iload_n 1, 1) := by decide +kernel
theorem dX2_spreadFromWheel_74 : decode cX2_spreadFromWheel 74 = .ok (.invokevirtual 71, 3) := by decide +kernel
theorem dX2_spreadFromWheel_77 : decode cX2_spreadFromWheel 77 = .ok (.ineg, 1) := by decide +kernel
theorem dX2_spreadFromWheel_78 : decode cX2_spreadFromWheel 78 = .ok (.i2l, 1) := by decide +kernel
theorem dX2_spreadFromWheel_79 : decode cX2_spreadFromWheel 79 = .ok (.aload_n 0, 1) := by decide +kernel
theorem dX2_spreadFromWheel_80 : decode cX2_spreadFromWheel 80 = .ok (.iload 5, 2) := by decide +kernel
theorem dX2_spreadFromWheel_82 : decode cX2_spreadFromWheel 82 = .ok (.invokevirtual 71, 3) := by decide +kernel
theorem dX2_spreadFromWheel_85 : decode cX2_spreadFromWheel 85 = .ok (.i2l, 1) := by decide +kernel
theorem dX2_spreadFromWheel_86 : decode cX2_spreadFromWheel 86 = .ok (.invokevirtual 82, 3) := by decide +kernel
theorem dX2_spreadFromWheel_89 : decode cX2_spreadFromWheel 89 = .ok (.aastore, 1) := by decide +kernel
theorem dX2_spreadFromWheel_90 : decode cX2_spreadFromWheel 90 = .ok (.iconst 1, 1) := by decide +kernel
theorem dX2_spreadFromWheel_91 : decode cX2_spreadFromWheel 91 = .ok (.istore 4, 2) := by decide +kernel
theorem dX2_spreadFromWheel_93 : decode cX2_spreadFromWheel 93 = .ok (.iinc 5 1, 3) := by decide +kernel
theorem dX2_spreadFromWheel_96 : decode cX2_spreadFromWheel 96 = .ok (.goto (-74), 3) := by decide +kernel
theorem dX2_spreadFromWheel_99 : decode cX2_spreadFromWheel 99 = .ok (.iload 4, 2) := by decide +kernel
theorem dX2_spreadFromWheel_101 : decode cX2_spreadFromWheel 101 = .ok (.ireturn, 1) := by decide +kernel
theorem dX2_rateIn_0 : decode cX2_rateIn 0 = .ok (.iload_n 1, 1) := by decide +kernel
theorem dX2_rateIn_1 : decode cX2_rateIn 1 = .ok (.ifCond .lt 15, 3) := by decide +kernel
theorem dX2_rateIn_4 : decode cX2_rateIn 4 = .ok (.iload_n 1, 1) := by decide +kernel
theorem dX2_rateIn_5 : decode cX2_rateIn 5 = .ok (.aload_n 0, 1) := by decide +kernel
theorem dX2_rateIn_6 : decode cX2_rateIn 6 = .ok (.arraylength, 1) := by decide +kernel
theorem dX2_rateIn_7 : decode cX2_rateIn 7 = .ok (.if_icmp .ge 9, 3) := by decide +kernel
theorem dX2_rateIn_10 : decode cX2_rateIn 10 = .ok (.aload_n 0, 1) := by decide +kernel
theorem dX2_rateIn_11 : decode cX2_rateIn 11 = .ok (.iload_n 1, 1) := by decide +kernel
theorem dX2_rateIn_12 : decode cX2_rateIn 12 = .ok (.aaload, 1) := by decide +kernel
theorem dX2_rateIn_13 : decode cX2_rateIn 13 = .ok (.goto 4, 3) := by decide +kernel
theorem dX2_rateIn_16 : decode cX2_rateIn 16 = .ok (.aconst_null, 1) := by decide +kernel
theorem dX2_rateIn_17 : decode cX2_rateIn 17 = .ok (.areturn, 1) := by decide +kernel
theorem dX3_init_0 : decode cX3_init 0 = .ok (.aload_n 0, 1) := by decide +kernel
theorem dX3_init_1 : decode cX3_init 1 = .ok (.invokespecial 3, 3) := by decide +kernel
theorem dX3_init_4 : decode cX3_init 4 = .ok (.aload_n 0, 1) := by decide +kernel
theorem dX3_init_5 : decode cX3_init 5 = .ok (.bipush 6, 2) := by decide +kernel
theorem dX3_init_7 : decode cX3_init 7 = .ok (.newarray .int, 2) := by decide +kernel
theorem dX3_init_9 : decode cX3_init 9 = .ok (.putfield 9, 3) := by decide +kernel
theorem dX3_init_12 : decode cX3_init 12 = .ok (.aload_n 0, 1) := by decide +kernel
theorem dX3_init_13 : decode cX3_init 13 = .ok (.bipush 36, 2) := by decide +kernel
theorem dX3_init_15 : decode cX3_init 15 = .ok (.newarray .int, 2) := by decide +kernel
theorem dX3_init_17 : decode cX3_init 17 = .ok (.putfield 15, 3) := by decide +kernel
theorem dX3_init_20 : decode cX3_init 20 = .ok (.aload_n 0, 1) := by decide +kernel
theorem dX3_init_21 : decode cX3_init 21 = .ok (.bipush 36, 2) := by decide +kernel
theorem dX3_init_23 : decode cX3_init 23 = .ok (.newarray .int, 2) := by decide +kernel
theorem dX3_init_25 : decode cX3_init 25 = .ok (.putfield 18, 3) := by decide +kernel
theorem dX3_init_28 : decode cX3_init 28 = .ok (.aload_n 0, 1) := by decide +kernel
theorem dX3_init_29 : decode cX3_init 29 = .ok (.bipush 36, 2) := by decide +kernel
theorem dX3_init_31 : decode cX3_init 31 = .ok (.newarray .int, 2) := by decide +kernel
theorem dX3_init_33 : decode cX3_init 33 = .ok (.putfield 21, 3) := by decide +kernel
theorem dX3_init_36 : decode cX3_init 36 = .ok (.aload_n 0, 1) := by decide +kernel
theorem dX3_init_37 : decode cX3_init 37 = .ok (.bipush 6, 2) := by decide +kernel
theorem dX3_init_39 : decode cX3_init 39 = .ok (.newarray .int, 2) := by decide +kernel
theorem dX3_init_41 : decode cX3_init 41 = .ok (.putfield 24, 3) := by decide +kernel
theorem dX3_init_44 : decode cX3_init 44 = .ok (.aload_n 0, 1) := by decide +kernel
theorem dX3_init_45 : decode cX3_init 45 = .ok (.bipush 6, 2) := by decide +kernel
theorem dX3_init_47 : decode cX3_init 47 = .ok (.newarray .int, 2) := by decide +kernel
theorem dX3_init_49 : decode cX3_init 49 = .ok (.putfield 27, 3) := by decide +kernel
theorem dX3_init_52 : decode cX3_init 52 = .ok (.aload_n 0, 1) := by decide +kernel
theorem dX3_init_53 : decode cX3_init 53 = .ok (.bipush 6, 2) := by decide +kernel
theorem dX3_init_55 : decode cX3_init 55 = .ok (.newarray .int, 2) := by decide +kernel
theorem dX3_init_57 : decode cX3_init 57 = .ok (.putfield 30, 3) := by decide +kernel
theorem dX3_init_60 : decode cX3_init 60 = .ok (.iconst 0, 1) := by decide +kernel
theorem dX3_init_61 : decode cX3_init 61 = .ok (.istore_n 1, 1) := by decide +kernel
theorem dX3_init_62 : decode cX3_init 62 = .ok (.iload_n 1, 1) := by decide +kernel
theorem dX3_init_63 : decode cX3_init 63 = .ok (.bipush 6, 2) := by decide +kernel
theorem dX3_init_65 : decode cX3_init 65 = .ok (.if_icmp .ge 14, 3) := by decide +kernel
theorem dX3_init_68 : decode cX3_init 68 = .ok (.aload_n 0, 1) := by decide +kernel
theorem dX3_init_69 : decode cX3_init 69 = .ok (.iload_n 1, 1) := by decide +kernel
theorem dX3_init_70 : decode cX3_init 70 = .ok (.invokevirtual 33, 3) := by decide +kernel
theorem dX3_init_73 : decode cX3_init 73 = .ok (.iinc 1 1, 3) := by decide +kernel
theorem dX3_init_76 : decode cX3_init 76 = .ok (.goto (-14), 3) := by decide +kernel
theorem dX3_init_79 : decode cX3_init 79 = .ok (.return_, 1) := by decide +kernel
theorem dX3_piecesOf_0 : decode cX3_piecesOf 0 = .ok (.aload_n 0, 1) := by decide +kernel
theorem dX3_piecesOf_1 : decode cX3_piecesOf 1 = .ok (.getfield 9, 3) := by decide +kernel
theorem dX3_piecesOf_4 : decode cX3_piecesOf 4 = .ok (.iload_n 1, 1) := by decide +kernel
theorem dX3_piecesOf_5 : decode cX3_piecesOf 5 = .ok (.invokestatic 37, 3) := by decide +kernel
theorem dX3_piecesOf_8 : decode cX3_piecesOf 8 = .ok (.ireturn, 1) := by decide +kernel
theorem dX3_agreeingOf_0 : decode cX3_agreeingOf 0 = .ok (.aload_n 0, 1) := by decide +kernel
theorem dX3_agreeingOf_1 : decode cX3_agreeingOf 1 = .ok (.getfield 24, 3) := by decide +kernel
theorem dX3_agreeingOf_4 : decode cX3_agreeingOf 4 = .ok (.iload_n 1, 1) := by decide +kernel
theorem dX3_agreeingOf_5 : decode cX3_agreeingOf 5 = .ok (.invokestatic 37, 3) := by decide +kernel
theorem dX3_agreeingOf_8 : decode cX3_agreeingOf 8 = .ok (.ireturn, 1) := by decide +kernel
theorem dX3_leastOf_0 : decode cX3_leastOf 0 = .ok (.aload_n 0, 1) := by decide +kernel
theorem dX3_leastOf_1 : decode cX3_leastOf 1 = .ok (.getfield 27, 3) := by decide +kernel
theorem dX3_leastOf_4 : decode cX3_leastOf 4 = .ok (.iload_n 1, 1) := by decide +kernel
theorem dX3_leastOf_5 : decode cX3_leastOf 5 = .ok (.invokestatic 37, 3) := by decide +kernel
theorem dX3_leastOf_8 : decode cX3_leastOf 8 = .ok (.ireturn, 1) := by decide +kernel
theorem dX3_greatestOf_0 : decode cX3_greatestOf 0 = .ok (.aload_n 0, 1) := by decide +kernel
theorem dX3_greatestOf_1 : decode cX3_greatestOf 1 = .ok (.getfield 30, 3) := by decide +kernel
theorem dX3_greatestOf_4 : decode cX3_greatestOf 4 = .ok (.iload_n 1, 1) := by decide +kernel
theorem dX3_greatestOf_5 : decode cX3_greatestOf 5 = .ok (.invokestatic 37, 3) := by decide +kernel
theorem dX3_greatestOf_8 : decode cX3_greatestOf 8 = .ok (.ireturn, 1) := by decide +kernel
theorem dX3_countPieces_0 : decode cX3_countPieces 0 = .ok (.iconst 0, 1) := by decide +kernel
theorem dX3_countPieces_1 : decode cX3_countPieces 1 = .ok (.istore_n 1, 1) := by decide +kernel
theorem dX3_countPieces_2 : decode cX3_countPieces 2 = .ok (.iconst 0, 1) := by decide +kernel
theorem dX3_countPieces_3 : decode cX3_countPieces 3 = .ok (.istore_n 2, 1) := by decide +kernel
theorem dX3_countPieces_4 : decode cX3_countPieces 4 = .ok (.iload_n 2, 1) := by decide +kernel
theorem dX3_countPieces_5 : decode cX3_countPieces 5 = .ok (.bipush 6, 2) := by decide +kernel
theorem dX3_countPieces_7 : decode cX3_countPieces 7 = .ok (.if_icmp .ge 17, 3) := by decide +kernel
theorem dX3_countPieces_10 : decode cX3_countPieces 10 = .ok (.iload_n 1, 1) := by decide +kernel
theorem dX3_countPieces_11 : decode cX3_countPieces 11 = .ok (.aload_n 0, 1) := by decide +kernel
theorem dX3_countPieces_12 : decode cX3_countPieces 12 = .ok (.iload_n 2, 1) := by decide +kernel
theorem dX3_countPieces_13 : decode cX3_countPieces 13 = .ok (.invokevirtual 41, 3) := by decide +kernel
theorem dX3_countPieces_16 : decode cX3_countPieces 16 = .ok (.iadd, 1) := by decide +kernel
theorem dX3_countPieces_17 : decode cX3_countPieces 17 = .ok (.istore_n 1, 1) := by decide +kernel
theorem dX3_countPieces_18 : decode cX3_countPieces 18 = .ok (.iinc 2 1, 3) := by decide +kernel
theorem dX3_countPieces_21 : decode cX3_countPieces 21 = .ok (.goto (-17), 3) := by decide +kernel
theorem dX3_countPieces_24 : decode cX3_countPieces 24 = .ok (.iload_n 1, 1) := by decide +kernel
theorem dX3_countPieces_25 : decode cX3_countPieces 25 = .ok (.ireturn, 1) := by decide +kernel
theorem dX3_weigh_0 : decode cX3_weigh 0 = .ok (.iconst 0, 1) := by decide +kernel
theorem dX3_weigh_1 : decode cX3_weigh 1 = .ok (.istore_n 2, 1) := by decide +kernel
theorem dX3_weigh_2 : decode cX3_weigh 2 = .ok (.iconst (-1), 1) := by decide +kernel
theorem dX3_weigh_3 : decode cX3_weigh 3 = .ok (.istore_n 3, 1) := by decide +kernel
theorem dX3_weigh_4 : decode cX3_weigh 4 = .ok (.iconst (-1), 1) := by decide +kernel
theorem dX3_weigh_5 : decode cX3_weigh 5 = .ok (.istore 4, 2) := by decide +kernel
theorem dX3_weigh_7 : decode cX3_weigh 7 = .ok (.iconst 4, 1) := by decide +kernel
theorem dX3_weigh_8 : decode cX3_weigh 8 = .ok (.istore 5, 2) := by decide +kernel
theorem dX3_weigh_10 : decode cX3_weigh 10 = .ok (.iload 5, 2) := by decide +kernel
theorem dX3_weigh_12 : decode cX3_weigh 12 = .ok (.sipush 240, 3) := by decide +kernel
theorem dX3_weigh_15 : decode cX3_weigh 15 = .ok (.if_icmp .gt 38, 3) := by decide +kernel
theorem dX3_weigh_18 : decode cX3_weigh 18 = .ok (.aload_n 0, 1) := by decide +kernel
theorem dX3_weigh_19 : decode cX3_weigh 19 = .ok (.iload 5, 2) := by decide +kernel
theorem dX3_weigh_21 : decode cX3_weigh 21 = .ok (.iload_n 1, 1) := by decide +kernel
theorem dX3_weigh_22 : decode cX3_weigh 22 = .ok (.invokevirtual 49, 3) := by decide +kernel
theorem dX3_weigh_25 : decode cX3_weigh 25 = .ok (.ifCond .eq 22, 3) := by decide +kernel
theorem dX3_weigh_28 : decode cX3_weigh 28 = .ok (.iinc 2 1, 3) := by decide +kernel
theorem dX3_weigh_31 : decode cX3_weigh 31 = .ok (.iload_n 3, 1) := by decide +kernel
theorem dX3_weigh_32 : decode cX3_weigh 32 = .ok (.iconst (-1), 1) := by decide +kernel
theorem dX3_weigh_33 : decode cX3_weigh 33 = .ok (.if_icmp .ne 8, 3) := by decide +kernel
theorem dX3_weigh_36 : decode cX3_weigh 36 = .ok (.iload 5, 2) := by decide +kernel
theorem dX3_weigh_38 : decode cX3_weigh 38 = .ok (.goto 4, 3) := by decide +kernel
theorem dX3_weigh_41 : decode cX3_weigh 41 = .ok (.iload_n 3, 1) := by decide +kernel
theorem dX3_weigh_42 : decode cX3_weigh 42 = .ok (.istore_n 3, 1) := by decide +kernel
theorem dX3_weigh_43 : decode cX3_weigh 43 = .ok (.iload 5, 2) := by decide +kernel
theorem dX3_weigh_45 : decode cX3_weigh 45 = .ok (.istore 4, 2) := by decide +kernel
theorem dX3_weigh_47 : decode cX3_weigh 47 = .ok (.iinc 5 1, 3) := by decide +kernel
theorem dX3_weigh_50 : decode cX3_weigh 50 = .ok (.goto (-40), 3) := by decide +kernel
theorem dX3_weigh_53 : decode cX3_weigh 53 = .ok (.aload_n 0, 1) := by decide +kernel
theorem dX3_weigh_54 : decode cX3_weigh 54 = .ok (.getfield 24, 3) := by decide +kernel
theorem dX3_weigh_57 : decode cX3_weigh 57 = .ok (.iload_n 1, 1) := by decide +kernel
theorem dX3_weigh_58 : decode cX3_weigh 58 = .ok (.iload_n 2, 1) := by decide +kernel
theorem dX3_weigh_59 : decode cX3_weigh 59 = .ok (.invokestatic 45, 3) := by decide +kernel
theorem dX3_weigh_62 : decode cX3_weigh 62 = .ok (.aload_n 0, 1) := by decide +kernel
theorem dX3_weigh_63 : decode cX3_weigh 63 = .ok (.getfield 27, 3) := by decide +kernel
theorem dX3_weigh_66 : decode cX3_weigh 66 = .ok (.iload_n 1, 1) := by decide +kernel
theorem dX3_weigh_67 : decode cX3_weigh 67 = .ok (.iload_n 3, 1) := by decide +kernel
theorem dX3_weigh_68 : decode cX3_weigh 68 = .ok (.invokestatic 45, 3) := by decide +kernel
theorem dX3_weigh_71 : decode cX3_weigh 71 = .ok (.aload_n 0, 1) := by decide +kernel
theorem dX3_weigh_72 : decode cX3_weigh 72 = .ok (.getfield 30, 3) := by decide +kernel
theorem dX3_weigh_75 : decode cX3_weigh 75 = .ok (.iload_n 1, 1) := by decide +kernel
theorem dX3_weigh_76 : decode cX3_weigh 76 = .ok (.iload 4, 2) := by decide +kernel
theorem dX3_weigh_78 : decode cX3_weigh 78 = .ok (.invokestatic 45, 3) := by decide +kernel
theorem dX3_weigh_81 : decode cX3_weigh 81 = .ok (.return_, 1) := by decide +kernel
theorem dX3_agreesWithAll_0 : decode cX3_agreesWithAll 0 = .ok (.iload_n 2, 1) := by decide +kernel
theorem dX3_agreesWithAll_1 : decode cX3_agreesWithAll 1 = .ok (.bipush 6, 2) := by decide +kernel
theorem dX3_agreesWithAll_3 : decode cX3_agreesWithAll 3 = .ok (.imul, 1) := by decide +kernel
theorem dX3_agreesWithAll_4 : decode cX3_agreesWithAll 4 = .ok (.istore_n 3, 1) := by decide +kernel
theorem dX3_agreesWithAll_5 : decode cX3_agreesWithAll 5 = .ok (.iload_n 3, 1) := by decide +kernel
theorem dX3_agreesWithAll_6 : decode cX3_agreesWithAll 6 = .ok (.aload_n 0, 1) := by decide +kernel
theorem dX3_agreesWithAll_7 : decode cX3_agreesWithAll 7 = .ok (.iload_n 2, 1) := by decide +kernel
theorem dX3_agreesWithAll_8 : decode cX3_agreesWithAll 8 = .ok (.invokevirtual 41, 3) := by decide +kernel
theorem dX3_agreesWithAll_11 : decode cX3_agreesWithAll 11 = .ok (.iadd, 1) := by decide +kernel
theorem dX3_agreesWithAll_12 : decode cX3_agreesWithAll 12 = .ok (.istore 4, 2) := by decide +kernel
theorem dX3_agreesWithAll_14 : decode cX3_agreesWithAll 14 = .ok (.iload_n 3, 1) := by decide +kernel
theorem dX3_agreesWithAll_15 : decode cX3_agreesWithAll 15 = .ok (.istore 5, 2) := by decide +kernel
theorem dX3_agreesWithAll_17 : decode cX3_agreesWithAll 17 = .ok (.iload 5, 2) := by decide +kernel
theorem dX3_agreesWithAll_19 : decode cX3_agreesWithAll 19 = .ok (.iload 4, 2) := by decide +kernel
theorem dX3_agreesWithAll_21 : decode cX3_agreesWithAll 21 = .ok (.if_icmp .ge 57, 3) := by decide +kernel
theorem dX3_agreesWithAll_24 : decode cX3_agreesWithAll 24 = .ok (.iload_n 1, 1) := by decide +kernel
theorem dX3_agreesWithAll_25 : decode cX3_agreesWithAll 25 = .ok (.aload_n 0, 1) := by decide +kernel
theorem dX3_agreesWithAll_26 : decode cX3_agreesWithAll 26 = .ok (.getfield 18, 3) := by decide +kernel
theorem dX3_agreesWithAll_29 : decode cX3_agreesWithAll 29 = .ok (.iload 5, 2) := by decide +kernel
theorem dX3_agreesWithAll_31 : decode cX3_agreesWithAll 31 = .ok (.invokestatic 37, 3) := by decide +kernel
theorem dX3_agreesWithAll_34 : decode cX3_agreesWithAll 34 = .ok (.imul, 1) := by decide +kernel
theorem dX3_agreesWithAll_35 : decode cX3_agreesWithAll 35 = .ok (.sipush 360, 3) := by decide +kernel
theorem dX3_agreesWithAll_38 : decode cX3_agreesWithAll 38 = .ok (.aload_n 0, 1) := by decide +kernel
theorem dX3_agreesWithAll_39 : decode cX3_agreesWithAll 39 = .ok (.getfield 15, 3) := by decide +kernel
theorem dX3_agreesWithAll_42 : decode cX3_agreesWithAll 42 = .ok (.iload 5, 2) := by decide +kernel
theorem dX3_agreesWithAll_44 : decode cX3_agreesWithAll 44 = .ok (.invokestatic 37, 3) := by decide +kernel
theorem dX3_agreesWithAll_47 : decode cX3_agreesWithAll 47 = .ok (.imul, 1) := by decide +kernel
theorem dX3_agreesWithAll_48 : decode cX3_agreesWithAll 48 = .ok (.isub, 1) := by decide +kernel
theorem dX3_agreesWithAll_49 : decode cX3_agreesWithAll 49 = .ok (.invokestatic 53, 3) := by decide +kernel
theorem dX3_agreesWithAll_52 : decode cX3_agreesWithAll 52 = .ok (.istore 6, 2) := by decide +kernel
theorem dX3_agreesWithAll_54 : decode cX3_agreesWithAll 54 = .ok (.iload 6, 2) := by decide +kernel
theorem dX3_agreesWithAll_56 : decode cX3_agreesWithAll 56 = .ok (.iload_n 1, 1) := by decide +kernel
theorem dX3_agreesWithAll_57 : decode cX3_agreesWithAll 57 = .ok (.aload_n 0, 1) := by decide +kernel
theorem dX3_agreesWithAll_58 : decode cX3_agreesWithAll 58 = .ok (.getfield 21, 3) := by decide +kernel
theorem dX3_agreesWithAll_61 : decode cX3_agreesWithAll 61 = .ok (.iload 5, 2) := by decide +kernel
theorem dX3_agreesWithAll_63 : decode cX3_agreesWithAll 63 = .ok (.invokestatic 37, 3) := by decide +kernel
theorem dX3_agreesWithAll_66 : decode cX3_agreesWithAll 66 = .ok (.imul, 1) := by decide +kernel
theorem dX3_agreesWithAll_67 : decode cX3_agreesWithAll 67 = .ok (.if_icmp .le 5, 3) := by decide +kernel
theorem dX3_agreesWithAll_70 : decode cX3_agreesWithAll 70 = .ok (.iconst 0, 1) := by decide +kernel
theorem dX3_agreesWithAll_71 : decode cX3_agreesWithAll 71 = .ok (.ireturn, 1) := by decide +kernel
theorem dX3_agreesWithAll_72 : decode cX3_agreesWithAll 72 = .ok (.iinc 5 1, 3) := by decide +kernel
theorem dX3_agreesWithAll_75 : decode cX3_agreesWithAll 75 = .ok (.goto (-58), 3) := by decide +kernel
theorem dX3_agreesWithAll_78 : decode cX3_agreesWithAll 78 = .ok (.iconst 1, 1) := by decide +kernel
theorem dX3_agreesWithAll_79 : decode cX3_agreesWithAll 79 = .ok (.ireturn, 1) := by decide +kernel
theorem dX4_init_0 : decode cX4_init 0 = .ok (.aload_n 0, 1) := by decide +kernel
theorem dX4_init_1 : decode cX4_init 1 = .ok (.invokespecial 3, 3) := by decide +kernel
theorem dX4_init_4 : decode cX4_init 4 = .ok (.aload_n 0, 1) := by decide +kernel
theorem dX4_init_5 : decode cX4_init 5 = .ok (.invokevirtual 9, 3) := by decide +kernel
theorem dX4_init_8 : decode cX4_init 8 = .ok (.return_, 1) := by decide +kernel
theorem dX4_forget_0 : decode cX4_forget 0 = .ok (.aload_n 0, 1) := by decide +kernel
theorem dX4_forget_1 : decode cX4_forget 1 = .ok (.iconst (-1), 1) := by decide +kernel
theorem dX4_forget_2 : decode cX4_forget 2 = .ok (.putfield 22, 3) := by decide +kernel
theorem dX4_forget_5 : decode cX4_forget 5 = .ok (.aload_n 0, 1) := by decide +kernel
theorem dX4_forget_6 : decode cX4_forget 6 = .ok (.iconst (-1), 1) := by decide +kernel
theorem dX4_forget_7 : decode cX4_forget 7 = .ok (.putfield 29, 3) := by decide +kernel
theorem dX4_forget_10 : decode cX4_forget 10 = .ok (.aload_n 0, 1) := by decide +kernel
theorem dX4_forget_11 : decode cX4_forget 11 = .ok (.iconst (-1), 1) := by decide +kernel
theorem dX4_forget_12 : decode cX4_forget 12 = .ok (.putfield 32, 3) := by decide +kernel
theorem dX4_forget_15 : decode cX4_forget 15 = .ok (.aload_n 0, 1) := by decide +kernel
theorem dX4_forget_16 : decode cX4_forget 16 = .ok (.iconst (-1), 1) := by decide +kernel
theorem dX4_forget_17 : decode cX4_forget 17 = .ok (.putfield 35, 3) := by decide +kernel
theorem dX4_forget_20 : decode cX4_forget 20 = .ok (.aload_n 0, 1) := by decide +kernel
theorem dX4_forget_21 : decode cX4_forget 21 = .ok (.iconst (-1), 1) := by decide +kernel
theorem dX4_forget_22 : decode cX4_forget 22 = .ok (.putfield 38, 3) := by decide +kernel
theorem dX4_forget_25 : decode cX4_forget 25 = .ok (.return_, 1) := by decide +kernel
theorem dX5_init_0 : decode cX5_init 0 = .ok (.aload_n 0, 1) := by decide +kernel
theorem dX5_init_1 : decode cX5_init 1 = .ok (.invokespecial 1, 3) := by decide +kernel
theorem dX5_init_4 : decode cX5_init 4 = .ok (.aload_n 0, 1) := by decide +kernel
theorem dX5_init_5 : decode cX5_init 5 = .ok (.new 7, 3) := by decide +kernel
theorem dX5_init_8 : decode cX5_init 8 = .ok (.dup, 1) := by decide +kernel
theorem dX5_init_9 : decode cX5_init 9 = .ok (.invokespecial 9, 3) := by decide +kernel
theorem dX5_init_12 : decode cX5_init 12 = .ok (.putfield 10, 3) := by decide +kernel
theorem dX5_init_15 : decode cX5_init 15 = .ok (.aload_n 0, 1) := by decide +kernel
theorem dX5_init_16 : decode cX5_init 16 = .ok (.bipush 7, 2) := by decide +kernel
theorem dX5_init_18 : decode cX5_init 18 = .ok (.newarray .int, 2) := by decide +kernel
theorem dX5_init_20 : decode cX5_init 20 = .ok (.putfield 16, 3) := by decide +kernel
theorem dX5_init_23 : decode cX5_init 23 = .ok (.iconst 0, 1) := by decide +kernel
theorem dX5_init_24 : decode cX5_init 24 = .ok (.istore_n 1, 1) := by decide +kernel
theorem dX5_init_25 : decode cX5_init 25 = .ok (.iload_n 1, 1) := by decide +kernel
theorem dX5_init_26 : decode cX5_init 26 = .ok (.aload_n 0, 1) := by decide +kernel
theorem dX5_init_27 : decode cX5_init 27 = .ok (.getfield 16, 3) := by decide +kernel
theorem dX5_init_30 : decode cX5_init 30 = .ok (.arraylength, 1) := by decide +kernel
theorem dX5_init_31 : decode cX5_init 31 = .ok (.if_icmp .ge 17, 3) := by decide +kernel
theorem dX5_init_34 : decode cX5_init 34 = .ok (.aload_n 0, 1) := by decide +kernel
theorem dX5_init_35 : decode cX5_init 35 = .ok (.getfield 16, 3) := by decide +kernel
theorem dX5_init_38 : decode cX5_init 38 = .ok (.iload_n 1, 1) := by decide +kernel
theorem dX5_init_39 : decode cX5_init 39 = .ok (.bipush 12, 2) := by decide +kernel
theorem dX5_init_41 : decode cX5_init 41 = .ok (.iastore, 1) := by decide +kernel
theorem dX5_init_42 : decode cX5_init 42 = .ok (.iinc 1 1, 3) := by decide +kernel
theorem dX5_init_45 : decode cX5_init 45 = .ok (.goto (-20), 3) := by decide +kernel
theorem dX5_init_48 : decode cX5_init 48 = .ok (.aload_n 0, 1) := by decide +kernel
theorem dX5_init_49 : decode cX5_init 49 = .ok (.new 20, 3) := by decide +kernel
theorem dX5_init_52 : decode cX5_init 52 = .ok (.dup, 1) := by decide +kernel
theorem dX5_init_53 : decode cX5_init 53 = .ok (.invokespecial 22, 3) := by decide +kernel
theorem dX5_init_56 : decode cX5_init 56 = .ok (.putfield 23, 3) := by decide +kernel
theorem dX5_init_59 : decode cX5_init 59 = .ok (.aload_n 0, 1) := by decide +kernel
theorem dX5_init_60 : decode cX5_init 60 = .ok (.new 27, 3) := by decide +kernel
theorem dX5_init_63 : decode cX5_init 63 = .ok (.dup, 1) := by decide +kernel
theorem dX5_init_64 : decode cX5_init 64 = .ok (.invokespecial 29, 3) := by decide +kernel
theorem dX5_init_67 : decode cX5_init 67 = .ok (.putfield 30, 3) := by decide +kernel
theorem dX5_init_70 : decode cX5_init 70 = .ok (.aload_n 0, 1) := by decide +kernel
theorem dX5_init_71 : decode cX5_init 71 = .ok (.new 34, 3) := by decide +kernel
theorem dX5_init_74 : decode cX5_init 74 = .ok (.dup, 1) := by decide +kernel
theorem dX5_init_75 : decode cX5_init 75 = .ok (.invokespecial 36, 3) := by decide +kernel
theorem dX5_init_78 : decode cX5_init 78 = .ok (.putfield 37, 3) := by decide +kernel
theorem dX5_init_81 : decode cX5_init 81 = .ok (.return_, 1) := by decide +kernel
theorem dX5_wheel_0 : decode cX5_wheel 0 = .ok (.iload_n 1, 1) := by decide +kernel
theorem dX5_wheel_1 : decode cX5_wheel 1 = .ok (.invokestatic 41, 3) := by decide +kernel
theorem dX5_wheel_4 : decode cX5_wheel 4 = .ok (.iload_n 2, 1) := by decide +kernel
theorem dX5_wheel_5 : decode cX5_wheel 5 = .ok (.iconst 4, 1) := by decide +kernel
theorem dX5_wheel_6 : decode cX5_wheel 6 = .ok (.bipush 100, 2) := by decide +kernel
theorem dX5_wheel_8 : decode cX5_wheel 8 = .ok (.invokestatic 45, 3) := by decide +kernel
theorem dX5_wheel_11 : decode cX5_wheel 11 = .ok (.invokestatic 49, 3) := by decide +kernel
theorem dX5_wheel_14 : decode cX5_wheel 14 = .ok (.aload_n 0, 1) := by decide +kernel
theorem dX5_wheel_15 : decode cX5_wheel 15 = .ok (.getfield 10, 3) := by decide +kernel
theorem dX5_wheel_18 : decode cX5_wheel 18 = .ok (.getfield 53, 3) := by decide +kernel
theorem dX5_wheel_21 : decode cX5_wheel 21 = .ok (.bipush 12, 2) := by decide +kernel
theorem dX5_wheel_23 : decode cX5_wheel 23 = .ok (.if_icmp .ge 7, 3) := by decide +kernel
theorem dX5_wheel_26 : decode cX5_wheel 26 = .ok (.iconst 1, 1) := by decide +kernel
theorem dX5_wheel_27 : decode cX5_wheel 27 = .ok (.goto 4, 3) := by decide +kernel
theorem dX5_wheel_30 : decode cX5_wheel 30 = .ok (.iconst 0, 1) := by decide +kernel
theorem dX5_wheel_31 : decode cX5_wheel 31 = .ok (.invokestatic 57, 3) := by decide +kernel
theorem dX5_wheel_34 : decode cX5_wheel 34 = .ok (.aload_n 0, 1) := by decide +kernel
theorem dX5_wheel_35 : decode cX5_wheel 35 = .ok (.getfield 10, 3) := by decide +kernel
theorem dX5_wheel_38 : decode cX5_wheel 38 = .ok (.iload_n 1, 1) := by decide +kernel
theorem dX5_wheel_39 : decode cX5_wheel 39 = .ok (.iload_n 2, 1) := by decide +kernel
theorem dX5_wheel_40 : decode cX5_wheel 40 = .ok (.invokevirtual 60, 3) := by decide +kernel
theorem dX5_wheel_43 : decode cX5_wheel 43 = .ok (.ireturn, 1) := by decide +kernel
theorem dX5_mesh_0 : decode cX5_mesh 0 = .ok (.aload_n 0, 1) := by decide +kernel
theorem dX5_mesh_1 : decode cX5_mesh 1 = .ok (.iload_n 1, 1) := by decide +kernel
theorem dX5_mesh_2 : decode cX5_mesh 2 = .ok (.invokevirtual 64, 3) := by decide +kernel
theorem dX5_mesh_5 : decode cX5_mesh 5 = .ok (.aload_n 0, 1) := by decide +kernel
theorem dX5_mesh_6 : decode cX5_mesh 6 = .ok (.iload_n 2, 1) := by decide +kernel
theorem dX5_mesh_7 : decode cX5_mesh 7 = .ok (.invokevirtual 64, 3) := by decide +kernel
theorem dX5_mesh_10 : decode cX5_mesh 10 = .ok (.aload_n 0, 1) := by decide +kernel
theorem dX5_mesh_11 : decode cX5_mesh 11 = .ok (.getfield 10, 3) := by decide +kernel
theorem dX5_mesh_14 : decode cX5_mesh 14 = .ok (.iload_n 1, 1) := by decide +kernel
theorem dX5_mesh_15 : decode cX5_mesh 15 = .ok (.iload_n 2, 1) := by decide +kernel
theorem dX5_mesh_16 : decode cX5_mesh 16 = .ok (.invokevirtual 67, 3) := by decide +kernel
theorem dX5_mesh_19 : decode cX5_mesh 19 = .ok (.ifCond .ne 7, 3) := by decide +kernel
theorem dX5_mesh_22 : decode cX5_mesh 22 = .ok (.iconst 1, 1) := by decide +kernel
theorem dX5_mesh_23 : decode cX5_mesh 23 = .ok (.goto 4, 3) := by decide +kernel
theorem dX5_mesh_26 : decode cX5_mesh 26 = .ok (.iconst 0, 1) := by decide +kernel
theorem dX5_mesh_27 : decode cX5_mesh 27 = .ok (.invokestatic 49, 3) := by decide +kernel
theorem dX5_mesh_30 : decode cX5_mesh 30 = .ok (.aload_n 0, 1) := by decide +kernel
theorem dX5_mesh_31 : decode cX5_mesh 31 = .ok (.getfield 10, 3) := by decide +kernel
theorem dX5_mesh_34 : decode cX5_mesh 34 = .ok (.iload_n 1, 1) := by decide +kernel
theorem dX5_mesh_35 : decode cX5_mesh 35 = .ok (.iload_n 2, 1) := by decide +kernel
theorem dX5_mesh_36 : decode cX5_mesh 36 = .ok (.invokevirtual 71, 3) := by decide +kernel
theorem dX5_mesh_39 : decode cX5_mesh 39 = .ok (.ifCond .eq 15, 3) := by decide +kernel
theorem dX5_mesh_42 : decode cX5_mesh 42 = .ok (.aload_n 0, 1) := by decide +kernel
theorem dX5_mesh_43 : decode cX5_mesh 43 = .ok (.dup, 1) := by decide +kernel
theorem dX5_mesh_44 : decode cX5_mesh 44 = .ok (.getfield 74, 3) := by decide +kernel
theorem dX5_mesh_47 : decode cX5_mesh 47 = .ok (.iconst 1, 1) := by decide +kernel
theorem dX5_mesh_48 : decode cX5_mesh 48 = .ok (.iadd, 1) := by decide +kernel
theorem dX5_mesh_49 : decode cX5_mesh 49 = .ok (.putfield 74, 3) := by decide +kernel
theorem dX5_mesh_52 : decode cX5_mesh 52 = .ok (.iconst 0, 1) := by decide +kernel
theorem dX5_mesh_53 : decode cX5_mesh 53 = .ok (.ireturn, 1) := by decide +kernel
theorem dX5_mesh_54 : decode cX5_mesh 54 = .ok (.aload_n 0, 1) := by decide +kernel
theorem dX5_mesh_55 : decode cX5_mesh 55 = .ok (.getfield 10, 3) := by decide +kernel
theorem dX5_mesh_58 : decode cX5_mesh 58 = .ok (.iload_n 1, 1) := by decide +kernel
theorem dX5_mesh_59 : decode cX5_mesh 59 = .ok (.iload_n 2, 1) := by decide +kernel
theorem dX5_mesh_60 : decode cX5_mesh 60 = .ok (.invokevirtual 77, 3) := by decide +kernel
theorem dX5_mesh_63 : decode cX5_mesh 63 = .ok (.iconst 1, 1) := by decide +kernel
theorem dX5_mesh_64 : decode cX5_mesh 64 = .ok (.ireturn, 1) := by decide +kernel
theorem dX5_part_0 : decode cX5_part 0 = .ok (.aload_n 0, 1) := by decide +kernel
theorem dX5_part_1 : decode cX5_part 1 = .ok (.iload_n 1, 1) := by decide +kernel
theorem dX5_part_2 : decode cX5_part 2 = .ok (.invokevirtual 64, 3) := by decide +kernel
theorem dX5_part_5 : decode cX5_part 5 = .ok (.aload_n 0, 1) := by decide +kernel
theorem dX5_part_6 : decode cX5_part 6 = .ok (.iload_n 2, 1) := by decide +kernel
theorem dX5_part_7 : decode cX5_part 7 = .ok (.invokevirtual 64, 3) := by decide +kernel
theorem dX5_part_10 : decode cX5_part 10 = .ok (.aload_n 0, 1) := by decide +kernel
theorem dX5_part_11 : decode cX5_part 11 = .ok (.getfield 10, 3) := by decide +kernel
theorem dX5_part_14 : decode cX5_part 14 = .ok (.iload_n 1, 1) := by decide +kernel
theorem dX5_part_15 : decode cX5_part 15 = .ok (.iload_n 2, 1) := by decide +kernel
theorem dX5_part_16 : decode cX5_part 16 = .ok (.invokevirtual 81, 3) := by decide +kernel
theorem dX5_part_19 : decode cX5_part 19 = .ok (.istore_n 3, 1) := by decide +kernel
theorem dX5_part_20 : decode cX5_part 20 = .ok (.iload_n 3, 1) := by decide +kernel
theorem dX5_part_21 : decode cX5_part 21 = .ok (.ifCond .eq 12, 3) := by decide +kernel
theorem dX5_part_24 : decode cX5_part 24 = .ok (.aload_n 0, 1) := by decide +kernel
theorem dX5_part_25 : decode cX5_part 25 = .ok (.getfield 10, 3) := by decide +kernel
theorem dX5_part_28 : decode cX5_part 28 = .ok (.iload_n 1, 1) := by decide +kernel
theorem dX5_part_29 : decode cX5_part 29 = .ok (.iload_n 2, 1) := by decide +kernel
theorem dX5_part_30 : decode cX5_part 30 = .ok (.invokevirtual 84, 3) := by decide +kernel
theorem dX5_part_33 : decode cX5_part 33 = .ok (.iload_n 3, 1) := by decide +kernel
theorem dX5_part_34 : decode cX5_part 34 = .ok (.ireturn, 1) := by decide +kernel
theorem dX5_turn_0 : decode cX5_turn 0 = .ok (.iload_n 1, 1) := by decide +kernel
theorem dX5_turn_1 : decode cX5_turn 1 = .ok (.sipush (-999), 3) := by decide +kernel
theorem dX5_turn_4 : decode cX5_turn 4 = .ok (.sipush 999, 3) := by decide +kernel
theorem dX5_turn_7 : decode cX5_turn 7 = .ok (.invokestatic 45, 3) := by decide +kernel
theorem dX5_turn_10 : decode cX5_turn 10 = .ok (.invokestatic 49, 3) := by decide +kernel
theorem dX5_turn_13 : decode cX5_turn 13 = .ok (.aload_n 0, 1) := by decide +kernel
theorem dX5_turn_14 : decode cX5_turn 14 = .ok (.getfield 87, 3) := by decide +kernel
theorem dX5_turn_17 : decode cX5_turn 17 = .ok (.iload_n 1, 1) := by decide +kernel
theorem dX5_turn_18 : decode cX5_turn 18 = .ok (.iadd, 1) := by decide +kernel
theorem dX5_turn_19 : decode cX5_turn 19 = .ok (.sipush (-9999), 3) := by decide +kernel
theorem dX5_turn_22 : decode cX5_turn 22 = .ok (.sipush 9999, 3) := by decide +kernel
theorem dX5_turn_25 : decode cX5_turn 25 = .ok (.invokestatic 45, 3) := by decide +kernel
theorem dX5_turn_28 : decode cX5_turn 28 = .ok (.invokestatic 57, 3) := by decide +kernel
theorem dX5_turn_31 : decode cX5_turn 31 = .ok (.aload_n 0, 1) := by decide +kernel
theorem dX5_turn_32 : decode cX5_turn 32 = .ok (.dup, 1) := by decide +kernel
theorem dX5_turn_33 : decode cX5_turn 33 = .ok (.getfield 87, 3) := by decide +kernel
theorem dX5_turn_36 : decode cX5_turn 36 = .ok (.iload_n 1, 1) := by decide +kernel
theorem dX5_turn_37 : decode cX5_turn 37 = .ok (.iadd, 1) := by decide +kernel
theorem dX5_turn_38 : decode cX5_turn 38 = .ok (.putfield 87, 3) := by decide +kernel
theorem dX5_turn_41 : decode cX5_turn 41 = .ok (.aload_n 0, 1) := by decide +kernel
theorem dX5_turn_42 : decode cX5_turn 42 = .ok (.getfield 87, 3) := by decide +kernel
theorem dX5_turn_45 : decode cX5_turn 45 = .ok (.ireturn, 1) := by decide +kernel
theorem dX5_dial_0 : decode cX5_dial 0 = .ok (.iload_n 1, 1) := by decide +kernel
theorem dX5_dial_1 : decode cX5_dial 1 = .ok (.invokestatic 41, 3) := by decide +kernel
theorem dX5_dial_4 : decode cX5_dial 4 = .ok (.iload_n 2, 1) := by decide +kernel
theorem dX5_dial_5 : decode cX5_dial 5 = .ok (.iconst 2, 1) := by decide +kernel
theorem dX5_dial_6 : decode cX5_dial 6 = .ok (.sipush 240, 3) := by decide +kernel
theorem dX5_dial_9 : decode cX5_dial 9 = .ok (.invokestatic 45, 3) := by decide +kernel
theorem dX5_dial_12 : decode cX5_dial 12 = .ok (.invokestatic 49, 3) := by decide +kernel
theorem dX5_dial_15 : decode cX5_dial 15 = .ok (.aload_n 0, 1) := by decide +kernel
theorem dX5_dial_16 : decode cX5_dial 16 = .ok (.getfield 16, 3) := by decide +kernel
theorem dX5_dial_19 : decode cX5_dial 19 = .ok (.iload_n 1, 1) := by decide +kernel
theorem dX5_dial_20 : decode cX5_dial 20 = .ok (.invokestatic 90, 3) := by decide +kernel
theorem dX5_dial_23 : decode cX5_dial 23 = .ok (.istore_n 3, 1) := by decide +kernel
theorem dX5_dial_24 : decode cX5_dial 24 = .ok (.aload_n 0, 1) := by decide +kernel
theorem dX5_dial_25 : decode cX5_dial 25 = .ok (.getfield 16, 3) := by decide +kernel
theorem dX5_dial_28 : decode cX5_dial 28 = .ok (.iload_n 1, 1) := by decide +kernel
theorem dX5_dial_29 : decode cX5_dial 29 = .ok (.iload_n 2, 1) := by decide +kernel
theorem dX5_dial_30 : decode cX5_dial 30 = .ok (.invokestatic 94, 3) := by decide +kernel
theorem dX5_dial_33 : decode cX5_dial 33 = .ok (.iload_n 3, 1) := by decide +kernel
theorem dX5_dial_34 : decode cX5_dial 34 = .ok (.ireturn, 1) := by decide +kernel
theorem dX5_claim_0 : decode cX5_claim 0 = .ok (.aload_n 0, 1) := by decide +kernel
theorem dX5_claim_1 : decode cX5_claim 1 = .ok (.getfield 30, 3) := by decide +kernel
theorem dX5_claim_4 : decode cX5_claim 4 = .ok (.iload_n 1, 1) := by decide +kernel
theorem dX5_claim_5 : decode cX5_claim 5 = .ok (.invokevirtual 109, 3) := by decide +kernel
theorem dX5_claim_8 : decode cX5_claim 8 = .ok (.invokestatic 49, 3) := by decide +kernel
theorem dX5_claim_11 : decode cX5_claim 11 = .ok (.aload_n 0, 1) := by decide +kernel
theorem dX5_claim_12 : decode cX5_claim 12 = .ok (.getfield 30, 3) := by decide +kernel
theorem dX5_claim_15 : decode cX5_claim 15 = .ok (.getfield 113, 3) := by decide +kernel
theorem dX5_claim_18 : decode cX5_claim 18 = .ok (.bipush 12, 2) := by decide +kernel
theorem dX5_claim_20 : decode cX5_claim 20 = .ok (.if_icmp .ge 7, 3) := by decide +kernel
theorem dX5_claim_23 : decode cX5_claim 23 = .ok (.iconst 1, 1) := by decide +kernel
theorem dX5_claim_24 : decode cX5_claim 24 = .ok (.goto 4, 3) := by decide +kernel
theorem dX5_claim_27 : decode cX5_claim 27 = .ok (.iconst 0, 1) := by decide +kernel
theorem dX5_claim_28 : decode cX5_claim 28 = .ok (.invokestatic 57, 3) := by decide +kernel
theorem dX5_claim_31 : decode cX5_claim 31 = .ok (.aload_n 0, 1) := by decide +kernel
theorem dX5_claim_32 : decode cX5_claim 32 = .ok (.getfield 30, 3) := by decide +kernel
theorem dX5_claim_35 : decode cX5_claim 35 = .ok (.iload_n 1, 1) := by decide +kernel
theorem dX5_claim_36 : decode cX5_claim 36 = .ok (.invokevirtual 116, 3) := by decide +kernel
theorem dX5_claim_39 : decode cX5_claim 39 = .ok (.ireturn, 1) := by decide +kernel
theorem dX5_withdraw_0 : decode cX5_withdraw 0 = .ok (.aload_n 0, 1) := by decide +kernel
theorem dX5_withdraw_1 : decode cX5_withdraw 1 = .ok (.iload_n 1, 1) := by decide +kernel
theorem dX5_withdraw_2 : decode cX5_withdraw 2 = .ok (.invokevirtual 119, 3) := by decide +kernel
theorem dX5_withdraw_5 : decode cX5_withdraw 5 = .ok (.aload_n 0, 1) := by decide +kernel
theorem dX5_withdraw_6 : decode cX5_withdraw 6 = .ok (.getfield 30, 3) := by decide +kernel
theorem dX5_withdraw_9 : decode cX5_withdraw 9 = .ok (.iload_n 1, 1) := by decide +kernel
theorem dX5_withdraw_10 : decode cX5_withdraw 10 = .ok (.iload_n 2, 1) := by decide +kernel
theorem dX5_withdraw_11 : decode cX5_withdraw 11 = .ok (.invokevirtual 122, 3) := by decide +kernel
theorem dX5_withdraw_14 : decode cX5_withdraw 14 = .ok (.aload_n 0, 1) := by decide +kernel
theorem dX5_withdraw_15 : decode cX5_withdraw 15 = .ok (.getfield 30, 3) := by decide +kernel
theorem dX5_withdraw_18 : decode cX5_withdraw 18 = .ok (.invokevirtual 126, 3) := by decide +kernel
theorem dX5_withdraw_21 : decode cX5_withdraw 21 = .ok (.ireturn, 1) := by decide +kernel
theorem dX5_ofAxle_0 : decode cX5_ofAxle 0 = .ok (.iload_n 1, 1) := by decide +kernel
theorem dX5_ofAxle_1 : decode cX5_ofAxle 1 = .ok (.invokestatic 41, 3) := by decide +kernel
theorem dX5_ofAxle_4 : decode cX5_ofAxle 4 = .ok (.iload_n 2, 1) := by decide +kernel
theorem dX5_ofAxle_5 : decode cX5_ofAxle 5 = .ok (.iconst 0, 1) := by decide +kernel
theorem dX5_ofAxle_6 : decode cX5_ofAxle 6 = .ok (.iconst 2, 1) := by decide +kernel
theorem dX5_ofAxle_7 : decode cX5_ofAxle 7 = .ok (.invokestatic 45, 3) := by decide +kernel
theorem dX5_ofAxle_10 : decode cX5_ofAxle 10 = .ok (.invokestatic 49, 3) := by decide +kernel
theorem dX5_ofAxle_13 : decode cX5_ofAxle 13 = .ok (.aload_n 0, 1) := by decide +kernel
theorem dX5_ofAxle_14 : decode cX5_ofAxle 14 = .ok (.iload_n 1, 1) := by decide +kernel
theorem dX5_ofAxle_15 : decode cX5_ofAxle 15 = .ok (.iload_n 2, 1) := by decide +kernel
theorem dX5_ofAxle_16 : decode cX5_ofAxle 16 = .ok (.invokevirtual 130, 3) := by decide +kernel
theorem dX5_ofAxle_19 : decode cX5_ofAxle 19 = .ok (.iload_n 3, 1) := by decide +kernel
theorem dX5_ofAxle_20 : decode cX5_ofAxle 20 = .ok (.invokevirtual 134, 3) := by decide +kernel
theorem dX5_ofAxle_23 : decode cX5_ofAxle 23 = .ok (.lreturn, 1) := by decide +kernel
theorem dX5_ofWheel_0 : decode cX5_ofWheel 0 = .ok (.aload_n 0, 1) := by decide +kernel
theorem dX5_ofWheel_1 : decode cX5_ofWheel 1 = .ok (.iload_n 1, 1) := by decide +kernel
theorem dX5_ofWheel_2 : decode cX5_ofWheel 2 = .ok (.invokevirtual 64, 3) := by decide +kernel
theorem dX5_ofWheel_5 : decode cX5_ofWheel 5 = .ok (.iload_n 2, 1) := by decide +kernel
theorem dX5_ofWheel_6 : decode cX5_ofWheel 6 = .ok (.iconst 0, 1) := by decide +kernel
theorem dX5_ofWheel_7 : decode cX5_ofWheel 7 = .ok (.iconst 3, 1) := by decide +kernel
theorem dX5_ofWheel_8 : decode cX5_ofWheel 8 = .ok (.invokestatic 45, 3) := by decide +kernel
theorem dX5_ofWheel_11 : decode cX5_ofWheel 11 = .ok (.invokestatic 49, 3) := by decide +kernel
theorem dX5_ofWheel_14 : decode cX5_ofWheel 14 = .ok (.iload_n 2, 1) := by decide +kernel
theorem dX5_ofWheel_15 : decode cX5_ofWheel 15 = .ok (.tableswitch 52 0 2 #[25, 34, 43], 25) := by decide +kernel
theorem dX5_ofWheel_40 : decode cX5_ofWheel 40 = .ok (.aload_n 0, 1) := by decide +kernel
theorem dX5_ofWheel_41 : decode cX5_ofWheel 41 = .ok (.getfield 10, 3) := by decide +kernel
theorem dX5_ofWheel_44 : decode cX5_ofWheel 44 = .ok (.iload_n 1, 1) := by decide +kernel
theorem dX5_ofWheel_45 : decode cX5_ofWheel 45 = .ok (.invokevirtual 140, 3) := by decide +kernel
theorem dX5_ofWheel_48 : decode cX5_ofWheel 48 = .ok (.ireturn, 1) := by decide +kernel
theorem dX5_ofWheel_49 : decode cX5_ofWheel 49 = .ok (.aload_n 0, 1) := by decide +kernel
theorem dX5_ofWheel_50 : decode cX5_ofWheel 50 = .ok (.getfield 10, 3) := by decide +kernel
theorem dX5_ofWheel_53 : decode cX5_ofWheel 53 = .ok (.iload_n 1, 1) := by decide +kernel
theorem dX5_ofWheel_54 : decode cX5_ofWheel 54 = .ok (.invokevirtual 143, 3) := by decide +kernel
theorem dX5_ofWheel_57 : decode cX5_ofWheel 57 = .ok (.ireturn, 1) := by decide +kernel
theorem dX5_ofWheel_58 : decode cX5_ofWheel 58 = .ok (.aload_n 0, 1) := by decide +kernel
theorem dX5_ofWheel_59 : decode cX5_ofWheel 59 = .ok (.getfield 10, 3) := by decide +kernel
theorem dX5_ofWheel_62 : decode cX5_ofWheel 62 = .ok (.iload_n 1, 1) := by decide +kernel
theorem dX5_ofWheel_63 : decode cX5_ofWheel 63 = .ok (.invokevirtual 146, 3) := by decide +kernel
theorem dX5_ofWheel_66 : decode cX5_ofWheel 66 = .ok (.ireturn, 1) := by decide +kernel
theorem dX5_ofWheel_67 : decode cX5_ofWheel 67 = .ok (.aload_n 0, 1) := by decide +kernel
theorem dX5_ofWheel_68 : decode cX5_ofWheel 68 = .ok (.getfield 10, 3) := by decide +kernel
theorem dX5_ofWheel_71 : decode cX5_ofWheel 71 = .ok (.aload_n 0, 1) := by decide +kernel
theorem dX5_ofWheel_72 : decode cX5_ofWheel 72 = .ok (.getfield 10, 3) := by decide +kernel
theorem dX5_ofWheel_75 : decode cX5_ofWheel 75 = .ok (.iload_n 1, 1) := by decide +kernel
theorem dX5_ofWheel_76 : decode cX5_ofWheel 76 = .ok (.invokevirtual 140, 3) := by decide +kernel
theorem dX5_ofWheel_79 : decode cX5_ofWheel 79 = .ok (.invokevirtual 149, 3) := by decide +kernel
theorem dX5_ofWheel_82 : decode cX5_ofWheel 82 = .ok (.ifCond .eq 7, 3) := by decide +kernel
theorem dX5_ofWheel_85 : decode cX5_ofWheel 85 = .ok (.iconst 1, 1) := by decide +kernel
theorem dX5_ofWheel_86 : decode cX5_ofWheel 86 = .ok (.goto 4, 3) := by decide +kernel
theorem dX5_ofWheel_89 : decode cX5_ofWheel 89 = .ok (.iconst 0, 1) := by decide +kernel
theorem dX5_ofWheel_90 : decode cX5_ofWheel 90 = .ok (.ireturn, 1) := by decide +kernel
theorem dX5_passed_0 : decode cX5_passed 0 = .ok (.aload_n 0, 1) := by decide +kernel
theorem dX5_passed_1 : decode cX5_passed 1 = .ok (.iload_n 1, 1) := by decide +kernel
theorem dX5_passed_2 : decode cX5_passed 2 = .ok (.invokevirtual 64, 3) := by decide +kernel
theorem dX5_passed_5 : decode cX5_passed 5 = .ok (.aload_n 0, 1) := by decide +kernel
theorem dX5_passed_6 : decode cX5_passed 6 = .ok (.iload_n 1, 1) := by decide +kernel
theorem dX5_passed_7 : decode cX5_passed 7 = .ok (.invokevirtual 152, 3) := by decide +kernel
theorem dX5_passed_10 : decode cX5_passed 10 = .ok (.iload_n 2, 1) := by decide +kernel
theorem dX5_passed_11 : decode cX5_passed 11 = .ok (.invokevirtual 134, 3) := by decide +kernel
theorem dX5_passed_14 : decode cX5_passed 14 = .ok (.lreturn, 1) := by decide +kernel
theorem dX5_period_0 : decode cX5_period 0 = .ok (.aload_n 0, 1) := by decide +kernel
theorem dX5_period_1 : decode cX5_period 1 = .ok (.getfield 10, 3) := by decide +kernel
theorem dX5_period_4 : decode cX5_period 4 = .ok (.invokevirtual 156, 3) := by decide +kernel
theorem dX5_period_7 : decode cX5_period 7 = .ok (.lreturn, 1) := by decide +kernel
theorem dX5_ofLump_0 : decode cX5_ofLump 0 = .ok (.iload_n 1, 1) := by decide +kernel
theorem dX5_ofLump_1 : decode cX5_ofLump 1 = .ok (.iconst 0, 1) := by decide +kernel
theorem dX5_ofLump_2 : decode cX5_ofLump 2 = .ok (.iconst 5, 1) := by decide +kernel
theorem dX5_ofLump_3 : decode cX5_ofLump 3 = .ok (.invokestatic 45, 3) := by decide +kernel
theorem dX5_ofLump_6 : decode cX5_ofLump 6 = .ok (.invokestatic 98, 3) := by decide +kernel
theorem dX5_ofLump_9 : decode cX5_ofLump 9 = .ok (.iload_n 2, 1) := by decide +kernel
theorem dX5_ofLump_10 : decode cX5_ofLump 10 = .ok (.iconst 0, 1) := by decide +kernel
theorem dX5_ofLump_11 : decode cX5_ofLump 11 = .ok (.iconst 3, 1) := by decide +kernel
theorem dX5_ofLump_12 : decode cX5_ofLump 12 = .ok (.invokestatic 45, 3) := by decide +kernel
theorem dX5_ofLump_15 : decode cX5_ofLump 15 = .ok (.invokestatic 49, 3) := by decide +kernel
theorem dX5_ofLump_18 : decode cX5_ofLump 18 = .ok (.iload_n 2, 1) := by decide +kernel
theorem dX5_ofLump_19 : decode cX5_ofLump 19 = .ok (.tableswitch 52 0 2 #[25, 34, 43], 25) := by decide +kernel
theorem dX5_ofLump_44 : decode cX5_ofLump 44 = .ok (.aload_n 0, 1) := by decide +kernel
theorem dX5_ofLump_45 : decode cX5_ofLump 45 = .ok (.getfield 23, 3) := by decide +kernel
theorem dX5_ofLump_48 : decode cX5_ofLump 48 = .ok (.iload_n 1, 1) := by decide +kernel
theorem dX5_ofLump_49 : decode cX5_ofLump 49 = .ok (.invokevirtual 101, 3) := by decide +kernel
theorem dX5_ofLump_52 : decode cX5_ofLump 52 = .ok (.ireturn, 1) := by decide +kernel
theorem dX5_ofLump_53 : decode cX5_ofLump 53 = .ok (.aload_n 0, 1) := by decide +kernel
theorem dX5_ofLump_54 : decode cX5_ofLump 54 = .ok (.getfield 23, 3) := by decide +kernel
theorem dX5_ofLump_57 : decode cX5_ofLump 57 = .ok (.iload_n 1, 1) := by decide +kernel
theorem dX5_ofLump_58 : decode cX5_ofLump 58 = .ok (.invokevirtual 163, 3) := by decide +kernel
theorem dX5_ofLump_61 : decode cX5_ofLump 61 = .ok (.ireturn, 1) := by decide +kernel
theorem dX5_ofLump_62 : decode cX5_ofLump 62 = .ok (.aload_n 0, 1) := by decide +kernel
theorem dX5_ofLump_63 : decode cX5_ofLump 63 = .ok (.getfield 23, 3) := by decide +kernel
theorem dX5_ofLump_66 : decode cX5_ofLump 66 = .ok (.iload_n 1, 1) := by decide +kernel
theorem dX5_ofLump_67 : decode cX5_ofLump 67 = .ok (.invokevirtual 166, 3) := by decide +kernel
theorem dX5_ofLump_70 : decode cX5_ofLump 70 = .ok (.ireturn, 1) := by decide +kernel
theorem dX5_ofLump_71 : decode cX5_ofLump 71 = .ok (.aload_n 0, 1) := by decide +kernel
theorem dX5_ofLump_72 : decode cX5_ofLump 72 = .ok (.getfield 23, 3) := by decide +kernel
theorem dX5_ofLump_75 : decode cX5_ofLump 75 = .ok (.iload_n 1, 1) := by decide +kernel
theorem dX5_ofLump_76 : decode cX5_ofLump 76 = .ok (.invokevirtual 169, 3) := by decide +kernel
theorem dX5_ofLump_79 : decode cX5_ofLump 79 = .ok (.ireturn, 1) := by decide +kernel
theorem dX5_ofClaim_0 : decode cX5_ofClaim 0 = .ok (.aload_n 0, 1) := by decide +kernel
theorem dX5_ofClaim_1 : decode cX5_ofClaim 1 = .ok (.iload_n 1, 1) := by decide +kernel
theorem dX5_ofClaim_2 : decode cX5_ofClaim 2 = .ok (.invokevirtual 119, 3) := by decide +kernel
theorem dX5_ofClaim_5 : decode cX5_ofClaim 5 = .ok (.iload_n 2, 1) := by decide +kernel
theorem dX5_ofClaim_6 : decode cX5_ofClaim 6 = .ok (.iconst 0, 1) := by decide +kernel
theorem dX5_ofClaim_7 : decode cX5_ofClaim 7 = .ok (.iconst 3, 1) := by decide +kernel
theorem dX5_ofClaim_8 : decode cX5_ofClaim 8 = .ok (.invokestatic 45, 3) := by decide +kernel
theorem dX5_ofClaim_11 : decode cX5_ofClaim 11 = .ok (.invokestatic 49, 3) := by decide +kernel
theorem dX5_ofClaim_14 : decode cX5_ofClaim 14 = .ok (.iload_n 2, 1) := by decide +kernel
theorem dX5_ofClaim_15 : decode cX5_ofClaim 15 = .ok (.tableswitch 68 0 2 #[25, 34, 51], 25) := by decide +kernel
theorem dX5_ofClaim_40 : decode cX5_ofClaim 40 = .ok (.aload_n 0, 1) := by decide +kernel
theorem dX5_ofClaim_41 : decode cX5_ofClaim 41 = .ok (.getfield 30, 3) := by decide +kernel
theorem dX5_ofClaim_44 : decode cX5_ofClaim 44 = .ok (.iload_n 1, 1) := by decide +kernel
theorem dX5_ofClaim_45 : decode cX5_ofClaim 45 = .ok (.invokevirtual 172, 3) := by decide +kernel
theorem dX5_ofClaim_48 : decode cX5_ofClaim 48 = .ok (.ireturn, 1) := by decide +kernel
theorem dX5_ofClaim_49 : decode cX5_ofClaim 49 = .ok (.aload_n 0, 1) := by decide +kernel
theorem dX5_ofClaim_50 : decode cX5_ofClaim 50 = .ok (.getfield 30, 3) := by decide +kernel
theorem dX5_ofClaim_53 : decode cX5_ofClaim 53 = .ok (.iload_n 1, 1) := by decide +kernel
theorem dX5_ofClaim_54 : decode cX5_ofClaim 54 = .ok (.invokevirtual 175, 3) := by decide +kernel
theorem dX5_ofClaim_57 : decode cX5_ofClaim 57 = .ok (.ifCond .eq 7, 3) := by decide +kernel
theorem dX5_ofClaim_60 : decode cX5_ofClaim 60 = .ok (.iconst 1, 1) := by decide +kernel
theorem dX5_ofClaim_61 : decode cX5_ofClaim 61 = .ok (.goto 4, 3) := by decide +kernel
theorem dX5_ofClaim_64 : decode cX5_ofClaim 64 = .ok (.iconst 0, 1) := by decide +kernel
theorem dX5_ofClaim_65 : decode cX5_ofClaim 65 = .ok (.ireturn, 1) := by decide +kernel
theorem dX5_ofClaim_66 : decode cX5_ofClaim 66 = .ok (.aload_n 0, 1) := by decide +kernel
theorem dX5_ofClaim_67 : decode cX5_ofClaim 67 = .ok (.getfield 30, 3) := by decide +kernel
theorem dX5_ofClaim_70 : decode cX5_ofClaim 70 = .ok (.iload_n 1, 1) := by decide +kernel
theorem dX5_ofClaim_71 : decode cX5_ofClaim 71 = .ok (.invokevirtual 178, 3) := by decide +kernel
theorem dX5_ofClaim_74 : decode cX5_ofClaim 74 = .ok (.ifCond .eq 7, 3) := by decide +kernel
theorem dX5_ofClaim_77 : decode cX5_ofClaim 77 = .ok (.iconst 1, 1) := by decide +kernel
theorem dX5_ofClaim_78 : decode cX5_ofClaim 78 = .ok (.goto 4, 3) := by decide +kernel
theorem dX5_ofClaim_81 : decode cX5_ofClaim 81 = .ok (.iconst 0, 1) := by decide +kernel
theorem dX5_ofClaim_82 : decode cX5_ofClaim 82 = .ok (.ireturn, 1) := by decide +kernel
theorem dX5_ofClaim_83 : decode cX5_ofClaim 83 = .ok (.aload_n 0, 1) := by decide +kernel
theorem dX5_ofClaim_84 : decode cX5_ofClaim 84 = .ok (.getfield 30, 3) := by decide +kernel
theorem dX5_ofClaim_87 : decode cX5_ofClaim 87 = .ok (.iload_n 1, 1) := by decide +kernel
theorem dX5_ofClaim_88 : decode cX5_ofClaim 88 = .ok (.invokevirtual 181, 3) := by decide +kernel
theorem dX5_ofClaim_91 : decode cX5_ofClaim 91 = .ok (.ireturn, 1) := by decide +kernel
theorem dX5_house_0 : decode cX5_house 0 = .ok (.iload_n 1, 1) := by decide +kernel
theorem dX5_house_1 : decode cX5_house 1 = .ok (.iconst 0, 1) := by decide +kernel
theorem dX5_house_2 : decode cX5_house 2 = .ok (.bipush 8, 2) := by decide +kernel
theorem dX5_house_4 : decode cX5_house 4 = .ok (.invokestatic 45, 3) := by decide +kernel
theorem dX5_house_7 : decode cX5_house 7 = .ok (.invokestatic 49, 3) := by decide +kernel
theorem dX5_house_10 : decode cX5_house 10 = .ok (.iload_n 1, 1) := by decide +kernel
theorem dX5_house_11 : decode cX5_house 11 = .ok (.tableswitch 103 0 7 #[45, 53, 61, 69, 74, 82, 90, 98], 45) := by decide +kernel
theorem dX5_house_56 : decode cX5_house 56 = .ok (.aload_n 0, 1) := by decide +kernel
theorem dX5_house_57 : decode cX5_house 57 = .ok (.getfield 10, 3) := by decide +kernel
theorem dX5_house_60 : decode cX5_house 60 = .ok (.getfield 53, 3) := by decide +kernel
theorem dX5_house_63 : decode cX5_house 63 = .ok (.ireturn, 1) := by decide +kernel
theorem dX5_house_64 : decode cX5_house 64 = .ok (.aload_n 0, 1) := by decide +kernel
theorem dX5_house_65 : decode cX5_house 65 = .ok (.getfield 10, 3) := by decide +kernel
theorem dX5_house_68 : decode cX5_house 68 = .ok (.invokevirtual 184, 3) := by decide +kernel
theorem dX5_house_71 : decode cX5_house 71 = .ok (.ireturn, 1) := by decide +kernel
theorem dX5_house_72 : decode cX5_house 72 = .ok (.aload_n 0, 1) := by decide +kernel
theorem dX5_house_73 : decode cX5_house 73 = .ok (.getfield 10, 3) := by decide +kernel
theorem dX5_house_76 : decode cX5_house 76 = .ok (.invokevirtual 187, 3) := by decide +kernel
theorem dX5_house_79 : decode cX5_house 79 = .ok (.ireturn, 1) := by decide +kernel
theorem dX5_house_80 : decode cX5_house 80 = .ok (.aload_n 0, 1) := by decide +kernel
theorem dX5_house_81 : decode cX5_house 81 = .ok (.getfield 87, 3) := by decide +kernel
theorem dX5_house_84 : decode cX5_house 84 = .ok (.ireturn, 1) := by decide +kernel
theorem dX5_house_85 : decode cX5_house 85 = .ok (.aload_n 0, 1) := by decide +kernel
theorem dX5_house_86 : decode cX5_house 86 = .ok (.getfield 30, 3) := by decide +kernel
theorem dX5_house_89 : decode cX5_house 89 = .ok (.getfield 113, 3) := by decide +kernel
theorem dX5_house_92 : decode cX5_house 92 = .ok (.ireturn, 1) := by decide +kernel
theorem dX5_house_93 : decode cX5_house 93 = .ok (.aload_n 0, 1) := by decide +kernel
theorem dX5_house_94 : decode cX5_house 94 = .ok (.getfield 30, 3) := by decide +kernel
theorem dX5_house_97 : decode cX5_house 97 = .ok (.invokevirtual 126, 3) := by decide +kernel
theorem dX5_house_100 : decode cX5_house 100 = .ok (.ireturn, 1) := by decide +kernel
theorem dX5_house_101 : decode cX5_house 101 = .ok (.aload_n 0, 1) := by decide +kernel
theorem dX5_house_102 : decode cX5_house 102 = .ok (.getfield 23, 3) := by decide +kernel
theorem dX5_house_105 : decode cX5_house 105 = .ok (.invokevirtual 190, 3) := by decide +kernel
theorem dX5_house_108 : decode cX5_house 108 = .ok (.ireturn, 1) := by decide +kernel
theorem dX5_house_109 : decode cX5_house 109 = .ok (.aload_n 0, 1) := by decide +kernel
theorem dX5_house_110 : decode cX5_house 110 = .ok (.getfield 74, 3) := by decide +kernel
theorem dX5_house_113 : decode cX5_house 113 = .ok (.ireturn, 1) := by decide +kernel
theorem dX5_house_114 : decode cX5_house 114 = .ok (.aload_n 0, 1) := by decide +kernel
theorem dX5_house_115 : decode cX5_house 115 = .ok (.getfield 193, 3) := by decide +kernel
theorem dX5_house_118 : decode cX5_house 118 = .ok (.ireturn, 1) := by decide +kernel
theorem dX5_isSound_0 : decode cX5_isSound 0 = .ok (.aload_n 0, 1) := by decide +kernel
theorem dX5_isSound_1 : decode cX5_isSound 1 = .ok (.invokevirtual 238, 3) := by decide +kernel
theorem dX5_isSound_4 : decode cX5_isSound 4 = .ok (.ifCond .eq 27, 3) := by decide +kernel
theorem dX5_isSound_7 : decode cX5_isSound 7 = .ok (.aload_n 0, 1) := by decide +kernel
theorem dX5_isSound_8 : decode cX5_isSound 8 = .ok (.getfield 10, 3) := by decide +kernel
theorem dX5_isSound_11 : decode cX5_isSound 11 = .ok (.invokevirtual 242, 3) := by decide +kernel
theorem dX5_isSound_14 : decode cX5_isSound 14 = .ok (.ifCond .eq 17, 3) := by decide +kernel
theorem dX5_isSound_17 : decode cX5_isSound 17 = .ok (.aload_n 0, 1) := by decide +kernel
theorem dX5_isSound_18 : decode cX5_isSound 18 = .ok (.getfield 30, 3) := by decide +kernel
theorem dX5_isSound_21 : decode cX5_isSound 21 = .ok (.invokevirtual 245, 3) := by decide +kernel
theorem dX5_isSound_24 : decode cX5_isSound 24 = .ok (.ifCond .eq 7, 3) := by decide +kernel
theorem dX5_isSound_27 : decode cX5_isSound 27 = .ok (.iconst 1, 1) := by decide +kernel
theorem dX5_isSound_28 : decode cX5_isSound 28 = .ok (.goto 4, 3) := by decide +kernel
theorem dX5_isSound_31 : decode cX5_isSound 31 = .ok (.iconst 0, 1) := by decide +kernel
theorem dX5_isSound_32 : decode cX5_isSound 32 = .ok (.ireturn, 1) := by decide +kernel
theorem dX5_digest_0 : decode cX5_digest 0 = .ok (.ldc2_w 248, 3) := by decide +kernel
theorem dX5_digest_3 : decode cX5_digest 3 = .ok (.lstore_n 1, 1) := by decide +kernel
theorem dX5_digest_4 : decode cX5_digest 4 = .ok (.iconst 0, 1) := by decide +kernel
theorem dX5_digest_5 : decode cX5_digest 5 = .ok (.istore_n 3, 1) := by decide +kernel
theorem dX5_digest_6 : decode cX5_digest 6 = .ok (.iload_n 3, 1) := by decide +kernel
theorem dX5_digest_7 : decode cX5_digest 7 = .ok (.bipush 9, 2) := by decide +kernel
theorem dX5_digest_9 : decode cX5_digest 9 = .ok (.if_icmp .ge 20, 3) := by decide +kernel
theorem dX5_digest_12 : decode cX5_digest 12 = .ok (.lload_n 1, 1) := by decide +kernel
theorem dX5_digest_13 : decode cX5_digest 13 = .ok (.aload_n 0, 1) := by decide +kernel
theorem dX5_digest_14 : decode cX5_digest 14 = .ok (.iload_n 3, 1) := by decide +kernel
theorem dX5_digest_15 : decode cX5_digest 15 = .ok (.invokevirtual 250, 3) := by decide +kernel
theorem dX5_digest_18 : decode cX5_digest 18 = .ok (.i2l, 1) := by decide +kernel
theorem dX5_digest_19 : decode cX5_digest 19 = .ok (.invokestatic 253, 3) := by decide +kernel
theorem dX5_digest_22 : decode cX5_digest 22 = .ok (.lstore_n 1, 1) := by decide +kernel
theorem dX5_digest_23 : decode cX5_digest 23 = .ok (.iinc 3 1, 3) := by decide +kernel
theorem dX5_digest_26 : decode cX5_digest 26 = .ok (.goto (-20), 3) := by decide +kernel
theorem dX5_digest_29 : decode cX5_digest 29 = .ok (.aload_n 0, 1) := by decide +kernel
theorem dX5_digest_30 : decode cX5_digest 30 = .ok (.lload_n 1, 1) := by decide +kernel
theorem dX5_digest_31 : decode cX5_digest 31 = .ok (.invokevirtual 257, 3) := by decide +kernel
theorem dX5_digest_34 : decode cX5_digest 34 = .ok (.lstore_n 1, 1) := by decide +kernel
theorem dX5_digest_35 : decode cX5_digest 35 = .ok (.aload_n 0, 1) := by decide +kernel
theorem dX5_digest_36 : decode cX5_digest 36 = .ok (.lload_n 1, 1) := by decide +kernel
theorem dX5_digest_37 : decode cX5_digest 37 = .ok (.invokevirtual 261, 3) := by decide +kernel
theorem dX5_digest_40 : decode cX5_digest 40 = .ok (.lstore_n 1, 1) := by decide +kernel
theorem dX5_digest_41 : decode cX5_digest 41 = .ok (.lload_n 1, 1) := by decide +kernel
theorem dX5_digest_42 : decode cX5_digest 42 = .ok (.aload_n 0, 1) := by decide +kernel
theorem dX5_digest_43 : decode cX5_digest 43 = .ok (.invokevirtual 264, 3) := by decide +kernel
theorem dX5_digest_46 : decode cX5_digest 46 = .ok (.invokestatic 253, 3) := by decide +kernel
theorem dX5_digest_49 : decode cX5_digest 49 = .ok (.lstore_n 1, 1) := by decide +kernel
theorem dX5_digest_50 : decode cX5_digest 50 = .ok (.iconst 0, 1) := by decide +kernel
theorem dX5_digest_51 : decode cX5_digest 51 = .ok (.istore_n 3, 1) := by decide +kernel
theorem dX5_digest_52 : decode cX5_digest 52 = .ok (.iload_n 3, 1) := by decide +kernel
theorem dX5_digest_53 : decode cX5_digest 53 = .ok (.bipush 6, 2) := by decide +kernel
theorem dX5_digest_55 : decode cX5_digest 55 = .ok (.if_icmp .ge 37, 3) := by decide +kernel
theorem dX5_digest_58 : decode cX5_digest 58 = .ok (.iconst 0, 1) := by decide +kernel
theorem dX5_digest_59 : decode cX5_digest 59 = .ok (.istore 4, 2) := by decide +kernel
theorem dX5_digest_61 : decode cX5_digest 61 = .ok (.iload 4, 2) := by decide +kernel
theorem dX5_digest_63 : decode cX5_digest 63 = .ok (.iconst 4, 1) := by decide +kernel
theorem dX5_digest_64 : decode cX5_digest 64 = .ok (.if_icmp .ge 22, 3) := by decide +kernel
theorem dX5_digest_67 : decode cX5_digest 67 = .ok (.lload_n 1, 1) := by decide +kernel
theorem dX5_digest_68 : decode cX5_digest 68 = .ok (.aload_n 0, 1) := by decide +kernel
theorem dX5_digest_69 : decode cX5_digest 69 = .ok (.iload_n 3, 1) := by decide +kernel
theorem dX5_digest_70 : decode cX5_digest 70 = .ok (.iload 4, 2) := by decide +kernel
theorem dX5_digest_72 : decode cX5_digest 72 = .ok (.invokevirtual 267, 3) := by decide +kernel
theorem dX5_digest_75 : decode cX5_digest 75 = .ok (.i2l, 1) := by decide +kernel
theorem dX5_digest_76 : decode cX5_digest 76 = .ok (.invokestatic 253, 3) := by decide +kernel
theorem dX5_digest_79 : decode cX5_digest 79 = .ok (.lstore_n 1, 1) := by decide +kernel
theorem dX5_digest_80 : decode cX5_digest 80 = .ok (.iinc 4 1, 3) := by decide +kernel
theorem dX5_digest_83 : decode cX5_digest 83 = .ok (.goto (-22), 3) := by decide +kernel
theorem dX5_digest_86 : decode cX5_digest 86 = .ok (.iinc 3 1, 3) := by decide +kernel
theorem dX5_digest_89 : decode cX5_digest 89 = .ok (.goto (-37), 3) := by decide +kernel
theorem dX5_digest_92 : decode cX5_digest 92 = .ok (.iconst 0, 1) := by decide +kernel
theorem dX5_digest_93 : decode cX5_digest 93 = .ok (.istore_n 3, 1) := by decide +kernel
theorem dX5_digest_94 : decode cX5_digest 94 = .ok (.iload_n 3, 1) := by decide +kernel
theorem dX5_digest_95 : decode cX5_digest 95 = .ok (.aload_n 0, 1) := by decide +kernel
theorem dX5_digest_96 : decode cX5_digest 96 = .ok (.getfield 30, 3) := by decide +kernel
theorem dX5_digest_99 : decode cX5_digest 99 = .ok (.getfield 113, 3) := by decide +kernel
theorem dX5_digest_102 : decode cX5_digest 102 = .ok (.if_icmp .ge 37, 3) := by decide +kernel
theorem dX5_digest_105 : decode cX5_digest 105 = .ok (.iconst 0, 1) := by decide +kernel
theorem dX5_digest_106 : decode cX5_digest 106 = .ok (.istore 4, 2) := by decide +kernel
theorem dX5_digest_108 : decode cX5_digest 108 = .ok (.iload 4, 2) := by decide +kernel
theorem dX5_digest_110 : decode cX5_digest 110 = .ok (.iconst 4, 1) := by decide +kernel
theorem dX5_digest_111 : decode cX5_digest 111 = .ok (.if_icmp .ge 22, 3) := by decide +kernel
theorem dX5_digest_114 : decode cX5_digest 114 = .ok (.lload_n 1, 1) := by decide +kernel
theorem dX5_digest_115 : decode cX5_digest 115 = .ok (.aload_n 0, 1) := by decide +kernel
theorem dX5_digest_116 : decode cX5_digest 116 = .ok (.iload_n 3, 1) := by decide +kernel
theorem dX5_digest_117 : decode cX5_digest 117 = .ok (.iload 4, 2) := by decide +kernel
theorem dX5_digest_119 : decode cX5_digest 119 = .ok (.invokevirtual 270, 3) := by decide +kernel
theorem dX5_digest_122 : decode cX5_digest 122 = .ok (.i2l, 1) := by decide +kernel
theorem dX5_digest_123 : decode cX5_digest 123 = .ok (.invokestatic 253, 3) := by decide +kernel
theorem dX5_digest_126 : decode cX5_digest 126 = .ok (.lstore_n 1, 1) := by decide +kernel
theorem dX5_digest_127 : decode cX5_digest 127 = .ok (.iinc 4 1, 3) := by decide +kernel
theorem dX5_digest_130 : decode cX5_digest 130 = .ok (.goto (-22), 3) := by decide +kernel
theorem dX5_digest_133 : decode cX5_digest 133 = .ok (.iinc 3 1, 3) := by decide +kernel
theorem dX5_digest_136 : decode cX5_digest 136 = .ok (.goto (-42), 3) := by decide +kernel
theorem dX5_digest_139 : decode cX5_digest 139 = .ok (.lload_n 1, 1) := by decide +kernel
theorem dX5_digest_140 : decode cX5_digest 140 = .ok (.aload_n 0, 1) := by decide +kernel
theorem dX5_digest_141 : decode cX5_digest 141 = .ok (.invokevirtual 273, 3) := by decide +kernel
theorem dX5_digest_144 : decode cX5_digest 144 = .ok (.ifCond .eq 7, 3) := by decide +kernel
theorem dX5_digest_147 : decode cX5_digest 147 = .ok (.lconst 1, 1) := by decide +kernel
theorem dX5_digest_148 : decode cX5_digest 148 = .ok (.goto 4, 3) := by decide +kernel
theorem dX5_digest_151 : decode cX5_digest 151 = .ok (.lconst 0, 1) := by decide +kernel
theorem dX5_digest_152 : decode cX5_digest 152 = .ok (.invokestatic 253, 3) := by decide +kernel
theorem dX5_digest_155 : decode cX5_digest 155 = .ok (.lreturn, 1) := by decide +kernel
theorem dX5_demandIndex_0 : decode cX5_demandIndex 0 = .ok (.iload_n 0, 1) := by decide +kernel
