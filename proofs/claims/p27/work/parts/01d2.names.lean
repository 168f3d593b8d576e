theorem dX5_demandIndex_1 : decode cX5_demandIndex 1 = .ok (.ifCond .ne 14, 3) := by decide +kernel
theorem dX5_demandIndex_4 : decode cX5_demandIndex 4 = .ok (.new 276, 3) := by decide +kernel
theorem dX5_demandIndex_7 : decode cX5_demandIndex 7 = .ok (.dup, 1) := by decide +kernel
theorem dX5_demandIndex_8 : decode cX5_demandIndex 8 = .ok (.ldc_w 278, 3) := by decide +kernel
theorem dX5_demandIndex_11 : decode cX5_demandIndex 11 = .ok (.invokespecial 280, 3) := by decide +kernel
theorem dX5_demandIndex_14 : decode cX5_demandIndex 14 = .ok (.athrow, 1) := by decide +kernel
theorem dX5_demandIndex_15 : decode cX5_demandIndex 15 = .ok (.return_, 1) := by decide +kernel
theorem dX5_demandArgument_0 : decode cX5_demandArgument 0 = .ok (.iload_n 0, 1) := by decide +kernel
theorem dX5_demandArgument_1 : decode cX5_demandArgument 1 = .ok (.ifCond .ne 14, 3) := by decide +kernel
theorem dX5_demandArgument_4 : decode cX5_demandArgument 4 = .ok (.new 283, 3) := by decide +kernel
theorem dX5_demandArgument_7 : decode cX5_demandArgument 7 = .ok (.dup, 1) := by decide +kernel
theorem dX5_demandArgument_8 : decode cX5_demandArgument 8 = .ok (.ldc_w 285, 3) := by decide +kernel
theorem dX5_demandArgument_11 : decode cX5_demandArgument 11 = .ok (.invokespecial 287, 3) := by decide +kernel
theorem dX5_demandArgument_14 : decode cX5_demandArgument 14 = .ok (.athrow, 1) := by decide +kernel
theorem dX5_demandArgument_15 : decode cX5_demandArgument 15 = .ok (.return_, 1) := by decide +kernel
theorem dX5_demandState_0 : decode cX5_demandState 0 = .ok (.iload_n 0, 1) := by decide +kernel
theorem dX5_demandState_1 : decode cX5_demandState 1 = .ok (.ifCond .ne 14, 3) := by decide +kernel
theorem dX5_demandState_4 : decode cX5_demandState 4 = .ok (.new 288, 3) := by decide +kernel
theorem dX5_demandState_7 : decode cX5_demandState 7 = .ok (.dup, 1) := by decide +kernel
theorem dX5_demandState_8 : decode cX5_demandState 8 = .ok (.ldc_w 290, 3) := by decide +kernel
theorem dX5_demandState_11 : decode cX5_demandState 11 = .ok (.invokespecial 292, 3) := by decide +kernel
theorem dX5_demandState_14 : decode cX5_demandState 14 = .ok (.athrow, 1) := by decide +kernel
theorem dX5_demandState_15 : decode cX5_demandState 15 = .ok (.return_, 1) := by decide +kernel
theorem dX5_demandAxle_0 : decode cX5_demandAxle 0 = .ok (.iload_n 0, 1) := by decide +kernel
theorem dX5_demandAxle_1 : decode cX5_demandAxle 1 = .ok (.iconst 0, 1) := by decide +kernel
theorem dX5_demandAxle_2 : decode cX5_demandAxle 2 = .ok (.bipush 6, 2) := by decide +kernel
theorem dX5_demandAxle_4 : decode cX5_demandAxle 4 = .ok (.invokestatic 45, 3) := by decide +kernel
theorem dX5_demandAxle_7 : decode cX5_demandAxle 7 = .ok (.invokestatic 98, 3) := by decide +kernel
theorem dX5_demandAxle_10 : decode cX5_demandAxle 10 = .ok (.return_, 1) := by decide +kernel
theorem dX5_demandWheel_0 : decode cX5_demandWheel 0 = .ok (.iload_n 1, 1) := by decide +kernel
theorem dX5_demandWheel_1 : decode cX5_demandWheel 1 = .ok (.iconst 0, 1) := by decide +kernel
theorem dX5_demandWheel_2 : decode cX5_demandWheel 2 = .ok (.aload_n 0, 1) := by decide +kernel
theorem dX5_demandWheel_3 : decode cX5_demandWheel 3 = .ok (.getfield 10, 3) := by decide +kernel
theorem dX5_demandWheel_6 : decode cX5_demandWheel 6 = .ok (.getfield 53, 3) := by decide +kernel
theorem dX5_demandWheel_9 : decode cX5_demandWheel 9 = .ok (.iconst 1, 1) := by decide +kernel
theorem dX5_demandWheel_10 : decode cX5_demandWheel 10 = .ok (.isub, 1) := by decide +kernel
theorem dX5_demandWheel_11 : decode cX5_demandWheel 11 = .ok (.invokestatic 45, 3) := by decide +kernel
theorem dX5_demandWheel_14 : decode cX5_demandWheel 14 = .ok (.invokestatic 98, 3) := by decide +kernel
theorem dX5_demandWheel_17 : decode cX5_demandWheel 17 = .ok (.return_, 1) := by decide +kernel
theorem dX5_demandClaim_0 : decode cX5_demandClaim 0 = .ok (.iload_n 1, 1) := by decide +kernel
theorem dX5_demandClaim_1 : decode cX5_demandClaim 1 = .ok (.iconst 0, 1) := by decide +kernel
theorem dX5_demandClaim_2 : decode cX5_demandClaim 2 = .ok (.aload_n 0, 1) := by decide +kernel
theorem dX5_demandClaim_3 : decode cX5_demandClaim 3 = .ok (.getfield 30, 3) := by decide +kernel
theorem dX5_demandClaim_6 : decode cX5_demandClaim 6 = .ok (.getfield 113, 3) := by decide +kernel
theorem dX5_demandClaim_9 : decode cX5_demandClaim 9 = .ok (.iconst 1, 1) := by decide +kernel
theorem dX5_demandClaim_10 : decode cX5_demandClaim 10 = .ok (.isub, 1) := by decide +kernel
theorem dX5_demandClaim_11 : decode cX5_demandClaim 11 = .ok (.invokestatic 45, 3) := by decide +kernel
theorem dX5_demandClaim_14 : decode cX5_demandClaim 14 = .ok (.invokestatic 98, 3) := by decide +kernel
theorem dX5_demandClaim_17 : decode cX5_demandClaim 17 = .ok (.return_, 1) := by decide +kernel
theorem dX5_axleFraction_0 : decode cX5_axleFraction 0 = .ok (.iload_n 2, 1) := by decide +kernel
theorem dX5_axleFraction_1 : decode cX5_axleFraction 1 = .ok (.lookupswitch 49 #[(0, 27), (1, 36)], 27) := by decide +kernel
theorem dX5_axleFraction_28 : decode cX5_axleFraction 28 = .ok (.aload_n 0, 1) := by decide +kernel
theorem dX5_axleFraction_29 : decode cX5_axleFraction 29 = .ok (.getfield 10, 3) := by decide +kernel
theorem dX5_axleFraction_32 : decode cX5_axleFraction 32 = .ok (.iload_n 1, 1) := by decide +kernel
theorem dX5_axleFraction_33 : decode cX5_axleFraction 33 = .ok (.invokevirtual 293, 3) := by decide +kernel
theorem dX5_axleFraction_36 : decode cX5_axleFraction 36 = .ok (.areturn, 1) := by decide +kernel
theorem dX5_axleFraction_37 : decode cX5_axleFraction 37 = .ok (.aload_n 0, 1) := by decide +kernel
theorem dX5_axleFraction_38 : decode cX5_axleFraction 38 = .ok (.getfield 10, 3) := by decide +kernel
theorem dX5_axleFraction_41 : decode cX5_axleFraction 41 = .ok (.iload_n 1, 1) := by decide +kernel
theorem dX5_axleFraction_42 : decode cX5_axleFraction 42 = .ok (.aload_n 0, 1) := by decide +kernel
theorem dX5_axleFraction_43 : decode cX5_axleFraction 43 = .ok (.getfield 87, 3) := by decide +kernel
theorem dX5_axleFraction_46 : decode cX5_axleFraction 46 = .ok (.invokevirtual 296, 3) := by decide +kernel
theorem dX5_axleFraction_49 : decode cX5_axleFraction 49 = .ok (.areturn, 1) := by decide +kernel
theorem dX5_axleFraction_50 : decode cX5_axleFraction 50 = .ok (.aload_n 0, 1) := by decide +kernel
theorem dX5_axleFraction_51 : decode cX5_axleFraction 51 = .ok (.getfield 10, 3) := by decide +kernel
theorem dX5_axleFraction_54 : decode cX5_axleFraction 54 = .ok (.iload_n 1, 1) := by decide +kernel
theorem dX5_axleFraction_55 : decode cX5_axleFraction 55 = .ok (.aload_n 0, 1) := by decide +kernel
theorem dX5_axleFraction_56 : decode cX5_axleFraction 56 = .ok (.getfield 87, 3) := by decide +kernel
theorem dX5_axleFraction_59 : decode cX5_axleFraction 59 = .ok (.invokevirtual 296, 3) := by decide +kernel
theorem dX5_axleFraction_62 : decode cX5_axleFraction 62 = .ok (.invokevirtual 299, 3) := by decide +kernel
theorem dX5_axleFraction_65 : decode cX5_axleFraction 65 = .ok (.areturn, 1) := by decide +kernel
theorem dX5_passedBy_0 : decode cX5_passedBy 0 = .ok (.aload_n 0, 1) := by decide +kernel
theorem dX5_passedBy_1 : decode cX5_passedBy 1 = .ok (.getfield 10, 3) := by decide +kernel
theorem dX5_passedBy_4 : decode cX5_passedBy 4 = .ok (.aload_n 0, 1) := by decide +kernel
theorem dX5_passedBy_5 : decode cX5_passedBy 5 = .ok (.getfield 10, 3) := by decide +kernel
theorem dX5_passedBy_8 : decode cX5_passedBy 8 = .ok (.iload_n 1, 1) := by decide +kernel
theorem dX5_passedBy_9 : decode cX5_passedBy 9 = .ok (.invokevirtual 140, 3) := by decide +kernel
theorem dX5_passedBy_12 : decode cX5_passedBy 12 = .ok (.invokevirtual 293, 3) := by decide +kernel
theorem dX5_passedBy_15 : decode cX5_passedBy 15 = .ok (.aload_n 0, 1) := by decide +kernel
theorem dX5_passedBy_16 : decode cX5_passedBy 16 = .ok (.getfield 87, 3) := by decide +kernel
theorem dX5_passedBy_19 : decode cX5_passedBy 19 = .ok (.i2l, 1) := by decide +kernel
theorem dX5_passedBy_20 : decode cX5_passedBy 20 = .ok (.aload_n 0, 1) := by decide +kernel
theorem dX5_passedBy_21 : decode cX5_passedBy 21 = .ok (.getfield 10, 3) := by decide +kernel
theorem dX5_passedBy_24 : decode cX5_passedBy 24 = .ok (.iload_n 1, 1) := by decide +kernel
theorem dX5_passedBy_25 : decode cX5_passedBy 25 = .ok (.invokevirtual 143, 3) := by decide +kernel
theorem dX5_passedBy_28 : decode cX5_passedBy 28 = .ok (.i2l, 1) := by decide +kernel
theorem dX5_passedBy_29 : decode cX5_passedBy 29 = .ok (.lmul, 1) := by decide +kernel
theorem dX5_passedBy_30 : decode cX5_passedBy 30 = .ok (.lconst 1, 1) := by decide +kernel
theorem dX5_passedBy_31 : decode cX5_passedBy 31 = .ok (.invokevirtual 303, 3) := by decide +kernel
theorem dX5_passedBy_34 : decode cX5_passedBy 34 = .ok (.areturn, 1) := by decide +kernel
theorem dX5_cellAt_0 : decode cX5_cellAt 0 = .ok (.aload_n 0, 1) := by decide +kernel
theorem dX5_cellAt_1 : decode cX5_cellAt 1 = .ok (.getfield 10, 3) := by decide +kernel
theorem dX5_cellAt_4 : decode cX5_cellAt 4 = .ok (.iload_n 1, 1) := by decide +kernel
theorem dX5_cellAt_5 : decode cX5_cellAt 5 = .ok (.iload_n 2, 1) := by decide +kernel
theorem dX5_cellAt_6 : decode cX5_cellAt 6 = .ok (.invokevirtual 296, 3) := by decide +kernel
theorem dX5_cellAt_9 : decode cX5_cellAt 9 = .ok (.invokevirtual 299, 3) := by decide +kernel
theorem dX5_cellAt_12 : decode cX5_cellAt 12 = .ok (.aload_n 0, 1) := by decide +kernel
theorem dX5_cellAt_13 : decode cX5_cellAt 13 = .ok (.getfield 16, 3) := by decide +kernel
theorem dX5_cellAt_16 : decode cX5_cellAt 16 = .ok (.iload_n 1, 1) := by decide +kernel
theorem dX5_cellAt_17 : decode cX5_cellAt 17 = .ok (.invokestatic 90, 3) := by decide +kernel
theorem dX5_cellAt_20 : decode cX5_cellAt 20 = .ok (.invokevirtual 307, 3) := by decide +kernel
theorem dX5_cellAt_23 : decode cX5_cellAt 23 = .ok (.ireturn, 1) := by decide +kernel
theorem dX5_doMeshesPassAlike_0 : decode cX5_doMeshesPassAlike 0 = .ok (.iconst 0, 1) := by decide +kernel
theorem dX5_doMeshesPassAlike_1 : decode cX5_doMeshesPassAlike 1 = .ok (.istore_n 1, 1) := by decide +kernel
theorem dX5_doMeshesPassAlike_2 : decode cX5_doMeshesPassAlike 2 = .ok (.iload_n 1, 1) := by decide +kernel
theorem dX5_doMeshesPassAlike_3 : decode cX5_doMeshesPassAlike 3 = .ok (.aload_n 0, 1) := by decide +kernel
theorem dX5_doMeshesPassAlike_4 : decode cX5_doMeshesPassAlike 4 = .ok (.getfield 10, 3) := by decide +kernel
theorem dX5_doMeshesPassAlike_7 : decode cX5_doMeshesPassAlike 7 = .ok (.getfield 53, 3) := by decide +kernel
theorem dX5_doMeshesPassAlike_10 : decode cX5_doMeshesPassAlike 10 = .ok (.if_icmp .ge 62, 3) := by decide +kernel
theorem dX5_doMeshesPassAlike_13 : decode cX5_doMeshesPassAlike 13 = .ok (.aload_n 0, 1) := by decide +kernel
theorem dX5_doMeshesPassAlike_14 : decode cX5_doMeshesPassAlike 14 = .ok (.iload_n 1, 1) := by decide +kernel
theorem dX5_doMeshesPassAlike_15 : decode cX5_doMeshesPassAlike 15 = .ok (.invokevirtual 152, 3) := by decide +kernel
theorem dX5_doMeshesPassAlike_18 : decode cX5_doMeshesPassAlike 18 = .ok (.astore_n 2, 1) := by decide +kernel
theorem dX5_doMeshesPassAlike_19 : decode cX5_doMeshesPassAlike 19 = .ok (.iload_n 1, 1) := by decide +kernel
theorem dX5_doMeshesPassAlike_20 : decode cX5_doMeshesPassAlike 20 = .ok (.iconst 1, 1) := by decide +kernel
theorem dX5_doMeshesPassAlike_21 : decode cX5_doMeshesPassAlike 21 = .ok (.iadd, 1) := by decide +kernel
theorem dX5_doMeshesPassAlike_22 : decode cX5_doMeshesPassAlike 22 = .ok (.istore_n 3, 1) := by decide +kernel
theorem dX5_doMeshesPassAlike_23 : decode cX5_doMeshesPassAlike 23 = .ok (.iload_n 3, 1) := by decide +kernel
theorem dX5_doMeshesPassAlike_24 : decode cX5_doMeshesPassAlike 24 = .ok (.aload_n 0, 1) := by decide +kernel
theorem dX5_doMeshesPassAlike_25 : decode cX5_doMeshesPassAlike 25 = .ok (.getfield 10, 3) := by decide +kernel
theorem dX5_doMeshesPassAlike_28 : decode cX5_doMeshesPassAlike 28 = .ok (.getfield 53, 3) := by decide +kernel
theorem dX5_doMeshesPassAlike_31 : decode cX5_doMeshesPassAlike 31 = .ok (.if_icmp .ge 35, 3) := by decide +kernel
theorem dX5_doMeshesPassAlike_34 : decode cX5_doMeshesPassAlike 34 = .ok (.aload_n 0, 1) := by decide +kernel
theorem dX5_doMeshesPassAlike_35 : decode cX5_doMeshesPassAlike 35 = .ok (.getfield 10, 3) := by decide +kernel
theorem dX5_doMeshesPassAlike_38 : decode cX5_doMeshesPassAlike 38 = .ok (.iload_n 1, 1) := by decide +kernel
theorem dX5_doMeshesPassAlike_39 : decode cX5_doMeshesPassAlike 39 = .ok (.iload_n 3, 1) := by decide +kernel
theorem dX5_doMeshesPassAlike_40 : decode cX5_doMeshesPassAlike 40 = .ok (.invokevirtual 81, 3) := by decide +kernel
theorem dX5_doMeshesPassAlike_43 : decode cX5_doMeshesPassAlike 43 = .ok (.ifCond .eq 17, 3) := by decide +kernel
theorem dX5_doMeshesPassAlike_46 : decode cX5_doMeshesPassAlike 46 = .ok (.aload_n 2, 1) := by decide +kernel
theorem dX5_doMeshesPassAlike_47 : decode cX5_doMeshesPassAlike 47 = .ok (.aload_n 0, 1) := by decide +kernel
theorem dX5_doMeshesPassAlike_48 : decode cX5_doMeshesPassAlike 48 = .ok (.iload_n 3, 1) := by decide +kernel
theorem dX5_doMeshesPassAlike_49 : decode cX5_doMeshesPassAlike 49 = .ok (.invokevirtual 152, 3) := by decide +kernel
theorem dX5_doMeshesPassAlike_52 : decode cX5_doMeshesPassAlike 52 = .ok (.invokevirtual 322, 3) := by decide +kernel
theorem dX5_doMeshesPassAlike_55 : decode cX5_doMeshesPassAlike 55 = .ok (.ifCond .ne 5, 3) := by decide +kernel
theorem dX5_doMeshesPassAlike_58 : decode cX5_doMeshesPassAlike 58 = .ok (.iconst 0, 1) := by decide +kernel
theorem dX5_doMeshesPassAlike_59 : decode cX5_doMeshesPassAlike 59 = .ok (.ireturn, 1) := by decide +kernel
theorem dX5_doMeshesPassAlike_60 : decode cX5_doMeshesPassAlike 60 = .ok (.iinc 3 1, 3) := by decide +kernel
theorem dX5_doMeshesPassAlike_63 : decode cX5_doMeshesPassAlike 63 = .ok (.goto (-40), 3) := by decide +kernel
theorem dX5_doMeshesPassAlike_66 : decode cX5_doMeshesPassAlike 66 = .ok (.iinc 1 1, 3) := by decide +kernel
theorem dX5_doMeshesPassAlike_69 : decode cX5_doMeshesPassAlike 69 = .ok (.goto (-67), 3) := by decide +kernel
theorem dX5_doMeshesPassAlike_72 : decode cX5_doMeshesPassAlike 72 = .ok (.iconst 1, 1) := by decide +kernel
theorem dX5_doMeshesPassAlike_73 : decode cX5_doMeshesPassAlike 73 = .ok (.ireturn, 1) := by decide +kernel
theorem dX5_mixedAxles_0 : decode cX5_mixedAxles 0 = .ok (.lload_n 1, 1) := by decide +kernel
theorem dX5_mixedAxles_1 : decode cX5_mixedAxles 1 = .ok (.lstore_n 3, 1) := by decide +kernel
theorem dX5_mixedAxles_2 : decode cX5_mixedAxles 2 = .ok (.iconst 0, 1) := by decide +kernel
theorem dX5_mixedAxles_3 : decode cX5_mixedAxles 3 = .ok (.istore 5, 2) := by decide +kernel
theorem dX5_mixedAxles_5 : decode cX5_mixedAxles 5 = .ok (.iload 5, 2) := by decide +kernel
theorem dX5_mixedAxles_7 : decode cX5_mixedAxles 7 = .ok (.bipush 7, 2) := by decide +kernel
theorem dX5_mixedAxles_9 : decode cX5_mixedAxles 9 = .ok (.if_icmp .ge 53, 3) := by decide +kernel
theorem dX5_mixedAxles_12 : decode cX5_mixedAxles 12 = .ok (.iconst 0, 1) := by decide +kernel
theorem dX5_mixedAxles_13 : decode cX5_mixedAxles 13 = .ok (.istore 6, 2) := by decide +kernel
theorem dX5_mixedAxles_15 : decode cX5_mixedAxles 15 = .ok (.iload 6, 2) := by decide +kernel
theorem dX5_mixedAxles_17 : decode cX5_mixedAxles 17 = .ok (.iconst 3, 1) := by decide +kernel
theorem dX5_mixedAxles_18 : decode cX5_mixedAxles 18 = .ok (.if_icmp .ge 22, 3) := by decide +kernel
theorem dX5_mixedAxles_21 : decode cX5_mixedAxles 21 = .ok (.lload_n 3, 1) := by decide +kernel
theorem dX5_mixedAxles_22 : decode cX5_mixedAxles 22 = .ok (.aload_n 0, 1) := by decide +kernel
theorem dX5_mixedAxles_23 : decode cX5_mixedAxles 23 = .ok (.iload 5, 2) := by decide +kernel
theorem dX5_mixedAxles_25 : decode cX5_mixedAxles 25 = .ok (.iload 6, 2) := by decide +kernel
theorem dX5_mixedAxles_27 : decode cX5_mixedAxles 27 = .ok (.invokevirtual 130, 3) := by decide +kernel
theorem dX5_mixedAxles_30 : decode cX5_mixedAxles 30 = .ok (.invokestatic 326, 3) := by decide +kernel
theorem dX5_mixedAxles_33 : decode cX5_mixedAxles 33 = .ok (.lstore_n 3, 1) := by decide +kernel
theorem dX5_mixedAxles_34 : decode cX5_mixedAxles 34 = .ok (.iinc 6 1, 3) := by decide +kernel
theorem dX5_mixedAxles_37 : decode cX5_mixedAxles 37 = .ok (.goto (-22), 3) := by decide +kernel
theorem dX5_mixedAxles_40 : decode cX5_mixedAxles 40 = .ok (.lload_n 3, 1) := by decide +kernel
theorem dX5_mixedAxles_41 : decode cX5_mixedAxles 41 = .ok (.aload_n 0, 1) := by decide +kernel
theorem dX5_mixedAxles_42 : decode cX5_mixedAxles 42 = .ok (.iload 5, 2) := by decide +kernel
theorem dX5_mixedAxles_44 : decode cX5_mixedAxles 44 = .ok (.aload_n 0, 1) := by decide +kernel
theorem dX5_mixedAxles_45 : decode cX5_mixedAxles 45 = .ok (.getfield 87, 3) := by decide +kernel
theorem dX5_mixedAxles_48 : decode cX5_mixedAxles 48 = .ok (.invokevirtual 160, 3) := by decide +kernel
theorem dX5_mixedAxles_51 : decode cX5_mixedAxles 51 = .ok (.i2l, 1) := by decide +kernel
theorem dX5_mixedAxles_52 : decode cX5_mixedAxles 52 = .ok (.invokestatic 253, 3) := by decide +kernel
theorem dX5_mixedAxles_55 : decode cX5_mixedAxles 55 = .ok (.lstore_n 3, 1) := by decide +kernel
theorem dX5_mixedAxles_56 : decode cX5_mixedAxles 56 = .ok (.iinc 5 1, 3) := by decide +kernel
theorem dX5_mixedAxles_59 : decode cX5_mixedAxles 59 = .ok (.goto (-54), 3) := by decide +kernel
theorem dX5_mixedAxles_62 : decode cX5_mixedAxles 62 = .ok (.lload_n 3, 1) := by decide +kernel
theorem dX5_mixedAxles_63 : decode cX5_mixedAxles 63 = .ok (.lreturn, 1) := by decide +kernel
theorem dX5_mixedWheels_0 : decode cX5_mixedWheels 0 = .ok (.lload_n 1, 1) := by decide +kernel
theorem dX5_mixedWheels_1 : decode cX5_mixedWheels 1 = .ok (.lstore_n 3, 1) := by decide +kernel
theorem dX5_mixedWheels_2 : decode cX5_mixedWheels 2 = .ok (.iconst 0, 1) := by decide +kernel
theorem dX5_mixedWheels_3 : decode cX5_mixedWheels 3 = .ok (.istore 5, 2) := by decide +kernel
theorem dX5_mixedWheels_5 : decode cX5_mixedWheels 5 = .ok (.iload 5, 2) := by decide +kernel
theorem dX5_mixedWheels_7 : decode cX5_mixedWheels 7 = .ok (.aload_n 0, 1) := by decide +kernel
theorem dX5_mixedWheels_8 : decode cX5_mixedWheels 8 = .ok (.getfield 10, 3) := by decide +kernel
theorem dX5_mixedWheels_11 : decode cX5_mixedWheels 11 = .ok (.getfield 53, 3) := by decide +kernel
theorem dX5_mixedWheels_14 : decode cX5_mixedWheels 14 = .ok (.if_icmp .ge 49, 3) := by decide +kernel
theorem dX5_mixedWheels_17 : decode cX5_mixedWheels 17 = .ok (.iconst 0, 1) := by decide +kernel
theorem dX5_mixedWheels_18 : decode cX5_mixedWheels 18 = .ok (.istore 6, 2) := by decide +kernel
theorem dX5_mixedWheels_20 : decode cX5_mixedWheels 20 = .ok (.iload 6, 2) := by decide +kernel
theorem dX5_mixedWheels_22 : decode cX5_mixedWheels 22 = .ok (.iconst 4, 1) := by decide +kernel
theorem dX5_mixedWheels_23 : decode cX5_mixedWheels 23 = .ok (.if_icmp .ge 23, 3) := by decide +kernel
theorem dX5_mixedWheels_26 : decode cX5_mixedWheels 26 = .ok (.lload_n 3, 1) := by decide +kernel
theorem dX5_mixedWheels_27 : decode cX5_mixedWheels 27 = .ok (.aload_n 0, 1) := by decide +kernel
theorem dX5_mixedWheels_28 : decode cX5_mixedWheels 28 = .ok (.iload 5, 2) := by decide +kernel
theorem dX5_mixedWheels_30 : decode cX5_mixedWheels 30 = .ok (.iload 6, 2) := by decide +kernel
theorem dX5_mixedWheels_32 : decode cX5_mixedWheels 32 = .ok (.invokevirtual 330, 3) := by decide +kernel
theorem dX5_mixedWheels_35 : decode cX5_mixedWheels 35 = .ok (.i2l, 1) := by decide +kernel
theorem dX5_mixedWheels_36 : decode cX5_mixedWheels 36 = .ok (.invokestatic 253, 3) := by decide +kernel
theorem dX5_mixedWheels_39 : decode cX5_mixedWheels 39 = .ok (.lstore_n 3, 1) := by decide +kernel
theorem dX5_mixedWheels_40 : decode cX5_mixedWheels 40 = .ok (.iinc 6 1, 3) := by decide +kernel
theorem dX5_mixedWheels_43 : decode cX5_mixedWheels 43 = .ok (.goto (-23), 3) := by decide +kernel
theorem dX5_mixedWheels_46 : decode cX5_mixedWheels 46 = .ok (.lload_n 3, 1) := by decide +kernel
theorem dX5_mixedWheels_47 : decode cX5_mixedWheels 47 = .ok (.aload_n 0, 1) := by decide +kernel
theorem dX5_mixedWheels_48 : decode cX5_mixedWheels 48 = .ok (.iload 5, 2) := by decide +kernel
theorem dX5_mixedWheels_50 : decode cX5_mixedWheels 50 = .ok (.invokevirtual 152, 3) := by decide +kernel
theorem dX5_mixedWheels_53 : decode cX5_mixedWheels 53 = .ok (.invokestatic 326, 3) := by decide +kernel
theorem dX5_mixedWheels_56 : decode cX5_mixedWheels 56 = .ok (.lstore_n 3, 1) := by decide +kernel
theorem dX5_mixedWheels_57 : decode cX5_mixedWheels 57 = .ok (.iinc 5 1, 3) := by decide +kernel
theorem dX5_mixedWheels_60 : decode cX5_mixedWheels 60 = .ok (.goto (-55), 3) := by decide +kernel
theorem dX5_mixedWheels_63 : decode cX5_mixedWheels 63 = .ok (.lload_n 3, 1) := by decide +kernel
theorem dX5_mixedWheels_64 : decode cX5_mixedWheels 64 = .ok (.lreturn, 1) := by decide +kernel
theorem dX5_mixedFraction_0 : decode cX5_mixedFraction 0 = .ok (.lload_n 0, 1) := by decide +kernel
theorem dX5_mixedFraction_1 : decode cX5_mixedFraction 1 = .ok (.aload_n 2, 1) := by decide +kernel
theorem dX5_mixedFraction_2 : decode cX5_mixedFraction 2 = .ok (.getfield 333, 3) := by decide +kernel
theorem dX5_mixedFraction_5 : decode cX5_mixedFraction 5 = .ok (.invokestatic 253, 3) := by decide +kernel
theorem dX5_mixedFraction_8 : decode cX5_mixedFraction 8 = .ok (.aload_n 2, 1) := by decide +kernel
theorem dX5_mixedFraction_9 : decode cX5_mixedFraction 9 = .ok (.getfield 337, 3) := by decide +kernel
theorem dX5_mixedFraction_12 : decode cX5_mixedFraction 12 = .ok (.invokestatic 253, 3) := by decide +kernel
theorem dX5_mixedFraction_15 : decode cX5_mixedFraction 15 = .ok (.lreturn, 1) := by decide +kernel
theorem dX5_mixed_0 : decode cX5_mixed 0 = .ok (.lload_n 0, 1) := by decide +kernel
theorem dX5_mixed_1 : decode cX5_mixed 1 = .ok (.ldc2_w 340, 3) := by decide +kernel
theorem dX5_mixed_4 : decode cX5_mixed 4 = .ok (.lmul, 1) := by decide +kernel
theorem dX5_mixed_5 : decode cX5_mixed 5 = .ok (.lload_n 2, 1) := by decide +kernel
theorem dX5_mixed_6 : decode cX5_mixed 6 = .ok (.ladd, 1) := by decide +kernel
theorem dX5_mixed_7 : decode cX5_mixed 7 = .ok (.lreturn, 1) := by decide +kernel
theorem dX5_isWithin_0 : decode cX5_isWithin 0 = .ok (.iload_n 0, 1) := by decide +kernel
theorem dX5_isWithin_1 : decode cX5_isWithin 1 = .ok (.iload_n 1, 1) := by decide +kernel
theorem dX5_isWithin_2 : decode cX5_isWithin 2 = .ok (.if_icmp .lt 12, 3) := by decide +kernel
theorem dX5_isWithin_5 : decode cX5_isWithin 5 = .ok (.iload_n 0, 1) := by decide +kernel
theorem dX5_isWithin_6 : decode cX5_isWithin 6 = .ok (.iload_n 2, 1) := by decide +kernel
theorem dX5_isWithin_7 : decode cX5_isWithin 7 = .ok (.if_icmp .gt 7, 3) := by decide +kernel
theorem dX5_isWithin_10 : decode cX5_isWithin 10 = .ok (.iconst 1, 1) := by decide +kernel
theorem dX5_isWithin_11 : decode cX5_isWithin 11 = .ok (.goto 4, 3) := by decide +kernel
theorem dX5_isWithin_14 : decode cX5_isWithin 14 = .ok (.iconst 0, 1) := by decide +kernel
theorem dX5_isWithin_15 : decode cX5_isWithin 15 = .ok (.ireturn, 1) := by decide +kernel
theorem dX5_at_0 : decode cX5_at 0 = .ok (.iload_n 1, 1) := by decide +kernel
theorem dX5_at_1 : decode cX5_at 1 = .ok (.ifCond .lt 15, 3) := by decide +kernel
theorem dX5_at_4 : decode cX5_at 4 = .ok (.iload_n 1, 1) := by decide +kernel
theorem dX5_at_5 : decode cX5_at 5 = .ok (.aload_n 0, 1) := by decide +kernel
theorem dX5_at_6 : decode cX5_at 6 = .ok (.arraylength, 1) := by decide +kernel
theorem dX5_at_7 : decode cX5_at 7 = .ok (.if_icmp .ge 9, 3) := by decide +kernel
theorem dX5_at_10 : decode cX5_at 10 = .ok (.aload_n 0, 1) := by decide +kernel
theorem dX5_at_11 : decode cX5_at 11 = .ok (.iload_n 1, 1) := by decide +kernel
theorem dX5_at_12 : decode cX5_at 12 = .ok (.iaload, 1) := by decide +kernel
theorem dX5_at_13 : decode cX5_at 13 = .ok (.goto 4, 3) := by decide +kernel
theorem dX5_at_16 : decode cX5_at 16 = .ok (.iconst 0, 1) := by decide +kernel
theorem dX5_at_17 : decode cX5_at 17 = .ok (.ireturn, 1) := by decide +kernel
theorem dX5_put_0 : decode cX5_put 0 = .ok (.iload_n 1, 1) := by decide +kernel
theorem dX5_put_1 : decode cX5_put 1 = .ok (.ifCond .lt 13, 3) := by decide +kernel
theorem dX5_put_4 : decode cX5_put 4 = .ok (.iload_n 1, 1) := by decide +kernel
theorem dX5_put_5 : decode cX5_put 5 = .ok (.aload_n 0, 1) := by decide +kernel
theorem dX5_put_6 : decode cX5_put 6 = .ok (.arraylength, 1) := by decide +kernel
theorem dX5_put_7 : decode cX5_put 7 = .ok (.if_icmp .ge 7, 3) := by decide +kernel
theorem dX5_put_10 : decode cX5_put 10 = .ok (.aload_n 0, 1) := by decide +kernel
theorem dX5_put_11 : decode cX5_put 11 = .ok (.iload_n 1, 1) := by decide +kernel
theorem dX5_put_12 : decode cX5_put 12 = .ok (.iload_n 2, 1) := by decide +kernel
theorem dX5_put_13 : decode cX5_put 13 = .ok (.iastore, 1) := by decide +kernel
theorem dX5_put_14 : decode cX5_put 14 = .ok (.return_, 1) := by decide +kernel
theorem dX5_isIn_0 : decode cX5_isIn 0 = .ok (.iload_n 0, 1) := by decide +kernel
theorem dX5_isIn_1 : decode cX5_isIn 1 = .ok (.iload_n 1, 1) := by decide +kernel
theorem dX5_isIn_2 : decode cX5_isIn 2 = .ok (.ishr, 1) := by decide +kernel
theorem dX5_isIn_3 : decode cX5_isIn 3 = .ok (.iconst 1, 1) := by decide +kernel
theorem dX5_isIn_4 : decode cX5_isIn 4 = .ok (.iand, 1) := by decide +kernel
theorem dX5_isIn_5 : decode cX5_isIn 5 = .ok (.iconst 1, 1) := by decide +kernel
theorem dX5_isIn_6 : decode cX5_isIn 6 = .ok (.if_icmp .ne 7, 3) := by decide +kernel
theorem dX5_isIn_9 : decode cX5_isIn 9 = .ok (.iconst 1, 1) := by decide +kernel
theorem dX5_isIn_10 : decode cX5_isIn 10 = .ok (.goto 4, 3) := by decide +kernel
theorem dX5_isIn_13 : decode cX5_isIn 13 = .ok (.iconst 0, 1) := by decide +kernel
theorem dX5_isIn_14 : decode cX5_isIn 14 = .ok (.ireturn, 1) := by decide +kernel
theorem dX5_commonDivisor_0 : decode cX5_commonDivisor 0 = .ok (.lload_n 0, 1) := by decide +kernel
theorem dX5_commonDivisor_1 : decode cX5_commonDivisor 1 = .ok (.lconst 0, 1) := by decide +kernel
theorem dX5_commonDivisor_2 : decode cX5_commonDivisor 2 = .ok (.lcmp, 1) := by decide +kernel
theorem dX5_commonDivisor_3 : decode cX5_commonDivisor 3 = .ok (.ifCond .ge 8, 3) := by decide +kernel
theorem dX5_commonDivisor_6 : decode cX5_commonDivisor 6 = .ok (.lload_n 0, 1) := by decide +kernel
theorem dX5_commonDivisor_7 : decode cX5_commonDivisor 7 = .ok (.lneg, 1) := by decide +kernel
theorem dX5_commonDivisor_8 : decode cX5_commonDivisor 8 = .ok (.goto 4, 3) := by decide +kernel
theorem dX5_commonDivisor_11 : decode cX5_commonDivisor 11 = .ok (.lload_n 0, 1) := by decide +kernel
theorem dX5_commonDivisor_12 : decode cX5_commonDivisor 12 = .ok (.lstore 4, 2) := by decide +kernel
theorem dX5_commonDivisor_14 : decode cX5_commonDivisor 14 = .ok (.lload_n 2, 1) := by decide +kernel
theorem dX5_commonDivisor_15 : decode cX5_commonDivisor 15 = .ok (.lconst 0, 1) := by decide +kernel
theorem dX5_commonDivisor_16 : decode cX5_commonDivisor 16 = .ok (.lcmp, 1) := by decide +kernel
theorem dX5_commonDivisor_17 : decode cX5_commonDivisor 17 = .ok (.ifCond .ge 8, 3) := by decide +kernel
theorem dX5_commonDivisor_20 : decode cX5_commonDivisor 20 = .ok (.lload_n 2, 1) := by decide +kernel
theorem dX5_commonDivisor_21 : decode cX5_commonDivisor 21 = .ok (.lneg, 1) := by decide +kernel
theorem dX5_commonDivisor_22 : decode cX5_commonDivisor 22 = .ok (.goto 4, 3) := by decide +kernel
theorem dX5_commonDivisor_25 : decode cX5_commonDivisor 25 = .ok (.lload_n 2, 1) := by decide +kernel
theorem dX5_commonDivisor_26 : decode cX5_commonDivisor 26 = .ok (.lstore 6, 2) := by decide +kernel
theorem dX5_commonDivisor_28 : decode cX5_commonDivisor 28 = .ok (.iconst 0, 1) := by decide +kernel
theorem dX5_commonDivisor_29 : decode cX5_commonDivisor 29 = .ok (.istore 8, 2) := by decide +kernel
theorem dX5_commonDivisor_31 : decode cX5_commonDivisor 31 = .ok (.iload 8, 2) := by decide +kernel
theorem dX5_commonDivisor_33 : decode cX5_commonDivisor 33 = .ok (.sipush 1000, 3) := by decide +kernel
theorem dX5_commonDivisor_36 : decode cX5_commonDivisor 36 = .ok (.if_icmp .ge 31, 3) := by decide +kernel
theorem dX5_commonDivisor_39 : decode cX5_commonDivisor 39 = .ok (.lload 6, 2) := by decide +kernel
theorem dX5_commonDivisor_41 : decode cX5_commonDivisor 41 = .ok (.lconst 0, 1) := by decide +kernel
theorem dX5_commonDivisor_42 : decode cX5_commonDivisor 42 = .ok (.lcmp, 1) := by decide +kernel
theorem dX5_commonDivisor_43 : decode cX5_commonDivisor 43 = .ok (.ifCond .eq 24, 3) := by decide +kernel
theorem dX5_commonDivisor_46 : decode cX5_commonDivisor 46 = .ok (.lload 4, 2) := by decide +kernel
theorem dX5_commonDivisor_48 : decode cX5_commonDivisor 48 = .ok (.lload 6, 2) := by decide +kernel
theorem dX5_commonDivisor_50 : decode cX5_commonDivisor 50 = .ok (.lrem, 1) := by decide +kernel
theorem dX5_commonDivisor_51 : decode cX5_commonDivisor 51 = .ok (.lstore 9, 2) := by decide +kernel
theorem dX5_commonDivisor_53 : decode cX5_commonDivisor 53 = .ok (.lload 6, 2) := by decide +kernel
theorem dX5_commonDivisor_55 : decode cX5_commonDivisor 55 = .ok (.lstore 4, 2) := by decide +kernel
theorem dX5_commonDivisor_57 : decode cX5_commonDivisor 57 = .ok (.lload 9, 2) := by decide +kernel
theorem dX5_commonDivisor_59 : decode cX5_commonDivisor 59 = .ok (.lstore 6, 2) := by decide +kernel
theorem dX5_commonDivisor_61 : decode cX5_commonDivisor 61 = .ok (.iinc 8 1, 3) := by decide +kernel
theorem dX5_commonDivisor_64 : decode cX5_commonDivisor 64 = .ok (.goto (-33), 3) := by decide +kernel
theorem dX5_commonDivisor_67 : decode cX5_commonDivisor 67 = .ok (.lload 4, 2) := by decide +kernel
theorem dX5_commonDivisor_69 : decode cX5_commonDivisor 69 = .ok (.lreturn, 1) := by decide +kernel
theorem dJ6_bitCount_0f7a4_0 : decode cJ6_bitCount_0f7a4 0 = .ok (.iload_n 0, 1) := by decide +kernel
theorem dJ6_bitCount_0f7a4_1 : decode cJ6_bitCount_0f7a4 1 = .ok (.iload_n 0, 1) := by decide +kernel
theorem dJ6_bitCount_0f7a4_2 : decode cJ6_bitCount_0f7a4 2 = .ok (.iconst 1, 1) := by decide +kernel
theorem dJ6_bitCount_0f7a4_3 : decode cJ6_bitCount_0f7a4 3 = .ok (.iushr, 1) := by decide +kernel
theorem dJ6_bitCount_0f7a4_4 : decode cJ6_bitCount_0f7a4 4 = .ok (.ldc_w 265, 3) := by decide +kernel
theorem dJ6_bitCount_0f7a4_7 : decode cJ6_bitCount_0f7a4 7 = .ok (.iand, 1) := by decide +kernel
theorem dJ6_bitCount_0f7a4_8 : decode cJ6_bitCount_0f7a4 8 = .ok (.isub, 1) := by decide +kernel
theorem dJ6_bitCount_0f7a4_9 : decode cJ6_bitCount_0f7a4 9 = .ok (.istore_n 0, 1) := by decide +kernel
theorem dJ6_bitCount_0f7a4_10 : decode cJ6_bitCount_0f7a4 10 = .ok (.iload_n 0, 1) := by decide +kernel
theorem dJ6_bitCount_0f7a4_11 : decode cJ6_bitCount_0f7a4 11 = .ok (.ldc_w 266, 3) := by decide +kernel
theorem dJ6_bitCount_0f7a4_14 : decode cJ6_bitCount_0f7a4 14 = .ok (.iand, 1) := by decide +kernel
theorem dJ6_bitCount_0f7a4_15 : decode cJ6_bitCount_0f7a4 15 = .ok (.iload_n 0, 1) := by decide +kernel
theorem dJ6_bitCount_0f7a4_16 : decode cJ6_bitCount_0f7a4 16 = .ok (.iconst 2, 1) := by decide +kernel
theorem dJ6_bitCount_0f7a4_17 : decode cJ6_bitCount_0f7a4 17 = .ok (.iushr, 1) := by decide +kernel
theorem dJ6_bitCount_0f7a4_18 : decode cJ6_bitCount_0f7a4 18 = .ok (.ldc_w 266, 3) := by decide +kernel
theorem dJ6_bitCount_0f7a4_21 : decode cJ6_bitCount_0f7a4 21 = .ok (.iand, 1) := by decide +kernel
theorem dJ6_bitCount_0f7a4_22 : decode cJ6_bitCount_0f7a4 22 = .ok (.iadd, 1) := by decide +kernel
theorem dJ6_bitCount_0f7a4_23 : decode cJ6_bitCount_0f7a4 23 = .ok (.istore_n 0, 1) := by decide +kernel
theorem dJ6_bitCount_0f7a4_24 : decode cJ6_bitCount_0f7a4 24 = .ok (.iload_n 0, 1) := by decide +kernel
theorem dJ6_bitCount_0f7a4_25 : decode cJ6_bitCount_0f7a4 25 = .ok (.iload_n 0, 1) := by decide +kernel
theorem dJ6_bitCount_0f7a4_26 : decode cJ6_bitCount_0f7a4 26 = .ok (.iconst 4, 1) := by decide +kernel
theorem dJ6_bitCount_0f7a4_27 : decode cJ6_bitCount_0f7a4 27 = .ok (.iushr, 1) := by decide +kernel
theorem dJ6_bitCount_0f7a4_28 : decode cJ6_bitCount_0f7a4 28 = .ok (.iadd, 1) := by decide +kernel
theorem dJ6_bitCount_0f7a4_29 : decode cJ6_bitCount_0f7a4 29 = .ok (.ldc_w 267, 3) := by decide +kernel
theorem dJ6_bitCount_0f7a4_32 : decode cJ6_bitCount_0f7a4 32 = .ok (.iand, 1) := by decide +kernel
theorem dJ6_bitCount_0f7a4_33 : decode cJ6_bitCount_0f7a4 33 = .ok (.istore_n 0, 1) := by decide +kernel
theorem dJ6_bitCount_0f7a4_34 : decode cJ6_bitCount_0f7a4 34 = .ok (.iload_n 0, 1) := by decide +kernel
theorem dJ6_bitCount_0f7a4_35 : decode cJ6_bitCount_0f7a4 35 = .ok (.iload_n 0, 1) := by decide +kernel
theorem dJ6_bitCount_0f7a4_36 : decode cJ6_bitCount_0f7a4 36 = .ok (.bipush 8, 2) := by decide +kernel
theorem dJ6_bitCount_0f7a4_38 : decode cJ6_bitCount_0f7a4 38 = .ok (.iushr, 1) := by decide +kernel
theorem dJ6_bitCount_0f7a4_39 : decode cJ6_bitCount_0f7a4 39 = .ok (.iadd, 1) := by decide +kernel
theorem dJ6_bitCount_0f7a4_40 : decode cJ6_bitCount_0f7a4 40 = .ok (.istore_n 0, 1) := by decide +kernel
theorem dJ6_bitCount_0f7a4_41 : decode cJ6_bitCount_0f7a4 41 = .ok (.iload_n 0, 1) := by decide +kernel
theorem dJ6_bitCount_0f7a4_42 : decode cJ6_bitCount_0f7a4 42 = .ok (.iload_n 0, 1) := by decide +kernel
theorem dJ6_bitCount_0f7a4_43 : decode cJ6_bitCount_0f7a4 43 = .ok (.bipush 16, 2) := by decide +kernel
theorem dJ6_bitCount_0f7a4_45 : decode cJ6_bitCount_0f7a4 45 = .ok (.iushr, 1) := by decide +kernel
theorem dJ6_bitCount_0f7a4_46 : decode cJ6_bitCount_0f7a4 46 = .ok (.iadd, 1) := by decide +kernel
theorem dJ6_bitCount_0f7a4_47 : decode cJ6_bitCount_0f7a4 47 = .ok (.istore_n 0, 1) := by decide +kernel
theorem dJ6_bitCount_0f7a4_48 : decode cJ6_bitCount_0f7a4 48 = .ok (.iload_n 0, 1) := by decide +kernel
theorem dJ6_bitCount_0f7a4_49 : decode cJ6_bitCount_0f7a4 49 = .ok (.bipush 63, 2) := by decide +kernel
theorem dJ6_bitCount_0f7a4_51 : decode cJ6_bitCount_0f7a4 51 = .ok (.iand, 1) := by decide +kernel
theorem dJ6_bitCount_0f7a4_52 : decode cJ6_bitCount_0f7a4 52 = .ok (.ireturn, 1) := by decide +kernel
theorem dJ9_floorMod_f86c9_0 : decode cJ9_floorMod_f86c9 0 = .ok (.lload_n 0, 1) := by decide +kernel
theorem dJ9_floorMod_f86c9_1 : decode cJ9_floorMod_f86c9 1 = .ok (.lload_n 2, 1) := by decide +kernel
theorem dJ9_floorMod_f86c9_2 : decode cJ9_floorMod_f86c9 2 = .ok (.lrem, 1) := by decide +kernel
theorem dJ9_floorMod_f86c9_3 : decode cJ9_floorMod_f86c9 3 = .ok (.lstore 4, 2) := by decide +kernel
theorem dJ9_floorMod_f86c9_5 : decode cJ9_floorMod_f86c9 5 = .ok (.lload_n 0, 1) := by decide +kernel
theorem dJ9_floorMod_f86c9_6 : decode cJ9_floorMod_f86c9 6 = .ok (.lload_n 2, 1) := by decide +kernel
theorem dJ9_floorMod_f86c9_7 : decode cJ9_floorMod_f86c9 7 = .ok (.lxor, 1) := by decide +kernel
theorem dJ9_floorMod_f86c9_8 : decode cJ9_floorMod_f86c9 8 = .ok (.lconst 0, 1) := by decide +kernel
theorem dJ9_floorMod_f86c9_9 : decode cJ9_floorMod_f86c9 9 = .ok (.lcmp, 1) := by decide +kernel
theorem dJ9_floorMod_f86c9_10 : decode cJ9_floorMod_f86c9 10 = .ok (.ifCond .ge 15, 3) := by decide +kernel
theorem dJ9_floorMod_f86c9_13 : decode cJ9_floorMod_f86c9 13 = .ok (.lload 4, 2) := by decide +kernel
theorem dJ9_floorMod_f86c9_15 : decode cJ9_floorMod_f86c9 15 = .ok (.lconst 0, 1) := by decide +kernel
theorem dJ9_floorMod_f86c9_16 : decode cJ9_floorMod_f86c9 16 = .ok (.lcmp, 1) := by decide +kernel
theorem dJ9_floorMod_f86c9_17 : decode cJ9_floorMod_f86c9 17 = .ok (.ifCond .eq 8, 3) := by decide +kernel
theorem dJ9_floorMod_f86c9_20 : decode cJ9_floorMod_f86c9 20 = .ok (.lload 4, 2) := by decide +kernel
theorem dJ9_floorMod_f86c9_22 : decode cJ9_floorMod_f86c9 22 = .ok (.lload_n 2, 1) := by decide +kernel
theorem dJ9_floorMod_f86c9_23 : decode cJ9_floorMod_f86c9 23 = .ok (.ladd, 1) := by decide +kernel
theorem dJ9_floorMod_f86c9_24 : decode cJ9_floorMod_f86c9 24 = .ok (.lreturn, 1) := by decide +kernel
theorem dJ9_floorMod_f86c9_25 : decode cJ9_floorMod_f86c9 25 = .ok (.lload 4, 2) := by decide +kernel
theorem dJ9_floorMod_f86c9_27 : decode cJ9_floorMod_f86c9 27 = .ok (.lreturn, 1) := by decide +kernel
theorem dJ9_abs_0f7a4_0 : decode cJ9_abs_0f7a4 0 = .ok (.iload_n 0, 1) := by decide +kernel
theorem dJ9_abs_0f7a4_1 : decode cJ9_abs_0f7a4 1 = .ok (.ifCond .ge 8, 3) := by decide +kernel
theorem dJ9_abs_0f7a4_4 : decode cJ9_abs_0f7a4 4 = .ok (.iload_n 0, 1) := by decide +kernel
theorem dJ9_abs_0f7a4_5 : decode cJ9_abs_0f7a4 5 = .ok (.ineg, 1) := by decide +kernel
theorem dJ9_abs_0f7a4_6 : decode cJ9_abs_0f7a4 6 = .ok (.goto 4, 3) := by decide +kernel
theorem dJ9_abs_0f7a4_9 : decode cJ9_abs_0f7a4 9 = .ok (.iload_n 0, 1) := by decide +kernel
theorem dJ9_abs_0f7a4_10 : decode cJ9_abs_0f7a4 10 = .ok (.ireturn, 1) := by decide +kernel
