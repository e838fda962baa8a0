theorem mD_Re_renewStep_0 : decode mB_Re_renewStep 0 = .ok (.iconst 0, 1) := by decide +kernel
theorem mD_Re_renewStep_1 : decode mB_Re_renewStep 1 = .ok (.istore 4, 2) := by decide +kernel
theorem mD_Re_renewStep_3 : decode mB_Re_renewStep 3 = .ok (.iload 4, 2) := by decide +kernel
theorem mD_Re_renewStep_5 : decode mB_Re_renewStep 5 = .ok (.iconst 2, 1) := by decide +kernel
theorem mD_Re_renewStep_6 : decode mB_Re_renewStep 6 = .ok (.if_icmp .ge 72, 3) := by decide +kernel
theorem mD_Re_renewStep_9 : decode mB_Re_renewStep 9 = .ok (.iconst 0, 1) := by decide +kernel
theorem mD_Re_renewStep_10 : decode mB_Re_renewStep 10 = .ok (.istore 5, 2) := by decide +kernel
theorem mD_Re_renewStep_12 : decode mB_Re_renewStep 12 = .ok (.iload 5, 2) := by decide +kernel
theorem mD_Re_renewStep_14 : decode mB_Re_renewStep 14 = .ok (.iconst 2, 1) := by decide +kernel
theorem mD_Re_renewStep_15 : decode mB_Re_renewStep 15 = .ok (.if_icmp .ge 57, 3) := by decide +kernel
theorem mD_Re_renewStep_18 : decode mB_Re_renewStep 18 = .ok (.aload_n 0, 1) := by decide +kernel
theorem mD_Re_renewStep_19 : decode mB_Re_renewStep 19 = .ok (.getfield 17, 3) := by decide +kernel
theorem mD_Re_renewStep_22 : decode mB_Re_renewStep 22 = .ok (.iload_n 1, 1) := by decide +kernel
theorem mD_Re_renewStep_23 : decode mB_Re_renewStep 23 = .ok (.iconst 4, 1) := by decide +kernel
theorem mD_Re_renewStep_24 : decode mB_Re_renewStep 24 = .ok (.imul, 1) := by decide +kernel
theorem mD_Re_renewStep_25 : decode mB_Re_renewStep 25 = .ok (.iload 4, 2) := by decide +kernel
theorem mD_Re_renewStep_27 : decode mB_Re_renewStep 27 = .ok (.iconst 2, 1) := by decide +kernel
theorem mD_Re_renewStep_28 : decode mB_Re_renewStep 28 = .ok (.imul, 1) := by decide +kernel
theorem mD_Re_renewStep_29 : decode mB_Re_renewStep 29 = .ok (.iadd, 1) := by decide +kernel
theorem mD_Re_renewStep_30 : decode mB_Re_renewStep 30 = .ok (.iload 5, 2) := by decide +kernel
theorem mD_Re_renewStep_32 : decode mB_Re_renewStep 32 = .ok (.iadd, 1) := by decide +kernel
theorem mD_Re_renewStep_33 : decode mB_Re_renewStep 33 = .ok (.aaload, 1) := by decide +kernel
theorem mD_Re_renewStep_34 : decode mB_Re_renewStep 34 = .ok (.astore 6, 2) := by decide +kernel
theorem mD_Re_renewStep_36 : decode mB_Re_renewStep 36 = .ok (.aload_n 2, 1) := by decide +kernel
theorem mD_Re_renewStep_37 : decode mB_Re_renewStep 37 = .ok (.aload 6, 2) := by decide +kernel
theorem mD_Re_renewStep_39 : decode mB_Re_renewStep 39 = .ok (.aload_n 3, 1) := by decide +kernel
theorem mD_Re_renewStep_40 : decode mB_Re_renewStep 40 = .ok (.invokevirtual 49, 3) := by decide +kernel
theorem mD_Re_renewStep_43 : decode mB_Re_renewStep 43 = .ok (.aload 6, 2) := by decide +kernel
theorem mD_Re_renewStep_45 : decode mB_Re_renewStep 45 = .ok (.iload 4, 2) := by decide +kernel
theorem mD_Re_renewStep_47 : decode mB_Re_renewStep 47 = .ok (.bipush 32, 2) := by decide +kernel
theorem mD_Re_renewStep_49 : decode mB_Re_renewStep 49 = .ok (.imul, 1) := by decide +kernel
theorem mD_Re_renewStep_50 : decode mB_Re_renewStep 50 = .ok (.dup2, 1) := by decide +kernel
theorem mD_Re_renewStep_51 : decode mB_Re_renewStep 51 = .ok (.iaload, 1) := by decide +kernel
theorem mD_Re_renewStep_52 : decode mB_Re_renewStep 52 = .ok (.aload_n 2, 1) := by decide +kernel
theorem mD_Re_renewStep_53 : decode mB_Re_renewStep 53 = .ok (.getfield 53, 3) := by decide +kernel
theorem mD_Re_renewStep_56 : decode mB_Re_renewStep 56 = .ok (.iload_n 1, 1) := by decide +kernel
theorem mD_Re_renewStep_57 : decode mB_Re_renewStep 57 = .ok (.iaload, 1) := by decide +kernel
theorem mD_Re_renewStep_58 : decode mB_Re_renewStep 58 = .ok (.iload 5, 2) := by decide +kernel
theorem mD_Re_renewStep_60 : decode mB_Re_renewStep 60 = .ok (.invokestatic 39, 3) := by decide +kernel
theorem mD_Re_renewStep_63 : decode mB_Re_renewStep 63 = .ok (.imul, 1) := by decide +kernel
theorem mD_Re_renewStep_64 : decode mB_Re_renewStep 64 = .ok (.iadd, 1) := by decide +kernel
theorem mD_Re_renewStep_65 : decode mB_Re_renewStep 65 = .ok (.iastore, 1) := by decide +kernel
theorem mD_Re_renewStep_66 : decode mB_Re_renewStep 66 = .ok (.iinc 5 1, 3) := by decide +kernel
theorem mD_Re_renewStep_69 : decode mB_Re_renewStep 69 = .ok (.goto (-57), 3) := by decide +kernel
theorem mD_Re_renewStep_72 : decode mB_Re_renewStep 72 = .ok (.iinc 4 1, 3) := by decide +kernel
theorem mD_Re_renewStep_75 : decode mB_Re_renewStep 75 = .ok (.goto (-72), 3) := by decide +kernel
theorem mD_Re_renewStep_78 : decode mB_Re_renewStep 78 = .ok (.return_, 1) := by decide +kernel
theorem mD_Re_refresh_0 : decode mB_Re_refresh 0 = .ok (.aload_n 0, 1) := by decide +kernel
theorem mD_Re_refresh_1 : decode mB_Re_refresh 1 = .ok (.aload_n 1, 1) := by decide +kernel
theorem mD_Re_refresh_2 : decode mB_Re_refresh 2 = .ok (.bipush 8, 2) := by decide +kernel
theorem mD_Re_refresh_4 : decode mB_Re_refresh 4 = .ok (.iaload, 1) := by decide +kernel
theorem mD_Re_refresh_5 : decode mB_Re_refresh 5 = .ok (.invokestatic 56, 3) := by decide +kernel
theorem mD_Re_refresh_8 : decode mB_Re_refresh 8 = .ok (.invokevirtual 59, 3) := by decide +kernel
theorem mD_Re_refresh_11 : decode mB_Re_refresh 11 = .ok (.iconst 0, 1) := by decide +kernel
theorem mD_Re_refresh_12 : decode mB_Re_refresh 12 = .ok (.istore_n 3, 1) := by decide +kernel
theorem mD_Re_refresh_13 : decode mB_Re_refresh 13 = .ok (.iload_n 3, 1) := by decide +kernel
theorem mD_Re_refresh_14 : decode mB_Re_refresh 14 = .ok (.bipush 8, 2) := by decide +kernel
theorem mD_Re_refresh_16 : decode mB_Re_refresh 16 = .ok (.if_icmp .ge 20, 3) := by decide +kernel
theorem mD_Re_refresh_19 : decode mB_Re_refresh 19 = .ok (.aload_n 0, 1) := by decide +kernel
theorem mD_Re_refresh_20 : decode mB_Re_refresh 20 = .ok (.iload_n 3, 1) := by decide +kernel
theorem mD_Re_refresh_21 : decode mB_Re_refresh 21 = .ok (.aload_n 1, 1) := by decide +kernel
theorem mD_Re_refresh_22 : decode mB_Re_refresh 22 = .ok (.iload_n 3, 1) := by decide +kernel
theorem mD_Re_refresh_23 : decode mB_Re_refresh 23 = .ok (.iaload, 1) := by decide +kernel
theorem mD_Re_refresh_24 : decode mB_Re_refresh 24 = .ok (.invokestatic 56, 3) := by decide +kernel
theorem mD_Re_refresh_27 : decode mB_Re_refresh 27 = .ok (.invokevirtual 63, 3) := by decide +kernel
theorem mD_Re_refresh_30 : decode mB_Re_refresh 30 = .ok (.iinc 3 1, 3) := by decide +kernel
theorem mD_Re_refresh_33 : decode mB_Re_refresh 33 = .ok (.goto (-20), 3) := by decide +kernel
theorem mD_Re_refresh_36 : decode mB_Re_refresh 36 = .ok (.aload_n 0, 1) := by decide +kernel
theorem mD_Re_refresh_37 : decode mB_Re_refresh 37 = .ok (.aload_n 2, 1) := by decide +kernel
theorem mD_Re_refresh_38 : decode mB_Re_refresh 38 = .ok (.invokevirtual 67, 3) := by decide +kernel
theorem mD_Re_refresh_41 : decode mB_Re_refresh 41 = .ok (.return_, 1) := by decide +kernel
theorem mD_Re_roundToPlaces_0 : decode mB_Re_roundToPlaces 0 = .ok (.iload_n 0, 1) := by decide +kernel
theorem mD_Re_roundToPlaces_1 : decode mB_Re_roundToPlaces 1 = .ok (.ldc 71, 2) := by decide +kernel
theorem mD_Re_roundToPlaces_3 : decode mB_Re_roundToPlaces 3 = .ok (.iadd, 1) := by decide +kernel
theorem mD_Re_roundToPlaces_4 : decode mB_Re_roundToPlaces 4 = .ok (.bipush 26, 2) := by decide +kernel
theorem mD_Re_roundToPlaces_6 : decode mB_Re_roundToPlaces 6 = .ok (.iushr, 1) := by decide +kernel
theorem mD_Re_roundToPlaces_7 : decode mB_Re_roundToPlaces 7 = .ok (.ireturn, 1) := by decide +kernel
theorem mD_Re_startWheel_0 : decode mB_Re_startWheel 0 = .ok (.iconst 0, 1) := by decide +kernel
theorem mD_Re_startWheel_1 : decode mB_Re_startWheel 1 = .ok (.istore_n 2, 1) := by decide +kernel
theorem mD_Re_startWheel_2 : decode mB_Re_startWheel 2 = .ok (.iload_n 2, 1) := by decide +kernel
theorem mD_Re_startWheel_3 : decode mB_Re_startWheel 3 = .ok (.bipush 32, 2) := by decide +kernel
theorem mD_Re_startWheel_5 : decode mB_Re_startWheel 5 = .ok (.if_icmp .ge 43, 3) := by decide +kernel
theorem mD_Re_startWheel_8 : decode mB_Re_startWheel 8 = .ok (.aload_n 0, 1) := by decide +kernel
theorem mD_Re_startWheel_9 : decode mB_Re_startWheel 9 = .ok (.getfield 25, 3) := by decide +kernel
theorem mD_Re_startWheel_12 : decode mB_Re_startWheel 12 = .ok (.iload_n 2, 1) := by decide +kernel
theorem mD_Re_startWheel_13 : decode mB_Re_startWheel 13 = .ok (.iconst 0, 1) := by decide +kernel
theorem mD_Re_startWheel_14 : decode mB_Re_startWheel 14 = .ok (.iastore, 1) := by decide +kernel
theorem mD_Re_startWheel_15 : decode mB_Re_startWheel 15 = .ok (.aload_n 0, 1) := by decide +kernel
theorem mD_Re_startWheel_16 : decode mB_Re_startWheel 16 = .ok (.getfield 25, 3) := by decide +kernel
theorem mD_Re_startWheel_19 : decode mB_Re_startWheel 19 = .ok (.bipush 32, 2) := by decide +kernel
theorem mD_Re_startWheel_21 : decode mB_Re_startWheel 21 = .ok (.iload_n 2, 1) := by decide +kernel
theorem mD_Re_startWheel_22 : decode mB_Re_startWheel 22 = .ok (.iadd, 1) := by decide +kernel
theorem mD_Re_startWheel_23 : decode mB_Re_startWheel 23 = .ok (.iload_n 2, 1) := by decide +kernel
theorem mD_Re_startWheel_24 : decode mB_Re_startWheel 24 = .ok (.iload_n 1, 1) := by decide +kernel
theorem mD_Re_startWheel_25 : decode mB_Re_startWheel 25 = .ok (.iadd, 1) := by decide +kernel
theorem mD_Re_startWheel_26 : decode mB_Re_startWheel 26 = .ok (.bipush 63, 2) := by decide +kernel
theorem mD_Re_startWheel_28 : decode mB_Re_startWheel 28 = .ok (.iand, 1) := by decide +kernel
theorem mD_Re_startWheel_29 : decode mB_Re_startWheel 29 = .ok (.bipush 32, 2) := by decide +kernel
theorem mD_Re_startWheel_31 : decode mB_Re_startWheel 31 = .ok (.if_icmp .ge 8, 3) := by decide +kernel
theorem mD_Re_startWheel_34 : decode mB_Re_startWheel 34 = .ok (.ldc 72, 2) := by decide +kernel
theorem mD_Re_startWheel_36 : decode mB_Re_startWheel 36 = .ok (.goto 5, 3) := by decide +kernel
theorem mD_Re_startWheel_39 : decode mB_Re_startWheel 39 = .ok (.ldc 73, 2) := by decide +kernel
theorem mD_Re_startWheel_41 : decode mB_Re_startWheel 41 = .ok (.iastore, 1) := by decide +kernel
theorem mD_Re_startWheel_42 : decode mB_Re_startWheel 42 = .ok (.iinc 2 1, 3) := by decide +kernel
theorem mD_Re_startWheel_45 : decode mB_Re_startWheel 45 = .ok (.goto (-43), 3) := by decide +kernel
theorem mD_Re_startWheel_48 : decode mB_Re_startWheel 48 = .ok (.return_, 1) := by decide +kernel
theorem mD_Re_turnIfKeyBit_0 : decode mB_Re_turnIfKeyBit 0 = .ok (.iconst 0, 1) := by decide +kernel
theorem mD_Re_turnIfKeyBit_1 : decode mB_Re_turnIfKeyBit 1 = .ok (.istore_n 3, 1) := by decide +kernel
theorem mD_Re_turnIfKeyBit_2 : decode mB_Re_turnIfKeyBit 2 = .ok (.iload_n 3, 1) := by decide +kernel
theorem mD_Re_turnIfKeyBit_3 : decode mB_Re_turnIfKeyBit 3 = .ok (.bipush 32, 2) := by decide +kernel
theorem mD_Re_turnIfKeyBit_5 : decode mB_Re_turnIfKeyBit 5 = .ok (.if_icmp .ge 62, 3) := by decide +kernel
theorem mD_Re_turnIfKeyBit_8 : decode mB_Re_turnIfKeyBit 8 = .ok (.aload_n 0, 1) := by decide +kernel
theorem mD_Re_turnIfKeyBit_9 : decode mB_Re_turnIfKeyBit 9 = .ok (.getfield 29, 3) := by decide +kernel
theorem mD_Re_turnIfKeyBit_12 : decode mB_Re_turnIfKeyBit 12 = .ok (.iload_n 3, 1) := by decide +kernel
theorem mD_Re_turnIfKeyBit_13 : decode mB_Re_turnIfKeyBit 13 = .ok (.iload_n 2, 1) := by decide +kernel
theorem mD_Re_turnIfKeyBit_14 : decode mB_Re_turnIfKeyBit 14 = .ok (.iload_n 3, 1) := by decide +kernel
theorem mD_Re_turnIfKeyBit_15 : decode mB_Re_turnIfKeyBit 15 = .ok (.aload_n 0, 1) := by decide +kernel
theorem mD_Re_turnIfKeyBit_16 : decode mB_Re_turnIfKeyBit 16 = .ok (.getfield 25, 3) := by decide +kernel
theorem mD_Re_turnIfKeyBit_19 : decode mB_Re_turnIfKeyBit 19 = .ok (.iconst 0, 1) := by decide +kernel
theorem mD_Re_turnIfKeyBit_20 : decode mB_Re_turnIfKeyBit 20 = .ok (.invokestatic 74, 3) := by decide +kernel
theorem mD_Re_turnIfKeyBit_23 : decode mB_Re_turnIfKeyBit 23 = .ok (.aload_n 0, 1) := by decide +kernel
theorem mD_Re_turnIfKeyBit_24 : decode mB_Re_turnIfKeyBit 24 = .ok (.getfield 25, 3) := by decide +kernel
theorem mD_Re_turnIfKeyBit_27 : decode mB_Re_turnIfKeyBit 27 = .ok (.iload_n 3, 1) := by decide +kernel
theorem mD_Re_turnIfKeyBit_28 : decode mB_Re_turnIfKeyBit 28 = .ok (.iaload, 1) := by decide +kernel
theorem mD_Re_turnIfKeyBit_29 : decode mB_Re_turnIfKeyBit 29 = .ok (.isub, 1) := by decide +kernel
theorem mD_Re_turnIfKeyBit_30 : decode mB_Re_turnIfKeyBit 30 = .ok (.iastore, 1) := by decide +kernel
theorem mD_Re_turnIfKeyBit_31 : decode mB_Re_turnIfKeyBit 31 = .ok (.aload_n 0, 1) := by decide +kernel
theorem mD_Re_turnIfKeyBit_32 : decode mB_Re_turnIfKeyBit 32 = .ok (.getfield 29, 3) := by decide +kernel
theorem mD_Re_turnIfKeyBit_35 : decode mB_Re_turnIfKeyBit 35 = .ok (.bipush 32, 2) := by decide +kernel
theorem mD_Re_turnIfKeyBit_37 : decode mB_Re_turnIfKeyBit 37 = .ok (.iload_n 3, 1) := by decide +kernel
theorem mD_Re_turnIfKeyBit_38 : decode mB_Re_turnIfKeyBit 38 = .ok (.iadd, 1) := by decide +kernel
theorem mD_Re_turnIfKeyBit_39 : decode mB_Re_turnIfKeyBit 39 = .ok (.iload_n 2, 1) := by decide +kernel
theorem mD_Re_turnIfKeyBit_40 : decode mB_Re_turnIfKeyBit 40 = .ok (.iload_n 3, 1) := by decide +kernel
theorem mD_Re_turnIfKeyBit_41 : decode mB_Re_turnIfKeyBit 41 = .ok (.aload_n 0, 1) := by decide +kernel
theorem mD_Re_turnIfKeyBit_42 : decode mB_Re_turnIfKeyBit 42 = .ok (.getfield 25, 3) := by decide +kernel
theorem mD_Re_turnIfKeyBit_45 : decode mB_Re_turnIfKeyBit 45 = .ok (.bipush 32, 2) := by decide +kernel
theorem mD_Re_turnIfKeyBit_47 : decode mB_Re_turnIfKeyBit 47 = .ok (.invokestatic 74, 3) := by decide +kernel
theorem mD_Re_turnIfKeyBit_50 : decode mB_Re_turnIfKeyBit 50 = .ok (.aload_n 0, 1) := by decide +kernel
theorem mD_Re_turnIfKeyBit_51 : decode mB_Re_turnIfKeyBit 51 = .ok (.getfield 25, 3) := by decide +kernel
theorem mD_Re_turnIfKeyBit_54 : decode mB_Re_turnIfKeyBit 54 = .ok (.bipush 32, 2) := by decide +kernel
theorem mD_Re_turnIfKeyBit_56 : decode mB_Re_turnIfKeyBit 56 = .ok (.iload_n 3, 1) := by decide +kernel
theorem mD_Re_turnIfKeyBit_57 : decode mB_Re_turnIfKeyBit 57 = .ok (.iadd, 1) := by decide +kernel
theorem mD_Re_turnIfKeyBit_58 : decode mB_Re_turnIfKeyBit 58 = .ok (.iaload, 1) := by decide +kernel
theorem mD_Re_turnIfKeyBit_59 : decode mB_Re_turnIfKeyBit 59 = .ok (.isub, 1) := by decide +kernel
theorem mD_Re_turnIfKeyBit_60 : decode mB_Re_turnIfKeyBit 60 = .ok (.iastore, 1) := by decide +kernel
theorem mD_Re_turnIfKeyBit_61 : decode mB_Re_turnIfKeyBit 61 = .ok (.iinc 3 1, 3) := by decide +kernel
theorem mD_Re_turnIfKeyBit_64 : decode mB_Re_turnIfKeyBit 64 = .ok (.goto (-62), 3) := by decide +kernel
theorem mD_Re_turnIfKeyBit_67 : decode mB_Re_turnIfKeyBit 67 = .ok (.iconst 0, 1) := by decide +kernel
theorem mD_Re_turnIfKeyBit_68 : decode mB_Re_turnIfKeyBit 68 = .ok (.istore_n 3, 1) := by decide +kernel
theorem mD_Re_turnIfKeyBit_69 : decode mB_Re_turnIfKeyBit 69 = .ok (.iload_n 3, 1) := by decide +kernel
theorem mD_Re_turnIfKeyBit_70 : decode mB_Re_turnIfKeyBit 70 = .ok (.iconst 2, 1) := by decide +kernel
theorem mD_Re_turnIfKeyBit_71 : decode mB_Re_turnIfKeyBit 71 = .ok (.if_icmp .ge 49, 3) := by decide +kernel
theorem mD_Re_turnIfKeyBit_74 : decode mB_Re_turnIfKeyBit 74 = .ok (.iconst 0, 1) := by decide +kernel
theorem mD_Re_turnIfKeyBit_75 : decode mB_Re_turnIfKeyBit 75 = .ok (.istore 4, 2) := by decide +kernel
theorem mD_Re_turnIfKeyBit_77 : decode mB_Re_turnIfKeyBit 77 = .ok (.iload 4, 2) := by decide +kernel
theorem mD_Re_turnIfKeyBit_79 : decode mB_Re_turnIfKeyBit 79 = .ok (.iconst 2, 1) := by decide +kernel
theorem mD_Re_turnIfKeyBit_80 : decode mB_Re_turnIfKeyBit 80 = .ok (.if_icmp .ge 34, 3) := by decide +kernel
theorem mD_Re_turnIfKeyBit_83 : decode mB_Re_turnIfKeyBit 83 = .ok (.aload_n 0, 1) := by decide +kernel
theorem mD_Re_turnIfKeyBit_84 : decode mB_Re_turnIfKeyBit 84 = .ok (.iload_n 3, 1) := by decide +kernel
theorem mD_Re_turnIfKeyBit_85 : decode mB_Re_turnIfKeyBit 85 = .ok (.bipush 32, 2) := by decide +kernel
theorem mD_Re_turnIfKeyBit_87 : decode mB_Re_turnIfKeyBit 87 = .ok (.imul, 1) := by decide +kernel
theorem mD_Re_turnIfKeyBit_88 : decode mB_Re_turnIfKeyBit 88 = .ok (.iload 4, 2) := by decide +kernel
theorem mD_Re_turnIfKeyBit_90 : decode mB_Re_turnIfKeyBit 90 = .ok (.aload_n 0, 1) := by decide +kernel
theorem mD_Re_turnIfKeyBit_91 : decode mB_Re_turnIfKeyBit 91 = .ok (.getfield 17, 3) := by decide +kernel
theorem mD_Re_turnIfKeyBit_94 : decode mB_Re_turnIfKeyBit 94 = .ok (.iload_n 1, 1) := by decide +kernel
theorem mD_Re_turnIfKeyBit_95 : decode mB_Re_turnIfKeyBit 95 = .ok (.iconst 4, 1) := by decide +kernel
theorem mD_Re_turnIfKeyBit_96 : decode mB_Re_turnIfKeyBit 96 = .ok (.imul, 1) := by decide +kernel
theorem mD_Re_turnIfKeyBit_97 : decode mB_Re_turnIfKeyBit 97 = .ok (.iload_n 3, 1) := by decide +kernel
theorem mD_Re_turnIfKeyBit_98 : decode mB_Re_turnIfKeyBit 98 = .ok (.iconst 2, 1) := by decide +kernel
theorem mD_Re_turnIfKeyBit_99 : decode mB_Re_turnIfKeyBit 99 = .ok (.imul, 1) := by decide +kernel
theorem mD_Re_turnIfKeyBit_100 : decode mB_Re_turnIfKeyBit 100 = .ok (.iadd, 1) := by decide +kernel
theorem mD_Re_turnIfKeyBit_101 : decode mB_Re_turnIfKeyBit 101 = .ok (.iload 4, 2) := by decide +kernel
theorem mD_Re_turnIfKeyBit_103 : decode mB_Re_turnIfKeyBit 103 = .ok (.iadd, 1) := by decide +kernel
theorem mD_Re_turnIfKeyBit_104 : decode mB_Re_turnIfKeyBit 104 = .ok (.aaload, 1) := by decide +kernel
theorem mD_Re_turnIfKeyBit_105 : decode mB_Re_turnIfKeyBit 105 = .ok (.invokevirtual 78, 3) := by decide +kernel
theorem mD_Re_turnIfKeyBit_108 : decode mB_Re_turnIfKeyBit 108 = .ok (.iinc 4 1, 3) := by decide +kernel
theorem mD_Re_turnIfKeyBit_111 : decode mB_Re_turnIfKeyBit 111 = .ok (.goto (-34), 3) := by decide +kernel
theorem mD_Re_turnIfKeyBit_114 : decode mB_Re_turnIfKeyBit 114 = .ok (.iinc 3 1, 3) := by decide +kernel
theorem mD_Re_turnIfKeyBit_117 : decode mB_Re_turnIfKeyBit 117 = .ok (.goto (-48), 3) := by decide +kernel
theorem mD_Re_turnIfKeyBit_120 : decode mB_Re_turnIfKeyBit 120 = .ok (.return_, 1) := by decide +kernel
theorem mD_Re_addChange_0 : decode mB_Re_addChange 0 = .ok (.iconst 0, 1) := by decide +kernel
theorem mD_Re_addChange_1 : decode mB_Re_addChange 1 = .ok (.istore 4, 2) := by decide +kernel
theorem mD_Re_addChange_3 : decode mB_Re_addChange 3 = .ok (.iload 4, 2) := by decide +kernel
theorem mD_Re_addChange_5 : decode mB_Re_addChange 5 = .ok (.bipush 32, 2) := by decide +kernel
theorem mD_Re_addChange_7 : decode mB_Re_addChange 7 = .ok (.if_icmp .ge 59, 3) := by decide +kernel
theorem mD_Re_addChange_10 : decode mB_Re_addChange 10 = .ok (.aload_n 0, 1) := by decide +kernel
theorem mD_Re_addChange_11 : decode mB_Re_addChange 11 = .ok (.getfield 29, 3) := by decide +kernel
theorem mD_Re_addChange_14 : decode mB_Re_addChange 14 = .ok (.iload_n 1, 1) := by decide +kernel
theorem mD_Re_addChange_15 : decode mB_Re_addChange 15 = .ok (.iload 4, 2) := by decide +kernel
theorem mD_Re_addChange_17 : decode mB_Re_addChange 17 = .ok (.iadd, 1) := by decide +kernel
theorem mD_Re_addChange_18 : decode mB_Re_addChange 18 = .ok (.iaload, 1) := by decide +kernel
theorem mD_Re_addChange_19 : decode mB_Re_addChange 19 = .ok (.iload_n 2, 1) := by decide +kernel
theorem mD_Re_addChange_20 : decode mB_Re_addChange 20 = .ok (.invokestatic 82, 3) := by decide +kernel
theorem mD_Re_addChange_23 : decode mB_Re_addChange 23 = .ok (.istore 5, 2) := by decide +kernel
theorem mD_Re_addChange_25 : decode mB_Re_addChange 25 = .ok (.iload 5, 2) := by decide +kernel
theorem mD_Re_addChange_27 : decode mB_Re_addChange 27 = .ok (.ifCond .eq 33, 3) := by decide +kernel
theorem mD_Re_addChange_30 : decode mB_Re_addChange 30 = .ok (.iload 5, 2) := by decide +kernel
theorem mD_Re_addChange_32 : decode mB_Re_addChange 32 = .ok (.iload 4, 2) := by decide +kernel
theorem mD_Re_addChange_34 : decode mB_Re_addChange 34 = .ok (.aload_n 3, 1) := by decide +kernel
theorem mD_Re_addChange_35 : decode mB_Re_addChange 35 = .ok (.iconst 0, 1) := by decide +kernel
theorem mD_Re_addChange_36 : decode mB_Re_addChange 36 = .ok (.aload_n 0, 1) := by decide +kernel
theorem mD_Re_addChange_37 : decode mB_Re_addChange 37 = .ok (.getfield 25, 3) := by decide +kernel
theorem mD_Re_addChange_40 : decode mB_Re_addChange 40 = .ok (.iconst 0, 1) := by decide +kernel
theorem mD_Re_addChange_41 : decode mB_Re_addChange 41 = .ok (.invokestatic 86, 3) := by decide +kernel
theorem mD_Re_addChange_44 : decode mB_Re_addChange 44 = .ok (.iload 5, 2) := by decide +kernel
theorem mD_Re_addChange_46 : decode mB_Re_addChange 46 = .ok (.iload 4, 2) := by decide +kernel
theorem mD_Re_addChange_48 : decode mB_Re_addChange 48 = .ok (.aload_n 3, 1) := by decide +kernel
theorem mD_Re_addChange_49 : decode mB_Re_addChange 49 = .ok (.bipush 32, 2) := by decide +kernel
theorem mD_Re_addChange_51 : decode mB_Re_addChange 51 = .ok (.aload_n 0, 1) := by decide +kernel
theorem mD_Re_addChange_52 : decode mB_Re_addChange 52 = .ok (.getfield 25, 3) := by decide +kernel
theorem mD_Re_addChange_55 : decode mB_Re_addChange 55 = .ok (.bipush 32, 2) := by decide +kernel
theorem mD_Re_addChange_57 : decode mB_Re_addChange 57 = .ok (.invokestatic 86, 3) := by decide +kernel
theorem mD_Re_addChange_60 : decode mB_Re_addChange 60 = .ok (.iinc 4 1, 3) := by decide +kernel
theorem mD_Re_addChange_63 : decode mB_Re_addChange 63 = .ok (.goto (-60), 3) := by decide +kernel
theorem mD_Re_addChange_66 : decode mB_Re_addChange 66 = .ok (.return_, 1) := by decide +kernel
theorem mD_Re_comeBack_0 : decode mB_Re_comeBack 0 = .ok (.iconst 0, 1) := by decide +kernel
theorem mD_Re_comeBack_1 : decode mB_Re_comeBack 1 = .ok (.istore_n 2, 1) := by decide +kernel
theorem mD_Re_comeBack_2 : decode mB_Re_comeBack 2 = .ok (.iload_n 2, 1) := by decide +kernel
theorem mD_Re_comeBack_3 : decode mB_Re_comeBack 3 = .ok (.bipush 8, 2) := by decide +kernel
theorem mD_Re_comeBack_5 : decode mB_Re_comeBack 5 = .ok (.if_icmp .ge 13, 3) := by decide +kernel
theorem mD_Re_comeBack_8 : decode mB_Re_comeBack 8 = .ok (.aload_n 1, 1) := by decide +kernel
theorem mD_Re_comeBack_9 : decode mB_Re_comeBack 9 = .ok (.iload_n 2, 1) := by decide +kernel
theorem mD_Re_comeBack_10 : decode mB_Re_comeBack 10 = .ok (.iconst 0, 1) := by decide +kernel
theorem mD_Re_comeBack_11 : decode mB_Re_comeBack 11 = .ok (.iastore, 1) := by decide +kernel
theorem mD_Re_comeBack_12 : decode mB_Re_comeBack 12 = .ok (.iinc 2 1, 3) := by decide +kernel
theorem mD_Re_comeBack_15 : decode mB_Re_comeBack 15 = .ok (.goto (-13), 3) := by decide +kernel
theorem mD_Re_comeBack_18 : decode mB_Re_comeBack 18 = .ok (.aload_n 1, 1) := by decide +kernel
theorem mD_Re_comeBack_19 : decode mB_Re_comeBack 19 = .ok (.bipush 8, 2) := by decide +kernel
theorem mD_Re_comeBack_21 : decode mB_Re_comeBack 21 = .ok (.aload_n 0, 1) := by decide +kernel
theorem mD_Re_comeBack_22 : decode mB_Re_comeBack 22 = .ok (.getfield 25, 3) := by decide +kernel
theorem mD_Re_comeBack_25 : decode mB_Re_comeBack 25 = .ok (.bipush 32, 2) := by decide +kernel
theorem mD_Re_comeBack_27 : decode mB_Re_comeBack 27 = .ok (.iaload, 1) := by decide +kernel
theorem mD_Re_comeBack_28 : decode mB_Re_comeBack 28 = .ok (.iastore, 1) := by decide +kernel
theorem mD_Re_comeBack_29 : decode mB_Re_comeBack 29 = .ok (.iconst 0, 1) := by decide +kernel
theorem mD_Re_comeBack_30 : decode mB_Re_comeBack 30 = .ok (.istore_n 2, 1) := by decide +kernel
theorem mD_Re_comeBack_31 : decode mB_Re_comeBack 31 = .ok (.iload_n 2, 1) := by decide +kernel
theorem mD_Re_comeBack_32 : decode mB_Re_comeBack 32 = .ok (.bipush 32, 2) := by decide +kernel
theorem mD_Re_comeBack_34 : decode mB_Re_comeBack 34 = .ok (.if_icmp .ge 56, 3) := by decide +kernel
theorem mD_Re_comeBack_37 : decode mB_Re_comeBack 37 = .ok (.iload_n 2, 1) := by decide +kernel
theorem mD_Re_comeBack_38 : decode mB_Re_comeBack 38 = .ok (.iconst 0, 1) := by decide +kernel
theorem mD_Re_comeBack_39 : decode mB_Re_comeBack 39 = .ok (.aload_n 0, 1) := by decide +kernel
theorem mD_Re_comeBack_40 : decode mB_Re_comeBack 40 = .ok (.getfield 25, 3) := by decide +kernel
theorem mD_Re_comeBack_43 : decode mB_Re_comeBack 43 = .ok (.iconst 0, 1) := by decide +kernel
theorem mD_Re_comeBack_44 : decode mB_Re_comeBack 44 = .ok (.invokestatic 74, 3) := by decide +kernel
theorem mD_Re_comeBack_47 : decode mB_Re_comeBack 47 = .ok (.istore_n 3, 1) := by decide +kernel
theorem mD_Re_comeBack_48 : decode mB_Re_comeBack 48 = .ok (.iconst 0, 1) := by decide +kernel
theorem mD_Re_comeBack_49 : decode mB_Re_comeBack 49 = .ok (.istore 4, 2) := by decide +kernel
theorem mD_Re_comeBack_51 : decode mB_Re_comeBack 51 = .ok (.iload 4, 2) := by decide +kernel
theorem mD_Re_comeBack_53 : decode mB_Re_comeBack 53 = .ok (.iconst 2, 1) := by decide +kernel
theorem mD_Re_comeBack_54 : decode mB_Re_comeBack 54 = .ok (.if_icmp .ge 30, 3) := by decide +kernel
theorem mD_Re_comeBack_57 : decode mB_Re_comeBack 57 = .ok (.iload_n 3, 1) := by decide +kernel
theorem mD_Re_comeBack_58 : decode mB_Re_comeBack 58 = .ok (.iload 4, 2) := by decide +kernel
theorem mD_Re_comeBack_60 : decode mB_Re_comeBack 60 = .ok (.invokestatic 82, 3) := by decide +kernel
theorem mD_Re_comeBack_63 : decode mB_Re_comeBack 63 = .ok (.aload_n 0, 1) := by decide +kernel
theorem mD_Re_comeBack_64 : decode mB_Re_comeBack 64 = .ok (.getfield 22, 3) := by decide +kernel
theorem mD_Re_comeBack_67 : decode mB_Re_comeBack 67 = .ok (.iload_n 2, 1) := by decide +kernel
theorem mD_Re_comeBack_68 : decode mB_Re_comeBack 68 = .ok (.iconst 2, 1) := by decide +kernel
theorem mD_Re_comeBack_69 : decode mB_Re_comeBack 69 = .ok (.imul, 1) := by decide +kernel
theorem mD_Re_comeBack_70 : decode mB_Re_comeBack 70 = .ok (.iload 4, 2) := by decide +kernel
theorem mD_Re_comeBack_72 : decode mB_Re_comeBack 72 = .ok (.iadd, 1) := by decide +kernel
theorem mD_Re_comeBack_73 : decode mB_Re_comeBack 73 = .ok (.aaload, 1) := by decide +kernel
theorem mD_Re_comeBack_74 : decode mB_Re_comeBack 74 = .ok (.aload_n 1, 1) := by decide +kernel
theorem mD_Re_comeBack_75 : decode mB_Re_comeBack 75 = .ok (.invokestatic 90, 3) := by decide +kernel
theorem mD_Re_comeBack_78 : decode mB_Re_comeBack 78 = .ok (.iinc 4 1, 3) := by decide +kernel
theorem mD_Re_comeBack_81 : decode mB_Re_comeBack 81 = .ok (.goto (-30), 3) := by decide +kernel
theorem mD_Re_comeBack_84 : decode mB_Re_comeBack 84 = .ok (.iinc 2 1, 3) := by decide +kernel
theorem mD_Re_comeBack_87 : decode mB_Re_comeBack 87 = .ok (.goto (-56), 3) := by decide +kernel
theorem mD_Re_comeBack_90 : decode mB_Re_comeBack 90 = .ok (.return_, 1) := by decide +kernel
theorem mD_Re_subtract_0 : decode mB_Re_subtract 0 = .ok (.iconst 0, 1) := by decide +kernel
theorem mD_Re_subtract_1 : decode mB_Re_subtract 1 = .ok (.istore_n 3, 1) := by decide +kernel
theorem mD_Re_subtract_2 : decode mB_Re_subtract 2 = .ok (.iload_n 3, 1) := by decide +kernel
theorem mD_Re_subtract_3 : decode mB_Re_subtract 3 = .ok (.bipush 9, 2) := by decide +kernel
theorem mD_Re_subtract_5 : decode mB_Re_subtract 5 = .ok (.if_icmp .ge 20, 3) := by decide +kernel
theorem mD_Re_subtract_8 : decode mB_Re_subtract 8 = .ok (.aload_n 2, 1) := by decide +kernel
theorem mD_Re_subtract_9 : decode mB_Re_subtract 9 = .ok (.iload_n 3, 1) := by decide +kernel
theorem mD_Re_subtract_10 : decode mB_Re_subtract 10 = .ok (.dup2, 1) := by decide +kernel
theorem mD_Re_subtract_11 : decode mB_Re_subtract 11 = .ok (.iaload, 1) := by decide +kernel
theorem mD_Re_subtract_12 : decode mB_Re_subtract 12 = .ok (.iload_n 0, 1) := by decide +kernel
theorem mD_Re_subtract_13 : decode mB_Re_subtract 13 = .ok (.aload_n 1, 1) := by decide +kernel
theorem mD_Re_subtract_14 : decode mB_Re_subtract 14 = .ok (.iload_n 3, 1) := by decide +kernel
theorem mD_Re_subtract_15 : decode mB_Re_subtract 15 = .ok (.iaload, 1) := by decide +kernel
theorem mD_Re_subtract_16 : decode mB_Re_subtract 16 = .ok (.imul, 1) := by decide +kernel
theorem mD_Re_subtract_17 : decode mB_Re_subtract 17 = .ok (.isub, 1) := by decide +kernel
theorem mD_Re_subtract_18 : decode mB_Re_subtract 18 = .ok (.iastore, 1) := by decide +kernel
theorem mD_Re_subtract_19 : decode mB_Re_subtract 19 = .ok (.iinc 3 1, 3) := by decide +kernel
theorem mD_Re_subtract_22 : decode mB_Re_subtract 22 = .ok (.goto (-20), 3) := by decide +kernel
theorem mD_Re_subtract_25 : decode mB_Re_subtract 25 = .ok (.return_, 1) := by decide +kernel
theorem mD_Ri_addTurned_0 : decode mB_Ri_addTurned 0 = .ok (.iload_n 3, 1) := by decide +kernel
theorem mD_Ri_addTurned_1 : decode mB_Ri_addTurned 1 = .ok (.bipush 32, 2) := by decide +kernel
theorem mD_Ri_addTurned_3 : decode mB_Ri_addTurned 3 = .ok (.iadd, 1) := by decide +kernel
theorem mD_Ri_addTurned_4 : decode mB_Ri_addTurned 4 = .ok (.istore 6, 2) := by decide +kernel
theorem mD_Ri_addTurned_6 : decode mB_Ri_addTurned 6 = .ok (.iload 6, 2) := by decide +kernel
theorem mD_Ri_addTurned_8 : decode mB_Ri_addTurned 8 = .ok (.iload_n 1, 1) := by decide +kernel
theorem mD_Ri_addTurned_9 : decode mB_Ri_addTurned 9 = .ok (.isub, 1) := by decide +kernel
theorem mD_Ri_addTurned_10 : decode mB_Ri_addTurned 10 = .ok (.istore 7, 2) := by decide +kernel
theorem mD_Ri_addTurned_12 : decode mB_Ri_addTurned 12 = .ok (.iload 5, 2) := by decide +kernel
theorem mD_Ri_addTurned_14 : decode mB_Ri_addTurned 14 = .ok (.iload_n 3, 1) := by decide +kernel
theorem mD_Ri_addTurned_15 : decode mB_Ri_addTurned 15 = .ok (.isub, 1) := by decide +kernel
theorem mD_Ri_addTurned_16 : decode mB_Ri_addTurned 16 = .ok (.iload_n 1, 1) := by decide +kernel
theorem mD_Ri_addTurned_17 : decode mB_Ri_addTurned 17 = .ok (.iadd, 1) := by decide +kernel
theorem mD_Ri_addTurned_18 : decode mB_Ri_addTurned 18 = .ok (.istore 8, 2) := by decide +kernel
theorem mD_Ri_addTurned_20 : decode mB_Ri_addTurned 20 = .ok (.iload 8, 2) := by decide +kernel
theorem mD_Ri_addTurned_22 : decode mB_Ri_addTurned 22 = .ok (.bipush 32, 2) := by decide +kernel
theorem mD_Ri_addTurned_24 : decode mB_Ri_addTurned 24 = .ok (.isub, 1) := by decide +kernel
theorem mD_Ri_addTurned_25 : decode mB_Ri_addTurned 25 = .ok (.istore 9, 2) := by decide +kernel
theorem mD_Ri_addTurned_27 : decode mB_Ri_addTurned 27 = .ok (.iload_n 3, 1) := by decide +kernel
theorem mD_Ri_addTurned_28 : decode mB_Ri_addTurned 28 = .ok (.istore 10, 2) := by decide +kernel
theorem mD_Ri_addTurned_30 : decode mB_Ri_addTurned 30 = .ok (.iload 10, 2) := by decide +kernel
theorem mD_Ri_addTurned_32 : decode mB_Ri_addTurned 32 = .ok (.iload 7, 2) := by decide +kernel
theorem mD_Ri_addTurned_34 : decode mB_Ri_addTurned 34 = .ok (.if_icmp .ge 26, 3) := by decide +kernel
theorem mD_Ri_addTurned_37 : decode mB_Ri_addTurned 37 = .ok (.aload 4, 2) := by decide +kernel
theorem mD_Ri_addTurned_39 : decode mB_Ri_addTurned 39 = .ok (.iload 10, 2) := by decide +kernel
theorem mD_Ri_addTurned_41 : decode mB_Ri_addTurned 41 = .ok (.iload 8, 2) := by decide +kernel
theorem mD_Ri_addTurned_43 : decode mB_Ri_addTurned 43 = .ok (.iadd, 1) := by decide +kernel
theorem mD_Ri_addTurned_44 : decode mB_Ri_addTurned 44 = .ok (.dup2, 1) := by decide +kernel
theorem mD_Ri_addTurned_45 : decode mB_Ri_addTurned 45 = .ok (.iaload, 1) := by decide +kernel
theorem mD_Ri_addTurned_46 : decode mB_Ri_addTurned 46 = .ok (.iload_n 0, 1) := by decide +kernel
theorem mD_Ri_addTurned_47 : decode mB_Ri_addTurned 47 = .ok (.aload_n 2, 1) := by decide +kernel
theorem mD_Ri_addTurned_48 : decode mB_Ri_addTurned 48 = .ok (.iload 10, 2) := by decide +kernel
theorem mD_Ri_addTurned_50 : decode mB_Ri_addTurned 50 = .ok (.iaload, 1) := by decide +kernel
theorem mD_Ri_addTurned_51 : decode mB_Ri_addTurned 51 = .ok (.imul, 1) := by decide +kernel
theorem mD_Ri_addTurned_52 : decode mB_Ri_addTurned 52 = .ok (.iadd, 1) := by decide +kernel
theorem mD_Ri_addTurned_53 : decode mB_Ri_addTurned 53 = .ok (.iastore, 1) := by decide +kernel
theorem mD_Ri_addTurned_54 : decode mB_Ri_addTurned 54 = .ok (.iinc 10 1, 3) := by decide +kernel
theorem mD_Ri_addTurned_57 : decode mB_Ri_addTurned 57 = .ok (.goto (-27), 3) := by decide +kernel
theorem mD_Ri_addTurned_60 : decode mB_Ri_addTurned 60 = .ok (.iload 7, 2) := by decide +kernel
theorem mD_Ri_addTurned_62 : decode mB_Ri_addTurned 62 = .ok (.istore 10, 2) := by decide +kernel
theorem mD_Ri_addTurned_64 : decode mB_Ri_addTurned 64 = .ok (.iload 10, 2) := by decide +kernel
theorem mD_Ri_addTurned_66 : decode mB_Ri_addTurned 66 = .ok (.iload 6, 2) := by decide +kernel
theorem mD_Ri_addTurned_68 : decode mB_Ri_addTurned 68 = .ok (.if_icmp .ge 26, 3) := by decide +kernel
theorem mD_Ri_addTurned_71 : decode mB_Ri_addTurned 71 = .ok (.aload 4, 2) := by decide +kernel
theorem mD_Ri_addTurned_73 : decode mB_Ri_addTurned 73 = .ok (.iload 10, 2) := by decide +kernel
theorem mD_Ri_addTurned_75 : decode mB_Ri_addTurned 75 = .ok (.iload 9, 2) := by decide +kernel
theorem mD_Ri_addTurned_77 : decode mB_Ri_addTurned 77 = .ok (.iadd, 1) := by decide +kernel
theorem mD_Ri_addTurned_78 : decode mB_Ri_addTurned 78 = .ok (.dup2, 1) := by decide +kernel
theorem mD_Ri_addTurned_79 : decode mB_Ri_addTurned 79 = .ok (.iaload, 1) := by decide +kernel
theorem mD_Ri_addTurned_80 : decode mB_Ri_addTurned 80 = .ok (.iload_n 0, 1) := by decide +kernel
theorem mD_Ri_addTurned_81 : decode mB_Ri_addTurned 81 = .ok (.aload_n 2, 1) := by decide +kernel
theorem mD_Ri_addTurned_82 : decode mB_Ri_addTurned 82 = .ok (.iload 10, 2) := by decide +kernel
theorem mD_Ri_addTurned_84 : decode mB_Ri_addTurned 84 = .ok (.iaload, 1) := by decide +kernel
theorem mD_Ri_addTurned_85 : decode mB_Ri_addTurned 85 = .ok (.imul, 1) := by decide +kernel
theorem mD_Ri_addTurned_86 : decode mB_Ri_addTurned 86 = .ok (.isub, 1) := by decide +kernel
theorem mD_Ri_addTurned_87 : decode mB_Ri_addTurned 87 = .ok (.iastore, 1) := by decide +kernel
theorem mD_Ri_addTurned_88 : decode mB_Ri_addTurned 88 = .ok (.iinc 10 1, 3) := by decide +kernel
theorem mD_Ri_addTurned_91 : decode mB_Ri_addTurned 91 = .ok (.goto (-27), 3) := by decide +kernel
theorem mD_Ri_addTurned_94 : decode mB_Ri_addTurned 94 = .ok (.return_, 1) := by decide +kernel
theorem mD_Ri_turned_0 : decode mB_Ri_turned 0 = .ok (.iload_n 1, 1) := by decide +kernel
theorem mD_Ri_turned_1 : decode mB_Ri_turned 1 = .ok (.iload_n 0, 1) := by decide +kernel
theorem mD_Ri_turned_2 : decode mB_Ri_turned 2 = .ok (.isub, 1) := by decide +kernel
theorem mD_Ri_turned_3 : decode mB_Ri_turned 3 = .ok (.bipush 63, 2) := by decide +kernel
theorem mD_Ri_turned_5 : decode mB_Ri_turned 5 = .ok (.iand, 1) := by decide +kernel
theorem mD_Ri_turned_6 : decode mB_Ri_turned 6 = .ok (.istore 4, 2) := by decide +kernel
theorem mD_Ri_turned_8 : decode mB_Ri_turned 8 = .ok (.iload 4, 2) := by decide +kernel
theorem mD_Ri_turned_10 : decode mB_Ri_turned 10 = .ok (.bipush 32, 2) := by decide +kernel
theorem mD_Ri_turned_12 : decode mB_Ri_turned 12 = .ok (.if_icmp .ge 12, 3) := by decide +kernel
theorem mD_Ri_turned_15 : decode mB_Ri_turned 15 = .ok (.aload_n 2, 1) := by decide +kernel
theorem mD_Ri_turned_16 : decode mB_Ri_turned 16 = .ok (.iload_n 3, 1) := by decide +kernel
theorem mD_Ri_turned_17 : decode mB_Ri_turned 17 = .ok (.iload 4, 2) := by decide +kernel
theorem mD_Ri_turned_19 : decode mB_Ri_turned 19 = .ok (.iadd, 1) := by decide +kernel
theorem mD_Ri_turned_20 : decode mB_Ri_turned 20 = .ok (.iaload, 1) := by decide +kernel
theorem mD_Ri_turned_21 : decode mB_Ri_turned 21 = .ok (.goto 13, 3) := by decide +kernel
theorem mD_Ri_turned_24 : decode mB_Ri_turned 24 = .ok (.aload_n 2, 1) := by decide +kernel
theorem mD_Ri_turned_25 : decode mB_Ri_turned 25 = .ok (.iload_n 3, 1) := by decide +kernel
theorem mD_Ri_turned_26 : decode mB_Ri_turned 26 = .ok (.iload 4, 2) := by decide +kernel
theorem mD_Ri_turned_28 : decode mB_Ri_turned 28 = .ok (.iadd, 1) := by decide +kernel
theorem mD_Ri_turned_29 : decode mB_Ri_turned 29 = .ok (.bipush 32, 2) := by decide +kernel
theorem mD_Ri_turned_31 : decode mB_Ri_turned 31 = .ok (.isub, 1) := by decide +kernel
theorem mD_Ri_turned_32 : decode mB_Ri_turned 32 = .ok (.iaload, 1) := by decide +kernel
theorem mD_Ri_turned_33 : decode mB_Ri_turned 33 = .ok (.ineg, 1) := by decide +kernel
theorem mD_Ri_turned_34 : decode mB_Ri_turned 34 = .ok (.ireturn, 1) := by decide +kernel
theorem mD_Se_init_0 : decode mB_Se_init 0 = .ok (.aload_n 0, 1) := by decide +kernel
theorem mD_Se_init_1 : decode mB_Se_init 1 = .ok (.invokespecial 1, 3) := by decide +kernel
theorem mD_Se_init_4 : decode mB_Se_init 4 = .ok (.aload_n 0, 1) := by decide +kernel
theorem mD_Se_init_5 : decode mB_Se_init 5 = .ok (.bipush 8, 2) := by decide +kernel
theorem mD_Se_init_7 : decode mB_Se_init 7 = .ok (.newarray .int, 2) := by decide +kernel
theorem mD_Se_init_9 : decode mB_Se_init 9 = .ok (.putfield 9, 3) := by decide +kernel
theorem mD_Se_init_12 : decode mB_Se_init 12 = .ok (.aload_n 0, 1) := by decide +kernel
theorem mD_Se_init_13 : decode mB_Se_init 13 = .ok (.bipush 32, 2) := by decide +kernel
theorem mD_Se_init_15 : decode mB_Se_init 15 = .ok (.newarray .int, 2) := by decide +kernel
theorem mD_Se_init_17 : decode mB_Se_init 17 = .ok (.putfield 15, 3) := by decide +kernel
theorem mD_Se_init_20 : decode mB_Se_init 20 = .ok (.return_, 1) := by decide +kernel
theorem mD_Se_renew_0 : decode mB_Se_renew 0 = .ok (.aload_n 0, 1) := by decide +kernel
theorem mD_Se_renew_1 : decode mB_Se_renew 1 = .ok (.getfield 9, 3) := by decide +kernel
theorem mD_Se_renew_4 : decode mB_Se_renew 4 = .ok (.bipush 8, 2) := by decide +kernel
theorem mD_Se_renew_6 : decode mB_Se_renew 6 = .ok (.aload_n 1, 1) := by decide +kernel
theorem mD_Se_renew_7 : decode mB_Se_renew 7 = .ok (.invokestatic 18, 3) := by decide +kernel
theorem mD_Se_renew_10 : decode mB_Se_renew 10 = .ok (.aload_n 0, 1) := by decide +kernel
theorem mD_Se_renew_11 : decode mB_Se_renew 11 = .ok (.getfield 15, 3) := by decide +kernel
theorem mD_Se_renew_14 : decode mB_Se_renew 14 = .ok (.bipush 32, 2) := by decide +kernel
theorem mD_Se_renew_16 : decode mB_Se_renew 16 = .ok (.aload_n 1, 1) := by decide +kernel
theorem mD_Se_renew_17 : decode mB_Se_renew 17 = .ok (.invokestatic 18, 3) := by decide +kernel
theorem mD_Se_renew_20 : decode mB_Se_renew 20 = .ok (.return_, 1) := by decide +kernel
theorem mD_Se_drawBits_0 : decode mB_Se_drawBits 0 = .ok (.iconst 0, 1) := by decide +kernel
theorem mD_Se_drawBits_1 : decode mB_Se_drawBits 1 = .ok (.istore_n 3, 1) := by decide +kernel
theorem mD_Se_drawBits_2 : decode mB_Se_drawBits 2 = .ok (.iload_n 3, 1) := by decide +kernel
theorem mD_Se_drawBits_3 : decode mB_Se_drawBits 3 = .ok (.iload_n 1, 1) := by decide +kernel
theorem mD_Se_drawBits_4 : decode mB_Se_drawBits 4 = .ok (.if_icmp .ge 19, 3) := by decide +kernel
theorem mD_Se_drawBits_7 : decode mB_Se_drawBits 7 = .ok (.aload_n 0, 1) := by decide +kernel
theorem mD_Se_drawBits_8 : decode mB_Se_drawBits 8 = .ok (.iload_n 3, 1) := by decide +kernel
theorem mD_Se_drawBits_9 : decode mB_Se_drawBits 9 = .ok (.aload_n 2, 1) := by decide +kernel
theorem mD_Se_drawBits_10 : decode mB_Se_drawBits 10 = .ok (.invokevirtual 22, 3) := by decide +kernel
theorem mD_Se_drawBits_13 : decode mB_Se_drawBits 13 = .ok (.bipush 31, 2) := by decide +kernel
theorem mD_Se_drawBits_15 : decode mB_Se_drawBits 15 = .ok (.iushr, 1) := by decide +kernel
theorem mD_Se_drawBits_16 : decode mB_Se_drawBits 16 = .ok (.iastore, 1) := by decide +kernel
theorem mD_Se_drawBits_17 : decode mB_Se_drawBits 17 = .ok (.iinc 3 1, 3) := by decide +kernel
theorem mD_Se_drawBits_20 : decode mB_Se_drawBits 20 = .ok (.goto (-18), 3) := by decide +kernel
theorem mD_Se_drawBits_23 : decode mB_Se_drawBits 23 = .ok (.return_, 1) := by decide +kernel
theorem mD_Se_hide_0 : decode mB_Se_hide 0 = .ok (.iload_n 1, 1) := by decide +kernel
theorem mD_Se_hide_1 : decode mB_Se_hide 1 = .ok (.aload 4, 2) := by decide +kernel
theorem mD_Se_hide_3 : decode mB_Se_hide 3 = .ok (.iload_n 3, 1) := by decide +kernel
theorem mD_Se_hide_4 : decode mB_Se_hide 4 = .ok (.invokevirtual 28, 3) := by decide +kernel
theorem mD_Se_hide_7 : decode mB_Se_hide 7 = .ok (.iadd, 1) := by decide +kernel
theorem mD_Se_hide_8 : decode mB_Se_hide 8 = .ok (.istore 5, 2) := by decide +kernel
theorem mD_Se_hide_10 : decode mB_Se_hide 10 = .ok (.iconst 0, 1) := by decide +kernel
theorem mD_Se_hide_11 : decode mB_Se_hide 11 = .ok (.istore 6, 2) := by decide +kernel
theorem mD_Se_hide_13 : decode mB_Se_hide 13 = .ok (.iload 6, 2) := by decide +kernel
theorem mD_Se_hide_15 : decode mB_Se_hide 15 = .ok (.bipush 8, 2) := by decide +kernel
theorem mD_Se_hide_17 : decode mB_Se_hide 17 = .ok (.if_icmp .ge 35, 3) := by decide +kernel
theorem mD_Se_hide_20 : decode mB_Se_hide 20 = .ok (.aload_n 2, 1) := by decide +kernel
theorem mD_Se_hide_21 : decode mB_Se_hide 21 = .ok (.iload 6, 2) := by decide +kernel
theorem mD_Se_hide_23 : decode mB_Se_hide 23 = .ok (.aload 4, 2) := by decide +kernel
theorem mD_Se_hide_25 : decode mB_Se_hide 25 = .ok (.invokevirtual 22, 3) := by decide +kernel
theorem mD_Se_hide_28 : decode mB_Se_hide 28 = .ok (.iastore, 1) := by decide +kernel
theorem mD_Se_hide_29 : decode mB_Se_hide 29 = .ok (.iload 5, 2) := by decide +kernel
theorem mD_Se_hide_31 : decode mB_Se_hide 31 = .ok (.aload_n 2, 1) := by decide +kernel
theorem mD_Se_hide_32 : decode mB_Se_hide 32 = .ok (.iload 6, 2) := by decide +kernel
theorem mD_Se_hide_34 : decode mB_Se_hide 34 = .ok (.iaload, 1) := by decide +kernel
theorem mD_Se_hide_35 : decode mB_Se_hide 35 = .ok (.aload_n 0, 1) := by decide +kernel
theorem mD_Se_hide_36 : decode mB_Se_hide 36 = .ok (.getfield 9, 3) := by decide +kernel
theorem mD_Se_hide_39 : decode mB_Se_hide 39 = .ok (.iload 6, 2) := by decide +kernel
theorem mD_Se_hide_41 : decode mB_Se_hide 41 = .ok (.iaload, 1) := by decide +kernel
theorem mD_Se_hide_42 : decode mB_Se_hide 42 = .ok (.imul, 1) := by decide +kernel
theorem mD_Se_hide_43 : decode mB_Se_hide 43 = .ok (.iadd, 1) := by decide +kernel
theorem mD_Se_hide_44 : decode mB_Se_hide 44 = .ok (.istore 5, 2) := by decide +kernel
theorem mD_Se_hide_46 : decode mB_Se_hide 46 = .ok (.iinc 6 1, 3) := by decide +kernel
theorem mD_Se_hide_49 : decode mB_Se_hide 49 = .ok (.goto (-36), 3) := by decide +kernel
theorem mD_Se_hide_52 : decode mB_Se_hide 52 = .ok (.aload_n 2, 1) := by decide +kernel
theorem mD_Se_hide_53 : decode mB_Se_hide 53 = .ok (.bipush 8, 2) := by decide +kernel
theorem mD_Se_hide_55 : decode mB_Se_hide 55 = .ok (.iload 5, 2) := by decide +kernel
theorem mD_Se_hide_57 : decode mB_Se_hide 57 = .ok (.iastore, 1) := by decide +kernel
theorem mD_Se_hide_58 : decode mB_Se_hide 58 = .ok (.return_, 1) := by decide +kernel
theorem mD_Se_placeOf_0 : decode mB_Se_placeOf 0 = .ok (.aload_n 1, 1) := by decide +kernel
theorem mD_Se_placeOf_1 : decode mB_Se_placeOf 1 = .ok (.bipush 8, 2) := by decide +kernel
theorem mD_Se_placeOf_3 : decode mB_Se_placeOf 3 = .ok (.iaload, 1) := by decide +kernel
theorem mD_Se_placeOf_4 : decode mB_Se_placeOf 4 = .ok (.istore_n 2, 1) := by decide +kernel
theorem mD_Se_placeOf_5 : decode mB_Se_placeOf 5 = .ok (.iconst 0, 1) := by decide +kernel
theorem mD_Se_placeOf_6 : decode mB_Se_placeOf 6 = .ok (.istore_n 3, 1) := by decide +kernel
theorem mD_Se_placeOf_7 : decode mB_Se_placeOf 7 = .ok (.iload_n 3, 1) := by decide +kernel
theorem mD_Se_placeOf_8 : decode mB_Se_placeOf 8 = .ok (.bipush 8, 2) := by decide +kernel
theorem mD_Se_placeOf_10 : decode mB_Se_placeOf 10 = .ok (.if_icmp .ge 22, 3) := by decide +kernel
theorem mD_Se_placeOf_13 : decode mB_Se_placeOf 13 = .ok (.iload_n 2, 1) := by decide +kernel
theorem mD_Se_placeOf_14 : decode mB_Se_placeOf 14 = .ok (.aload_n 1, 1) := by decide +kernel
theorem mD_Se_placeOf_15 : decode mB_Se_placeOf 15 = .ok (.iload_n 3, 1) := by decide +kernel
theorem mD_Se_placeOf_16 : decode mB_Se_placeOf 16 = .ok (.iaload, 1) := by decide +kernel
theorem mD_Se_placeOf_17 : decode mB_Se_placeOf 17 = .ok (.aload_n 0, 1) := by decide +kernel
theorem mD_Se_placeOf_18 : decode mB_Se_placeOf 18 = .ok (.getfield 9, 3) := by decide +kernel
theorem mD_Se_placeOf_21 : decode mB_Se_placeOf 21 = .ok (.iload_n 3, 1) := by decide +kernel
theorem mD_Se_placeOf_22 : decode mB_Se_placeOf 22 = .ok (.iaload, 1) := by decide +kernel
theorem mD_Se_placeOf_23 : decode mB_Se_placeOf 23 = .ok (.imul, 1) := by decide +kernel
theorem mD_Se_placeOf_24 : decode mB_Se_placeOf 24 = .ok (.isub, 1) := by decide +kernel
theorem mD_Se_placeOf_25 : decode mB_Se_placeOf 25 = .ok (.istore_n 2, 1) := by decide +kernel
theorem mD_Se_placeOf_26 : decode mB_Se_placeOf 26 = .ok (.iinc 3 1, 3) := by decide +kernel
theorem mD_Se_placeOf_29 : decode mB_Se_placeOf 29 = .ok (.goto (-22), 3) := by decide +kernel
theorem mD_Se_placeOf_32 : decode mB_Se_placeOf 32 = .ok (.iload_n 2, 1) := by decide +kernel
theorem mD_Se_placeOf_33 : decode mB_Se_placeOf 33 = .ok (.ireturn, 1) := by decide +kernel
theorem mD_Se_hideNothing_0 : decode mB_Se_hideNothing 0 = .ok (.iconst 0, 1) := by decide +kernel
theorem mD_Se_hideNothing_1 : decode mB_Se_hideNothing 1 = .ok (.istore_n 3, 1) := by decide +kernel
theorem mD_Se_hideNothing_2 : decode mB_Se_hideNothing 2 = .ok (.iload_n 3, 1) := by decide +kernel
theorem mD_Se_hideNothing_3 : decode mB_Se_hideNothing 3 = .ok (.bipush 32, 2) := by decide +kernel
theorem mD_Se_hideNothing_5 : decode mB_Se_hideNothing 5 = .ok (.if_icmp .ge 27, 3) := by decide +kernel
theorem mD_Se_hideNothing_8 : decode mB_Se_hideNothing 8 = .ok (.aload_n 1, 1) := by decide +kernel
theorem mD_Se_hideNothing_9 : decode mB_Se_hideNothing 9 = .ok (.iload_n 3, 1) := by decide +kernel
theorem mD_Se_hideNothing_10 : decode mB_Se_hideNothing 10 = .ok (.aload_n 2, 1) := by decide +kernel
theorem mD_Se_hideNothing_11 : decode mB_Se_hideNothing 11 = .ok (.invokevirtual 22, 3) := by decide +kernel
theorem mD_Se_hideNothing_14 : decode mB_Se_hideNothing 14 = .ok (.iastore, 1) := by decide +kernel
theorem mD_Se_hideNothing_15 : decode mB_Se_hideNothing 15 = .ok (.aload_n 1, 1) := by decide +kernel
theorem mD_Se_hideNothing_16 : decode mB_Se_hideNothing 16 = .ok (.bipush 32, 2) := by decide +kernel
theorem mD_Se_hideNothing_18 : decode mB_Se_hideNothing 18 = .ok (.iload_n 3, 1) := by decide +kernel
theorem mD_Se_hideNothing_19 : decode mB_Se_hideNothing 19 = .ok (.iadd, 1) := by decide +kernel
theorem mD_Se_hideNothing_20 : decode mB_Se_hideNothing 20 = .ok (.aload_n 2, 1) := by decide +kernel
theorem mD_Se_hideNothing_21 : decode mB_Se_hideNothing 21 = .ok (.iconst 3, 1) := by decide +kernel
theorem mD_Se_hideNothing_22 : decode mB_Se_hideNothing 22 = .ok (.invokevirtual 28, 3) := by decide +kernel
theorem mD_Se_hideNothing_25 : decode mB_Se_hideNothing 25 = .ok (.iastore, 1) := by decide +kernel
theorem mD_Se_hideNothing_26 : decode mB_Se_hideNothing 26 = .ok (.iinc 3 1, 3) := by decide +kernel
theorem mD_Se_hideNothing_29 : decode mB_Se_hideNothing 29 = .ok (.goto (-27), 3) := by decide +kernel
theorem mD_Se_hideNothing_32 : decode mB_Se_hideNothing 32 = .ok (.iconst 0, 1) := by decide +kernel
theorem mD_Se_hideNothing_33 : decode mB_Se_hideNothing 33 = .ok (.istore_n 3, 1) := by decide +kernel
theorem mD_Se_hideNothing_34 : decode mB_Se_hideNothing 34 = .ok (.iload_n 3, 1) := by decide +kernel
theorem mD_Se_hideNothing_35 : decode mB_Se_hideNothing 35 = .ok (.bipush 32, 2) := by decide +kernel
theorem mD_Se_hideNothing_37 : decode mB_Se_hideNothing 37 = .ok (.if_icmp .ge 24, 3) := by decide +kernel
theorem mD_Se_hideNothing_40 : decode mB_Se_hideNothing 40 = .ok (.aload_n 0, 1) := by decide +kernel
theorem mD_Se_hideNothing_41 : decode mB_Se_hideNothing 41 = .ok (.getfield 15, 3) := by decide +kernel
theorem mD_Se_hideNothing_44 : decode mB_Se_hideNothing 44 = .ok (.iload_n 3, 1) := by decide +kernel
theorem mD_Se_hideNothing_45 : decode mB_Se_hideNothing 45 = .ok (.iaload, 1) := by decide +kernel
theorem mD_Se_hideNothing_46 : decode mB_Se_hideNothing 46 = .ok (.iload_n 3, 1) := by decide +kernel
theorem mD_Se_hideNothing_47 : decode mB_Se_hideNothing 47 = .ok (.aload_n 1, 1) := by decide +kernel
theorem mD_Se_hideNothing_48 : decode mB_Se_hideNothing 48 = .ok (.iconst 0, 1) := by decide +kernel
theorem mD_Se_hideNothing_49 : decode mB_Se_hideNothing 49 = .ok (.aload_n 1, 1) := by decide +kernel
theorem mD_Se_hideNothing_50 : decode mB_Se_hideNothing 50 = .ok (.bipush 32, 2) := by decide +kernel
theorem mD_Se_hideNothing_52 : decode mB_Se_hideNothing 52 = .ok (.invokestatic 32, 3) := by decide +kernel
theorem mD_Se_hideNothing_55 : decode mB_Se_hideNothing 55 = .ok (.iinc 3 1, 3) := by decide +kernel
theorem mD_Se_hideNothing_58 : decode mB_Se_hideNothing 58 = .ok (.goto (-24), 3) := by decide +kernel
theorem mD_Se_hideNothing_61 : decode mB_Se_hideNothing 61 = .ok (.return_, 1) := by decide +kernel
theorem mD_So_init_0 : decode mB_So_init 0 = .ok (.aload_n 0, 1) := by decide +kernel
theorem mD_So_init_1 : decode mB_So_init 1 = .ok (.invokespecial 1, 3) := by decide +kernel
theorem mD_So_init_4 : decode mB_So_init 4 = .ok (.return_, 1) := by decide +kernel
theorem mD_So_restart_0 : decode mB_So_restart 0 = .ok (.aload_n 0, 1) := by decide +kernel
theorem mD_So_restart_1 : decode mB_So_restart 1 = .ok (.iload_n 1, 1) := by decide +kernel
theorem mD_So_restart_2 : decode mB_So_restart 2 = .ok (.i2l, 1) := by decide +kernel
theorem mD_So_restart_3 : decode mB_So_restart 3 = .ok (.putfield 7, 3) := by decide +kernel
theorem mD_So_restart_6 : decode mB_So_restart 6 = .ok (.return_, 1) := by decide +kernel
theorem mD_So_draw_0 : decode mB_So_draw 0 = .ok (.aload_n 0, 1) := by decide +kernel
theorem mD_So_draw_1 : decode mB_So_draw 1 = .ok (.dup, 1) := by decide +kernel
theorem mD_So_draw_2 : decode mB_So_draw 2 = .ok (.getfield 7, 3) := by decide +kernel
theorem mD_So_draw_5 : decode mB_So_draw 5 = .ok (.ldc2_w 13, 3) := by decide +kernel
theorem mD_So_draw_8 : decode mB_So_draw 8 = .ok (.ladd, 1) := by decide +kernel
theorem mD_So_draw_9 : decode mB_So_draw 9 = .ok (.putfield 7, 3) := by decide +kernel
theorem mD_So_draw_12 : decode mB_So_draw 12 = .ok (.aload_n 0, 1) := by decide +kernel
theorem mD_So_draw_13 : decode mB_So_draw 13 = .ok (.getfield 7, 3) := by decide +kernel
theorem mD_So_draw_16 : decode mB_So_draw 16 = .ok (.aload_n 0, 1) := by decide +kernel
theorem mD_So_draw_17 : decode mB_So_draw 17 = .ok (.getfield 7, 3) := by decide +kernel
theorem mD_So_draw_20 : decode mB_So_draw 20 = .ok (.bipush 30, 2) := by decide +kernel
theorem mD_So_draw_22 : decode mB_So_draw 22 = .ok (.lushr, 1) := by decide +kernel
theorem mD_So_draw_23 : decode mB_So_draw 23 = .ok (.lxor, 1) := by decide +kernel
theorem mD_So_draw_24 : decode mB_So_draw 24 = .ok (.ldc2_w 15, 3) := by decide +kernel
theorem mD_So_draw_27 : decode mB_So_draw 27 = .ok (.lmul, 1) := by decide +kernel
theorem mD_So_draw_28 : decode mB_So_draw 28 = .ok (.lstore_n 1, 1) := by decide +kernel
theorem mD_So_draw_29 : decode mB_So_draw 29 = .ok (.lload_n 1, 1) := by decide +kernel
theorem mD_So_draw_30 : decode mB_So_draw 30 = .ok (.lload_n 1, 1) := by decide +kernel
theorem mD_So_draw_31 : decode mB_So_draw 31 = .ok (.bipush 27, 2) := by decide +kernel
theorem mD_So_draw_33 : decode mB_So_draw 33 = .ok (.lushr, 1) := by decide +kernel
theorem mD_So_draw_34 : decode mB_So_draw 34 = .ok (.lxor, 1) := by decide +kernel
theorem mD_So_draw_35 : decode mB_So_draw 35 = .ok (.ldc2_w 17, 3) := by decide +kernel
theorem mD_So_draw_38 : decode mB_So_draw 38 = .ok (.lmul, 1) := by decide +kernel
theorem mD_So_draw_39 : decode mB_So_draw 39 = .ok (.lstore_n 1, 1) := by decide +kernel
theorem mD_So_draw_40 : decode mB_So_draw 40 = .ok (.lload_n 1, 1) := by decide +kernel
theorem mD_So_draw_41 : decode mB_So_draw 41 = .ok (.bipush 32, 2) := by decide +kernel
theorem mD_So_draw_43 : decode mB_So_draw 43 = .ok (.lushr, 1) := by decide +kernel
theorem mD_So_draw_44 : decode mB_So_draw 44 = .ok (.l2i, 1) := by decide +kernel
theorem mD_So_draw_45 : decode mB_So_draw 45 = .ok (.ireturn, 1) := by decide +kernel
theorem mD_So_drawNoise_0 : decode mB_So_drawNoise 0 = .ok (.aload_n 0, 1) := by decide +kernel
theorem mD_So_drawNoise_1 : decode mB_So_drawNoise 1 = .ok (.invokevirtual 19, 3) := by decide +kernel
theorem mD_So_drawNoise_4 : decode mB_So_drawNoise 4 = .ok (.bipush 32, 2) := by decide +kernel
theorem mD_So_drawNoise_6 : decode mB_So_drawNoise 6 = .ok (.iload_n 1, 1) := by decide +kernel
theorem mD_So_drawNoise_7 : decode mB_So_drawNoise 7 = .ok (.isub, 1) := by decide +kernel
theorem mD_So_drawNoise_8 : decode mB_So_drawNoise 8 = .ok (.iushr, 1) := by decide +kernel
theorem mD_So_drawNoise_9 : decode mB_So_drawNoise 9 = .ok (.iconst 1, 1) := by decide +kernel
theorem mD_So_drawNoise_10 : decode mB_So_drawNoise 10 = .ok (.iload_n 1, 1) := by decide +kernel
theorem mD_So_drawNoise_11 : decode mB_So_drawNoise 11 = .ok (.iconst 1, 1) := by decide +kernel
theorem mD_So_drawNoise_12 : decode mB_So_drawNoise 12 = .ok (.isub, 1) := by decide +kernel
theorem mD_So_drawNoise_13 : decode mB_So_drawNoise 13 = .ok (.ishl, 1) := by decide +kernel
theorem mD_So_drawNoise_14 : decode mB_So_drawNoise 14 = .ok (.isub, 1) := by decide +kernel
theorem mD_So_drawNoise_15 : decode mB_So_drawNoise 15 = .ok (.ireturn, 1) := by decide +kernel
theorem mD_Wo_init_0 : decode mB_Wo_init 0 = .ok (.aload_n 0, 1) := by decide +kernel
theorem mD_Wo_init_1 : decode mB_Wo_init 1 = .ok (.invokespecial 3, 3) := by decide +kernel
theorem mD_Wo_init_4 : decode mB_Wo_init 4 = .ok (.aload_n 0, 1) := by decide +kernel
theorem mD_Wo_init_5 : decode mB_Wo_init 5 = .ok (.aload_n 1, 1) := by decide +kernel
theorem mD_Wo_init_6 : decode mB_Wo_init 6 = .ok (.putfield 9, 3) := by decide +kernel
theorem mD_Wo_init_9 : decode mB_Wo_init 9 = .ok (.aload_n 0, 1) := by decide +kernel
theorem mD_Wo_init_10 : decode mB_Wo_init 10 = .ok (.bipush 9, 2) := by decide +kernel
theorem mD_Wo_init_12 : decode mB_Wo_init 12 = .ok (.newarray .int, 2) := by decide +kernel
theorem mD_Wo_init_14 : decode mB_Wo_init 14 = .ok (.putfield 17, 3) := by decide +kernel
theorem mD_Wo_init_17 : decode mB_Wo_init 17 = .ok (.return_, 1) := by decide +kernel
theorem mD_Wo_work_0 : decode mB_Wo_work 0 = .ok (.iconst 0, 1) := by decide +kernel
theorem mD_Wo_work_1 : decode mB_Wo_work 1 = .ok (.istore 5, 2) := by decide +kernel
theorem mD_Wo_work_3 : decode mB_Wo_work 3 = .ok (.iload 5, 2) := by decide +kernel
theorem mD_Wo_work_5 : decode mB_Wo_work 5 = .ok (.bipush 9, 2) := by decide +kernel
theorem mD_Wo_work_7 : decode mB_Wo_work 7 = .ok (.if_icmp .ge 37, 3) := by decide +kernel
theorem mD_Wo_work_10 : decode mB_Wo_work 10 = .ok (.aload_n 0, 1) := by decide +kernel
theorem mD_Wo_work_11 : decode mB_Wo_work 11 = .ok (.getfield 17, 3) := by decide +kernel
theorem mD_Wo_work_14 : decode mB_Wo_work 14 = .ok (.iload 5, 2) := by decide +kernel
theorem mD_Wo_work_16 : decode mB_Wo_work 16 = .ok (.getstatic 21, 3) := by decide +kernel
theorem mD_Wo_work_19 : decode mB_Wo_work 19 = .ok (.iload_n 1, 1) := by decide +kernel
theorem mD_Wo_work_20 : decode mB_Wo_work 20 = .ok (.iaload, 1) := by decide +kernel
theorem mD_Wo_work_21 : decode mB_Wo_work 21 = .ok (.aload_n 2, 1) := by decide +kernel
theorem mD_Wo_work_22 : decode mB_Wo_work 22 = .ok (.iload 5, 2) := by decide +kernel
theorem mD_Wo_work_24 : decode mB_Wo_work 24 = .ok (.iaload, 1) := by decide +kernel
theorem mD_Wo_work_25 : decode mB_Wo_work 25 = .ok (.imul, 1) := by decide +kernel
theorem mD_Wo_work_26 : decode mB_Wo_work 26 = .ok (.getstatic 24, 3) := by decide +kernel
theorem mD_Wo_work_29 : decode mB_Wo_work 29 = .ok (.iload_n 1, 1) := by decide +kernel
theorem mD_Wo_work_30 : decode mB_Wo_work 30 = .ok (.iaload, 1) := by decide +kernel
theorem mD_Wo_work_31 : decode mB_Wo_work 31 = .ok (.aload_n 3, 1) := by decide +kernel
theorem mD_Wo_work_32 : decode mB_Wo_work 32 = .ok (.iload 5, 2) := by decide +kernel
theorem mD_Wo_work_34 : decode mB_Wo_work 34 = .ok (.iaload, 1) := by decide +kernel
theorem mD_Wo_work_35 : decode mB_Wo_work 35 = .ok (.imul, 1) := by decide +kernel
theorem mD_Wo_work_36 : decode mB_Wo_work 36 = .ok (.iadd, 1) := by decide +kernel
theorem mD_Wo_work_37 : decode mB_Wo_work 37 = .ok (.iastore, 1) := by decide +kernel
theorem mD_Wo_work_38 : decode mB_Wo_work 38 = .ok (.iinc 5 1, 3) := by decide +kernel
theorem mD_Wo_work_41 : decode mB_Wo_work 41 = .ok (.goto (-38), 3) := by decide +kernel
theorem mD_Wo_work_44 : decode mB_Wo_work 44 = .ok (.aload_n 0, 1) := by decide +kernel
theorem mD_Wo_work_45 : decode mB_Wo_work 45 = .ok (.getfield 17, 3) := by decide +kernel
theorem mD_Wo_work_48 : decode mB_Wo_work 48 = .ok (.bipush 8, 2) := by decide +kernel
theorem mD_Wo_work_50 : decode mB_Wo_work 50 = .ok (.dup2, 1) := by decide +kernel
theorem mD_Wo_work_51 : decode mB_Wo_work 51 = .ok (.iaload, 1) := by decide +kernel
theorem mD_Wo_work_52 : decode mB_Wo_work 52 = .ok (.getstatic 27, 3) := by decide +kernel
theorem mD_Wo_work_55 : decode mB_Wo_work 55 = .ok (.iload_n 1, 1) := by decide +kernel
theorem mD_Wo_work_56 : decode mB_Wo_work 56 = .ok (.iaload, 1) := by decide +kernel
theorem mD_Wo_work_57 : decode mB_Wo_work 57 = .ok (.ldc 30, 2) := by decide +kernel
theorem mD_Wo_work_59 : decode mB_Wo_work 59 = .ok (.imul, 1) := by decide +kernel
theorem mD_Wo_work_60 : decode mB_Wo_work 60 = .ok (.iadd, 1) := by decide +kernel
theorem mD_Wo_work_61 : decode mB_Wo_work 61 = .ok (.iastore, 1) := by decide +kernel
theorem mD_Wo_work_62 : decode mB_Wo_work 62 = .ok (.aload_n 0, 1) := by decide +kernel
theorem mD_Wo_work_63 : decode mB_Wo_work 63 = .ok (.getfield 9, 3) := by decide +kernel
theorem mD_Wo_work_66 : decode mB_Wo_work 66 = .ok (.aload_n 0, 1) := by decide +kernel
theorem mD_Wo_work_67 : decode mB_Wo_work 67 = .ok (.getfield 17, 3) := by decide +kernel
theorem mD_Wo_work_70 : decode mB_Wo_work 70 = .ok (.aload 4, 2) := by decide +kernel
theorem mD_Wo_work_72 : decode mB_Wo_work 72 = .ok (.invokevirtual 31, 3) := by decide +kernel
theorem mD_Wo_work_75 : decode mB_Wo_work 75 = .ok (.return_, 1) := by decide +kernel
theorem mD_La_bit_0 : decode mB_La_bit 0 = .ok (.aload_n 2, 1) := by decide +kernel
theorem mD_La_bit_1 : decode mB_La_bit 1 = .ok (.iconst 0, 1) := by decide +kernel
theorem mD_La_bit_2 : decode mB_La_bit 2 = .ok (.aload_n 0, 1) := by decide +kernel
theorem mD_La_bit_3 : decode mB_La_bit 3 = .ok (.iload_n 1, 1) := by decide +kernel
theorem mD_La_bit_4 : decode mB_La_bit 4 = .ok (.invokevirtual 7, 3) := by decide +kernel
theorem mD_La_bit_7 : decode mB_La_bit 7 = .ok (.i2l, 1) := by decide +kernel
theorem mD_La_bit_8 : decode mB_La_bit 8 = .ok (.lastore, 1) := by decide +kernel
theorem mD_La_bit_9 : decode mB_La_bit 9 = .ok (.goto 6, 3) := by decide +kernel
theorem mD_La_bit_12 : decode mB_La_bit 12 = .ok (.astore_n 3, 1) := by decide +kernel
theorem mD_La_bit_13 : decode mB_La_bit 13 = .ok (.iconst 1, 1) := by decide +kernel
theorem mD_La_bit_14 : decode mB_La_bit 14 = .ok (.ireturn, 1) := by decide +kernel
theorem mD_La_bit_15 : decode mB_La_bit 15 = .ok (.iconst 0, 1) := by decide +kernel
theorem mD_La_bit_16 : decode mB_La_bit 16 = .ok (.ireturn, 1) := by decide +kernel
theorem mD_La_drop_0 : decode mB_La_drop 0 = .ok (.aload_n 2, 1) := by decide +kernel
theorem mD_La_drop_1 : decode mB_La_drop 1 = .ok (.iconst 0, 1) := by decide +kernel
theorem mD_La_drop_2 : decode mB_La_drop 2 = .ok (.aload_n 0, 1) := by decide +kernel
theorem mD_La_drop_3 : decode mB_La_drop 3 = .ok (.iload_n 1, 1) := by decide +kernel
theorem mD_La_drop_4 : decode mB_La_drop 4 = .ok (.invokevirtual 15, 3) := by decide +kernel
theorem mD_La_drop_7 : decode mB_La_drop 7 = .ok (.i2l, 1) := by decide +kernel
theorem mD_La_drop_8 : decode mB_La_drop 8 = .ok (.lastore, 1) := by decide +kernel
theorem mD_La_drop_9 : decode mB_La_drop 9 = .ok (.goto 6, 3) := by decide +kernel
theorem mD_La_drop_12 : decode mB_La_drop 12 = .ok (.astore_n 3, 1) := by decide +kernel
theorem mD_La_drop_13 : decode mB_La_drop 13 = .ok (.iconst 1, 1) := by decide +kernel
theorem mD_La_drop_14 : decode mB_La_drop 14 = .ok (.ireturn, 1) := by decide +kernel
theorem mD_La_drop_15 : decode mB_La_drop 15 = .ok (.iconst 0, 1) := by decide +kernel
theorem mD_La_drop_16 : decode mB_La_drop 16 = .ok (.ireturn, 1) := by decide +kernel
theorem mD_La_not_0 : decode mB_La_not 0 = .ok (.aload_n 2, 1) := by decide +kernel
theorem mD_La_not_1 : decode mB_La_not 1 = .ok (.iconst 0, 1) := by decide +kernel
theorem mD_La_not_2 : decode mB_La_not 2 = .ok (.aload_n 0, 1) := by decide +kernel
theorem mD_La_not_3 : decode mB_La_not 3 = .ok (.iload_n 1, 1) := by decide +kernel
theorem mD_La_not_4 : decode mB_La_not 4 = .ok (.invokevirtual 21, 3) := by decide +kernel
theorem mD_La_not_7 : decode mB_La_not 7 = .ok (.i2l, 1) := by decide +kernel
theorem mD_La_not_8 : decode mB_La_not 8 = .ok (.lastore, 1) := by decide +kernel
theorem mD_La_not_9 : decode mB_La_not 9 = .ok (.goto 9, 3) := by decide +kernel
theorem mD_La_not_12 : decode mB_La_not 12 = .ok (.astore_n 3, 1) := by decide +kernel
theorem mD_La_not_13 : decode mB_La_not 13 = .ok (.iconst 1, 1) := by decide +kernel
theorem mD_La_not_14 : decode mB_La_not 14 = .ok (.ireturn, 1) := by decide +kernel
theorem mD_La_not_15 : decode mB_La_not 15 = .ok (.astore_n 3, 1) := by decide +kernel
theorem mD_La_not_16 : decode mB_La_not 16 = .ok (.iconst 2, 1) := by decide +kernel
theorem mD_La_not_17 : decode mB_La_not 17 = .ok (.ireturn, 1) := by decide +kernel
theorem mD_La_not_18 : decode mB_La_not 18 = .ok (.iconst 0, 1) := by decide +kernel
theorem mD_La_not_19 : decode mB_La_not 19 = .ok (.ireturn, 1) := by decide +kernel
theorem mD_La_blur_0 : decode mB_La_blur 0 = .ok (.aload_n 3, 1) := by decide +kernel
theorem mD_La_blur_1 : decode mB_La_blur 1 = .ok (.iconst 0, 1) := by decide +kernel
theorem mD_La_blur_2 : decode mB_La_blur 2 = .ok (.aload_n 0, 1) := by decide +kernel
theorem mD_La_blur_3 : decode mB_La_blur 3 = .ok (.iload_n 1, 1) := by decide +kernel
theorem mD_La_blur_4 : decode mB_La_blur 4 = .ok (.iload_n 2, 1) := by decide +kernel
theorem mD_La_blur_5 : decode mB_La_blur 5 = .ok (.invokevirtual 24, 3) := by decide +kernel
theorem mD_La_blur_8 : decode mB_La_blur 8 = .ok (.i2l, 1) := by decide +kernel
theorem mD_La_blur_9 : decode mB_La_blur 9 = .ok (.lastore, 1) := by decide +kernel
theorem mD_La_blur_10 : decode mB_La_blur 10 = .ok (.goto 15, 3) := by decide +kernel
theorem mD_La_blur_13 : decode mB_La_blur 13 = .ok (.astore 4, 2) := by decide +kernel
theorem mD_La_blur_15 : decode mB_La_blur 15 = .ok (.iconst 1, 1) := by decide +kernel
theorem mD_La_blur_16 : decode mB_La_blur 16 = .ok (.ireturn, 1) := by decide +kernel
theorem mD_La_blur_17 : decode mB_La_blur 17 = .ok (.astore 4, 2) := by decide +kernel
theorem mD_La_blur_19 : decode mB_La_blur 19 = .ok (.iconst 2, 1) := by decide +kernel
theorem mD_La_blur_20 : decode mB_La_blur 20 = .ok (.ireturn, 1) := by decide +kernel
theorem mD_La_blur_21 : decode mB_La_blur 21 = .ok (.astore 4, 2) := by decide +kernel
theorem mD_La_blur_23 : decode mB_La_blur 23 = .ok (.iconst 3, 1) := by decide +kernel
theorem mD_La_blur_24 : decode mB_La_blur 24 = .ok (.ireturn, 1) := by decide +kernel
theorem mD_La_blur_25 : decode mB_La_blur 25 = .ok (.iconst 0, 1) := by decide +kernel
theorem mD_La_blur_26 : decode mB_La_blur 26 = .ok (.ireturn, 1) := by decide +kernel
theorem mD_La_pile_0 : decode mB_La_pile 0 = .ok (.aload_n 3, 1) := by decide +kernel
theorem mD_La_pile_1 : decode mB_La_pile 1 = .ok (.iconst 0, 1) := by decide +kernel
theorem mD_La_pile_2 : decode mB_La_pile 2 = .ok (.aload_n 0, 1) := by decide +kernel
theorem mD_La_pile_3 : decode mB_La_pile 3 = .ok (.iload_n 1, 1) := by decide +kernel
theorem mD_La_pile_4 : decode mB_La_pile 4 = .ok (.iload_n 2, 1) := by decide +kernel
theorem mD_La_pile_5 : decode mB_La_pile 5 = .ok (.invokevirtual 30, 3) := by decide +kernel
theorem mD_La_pile_8 : decode mB_La_pile 8 = .ok (.i2l, 1) := by decide +kernel
theorem mD_La_pile_9 : decode mB_La_pile 9 = .ok (.lastore, 1) := by decide +kernel
theorem mD_La_pile_10 : decode mB_La_pile 10 = .ok (.goto 15, 3) := by decide +kernel
theorem mD_La_pile_13 : decode mB_La_pile 13 = .ok (.astore 4, 2) := by decide +kernel
theorem mD_La_pile_15 : decode mB_La_pile 15 = .ok (.iconst 1, 1) := by decide +kernel
theorem mD_La_pile_16 : decode mB_La_pile 16 = .ok (.ireturn, 1) := by decide +kernel
theorem mD_La_pile_17 : decode mB_La_pile 17 = .ok (.astore 4, 2) := by decide +kernel
theorem mD_La_pile_19 : decode mB_La_pile 19 = .ok (.iconst 2, 1) := by decide +kernel
theorem mD_La_pile_20 : decode mB_La_pile 20 = .ok (.ireturn, 1) := by decide +kernel
theorem mD_La_pile_21 : decode mB_La_pile 21 = .ok (.astore 4, 2) := by decide +kernel
theorem mD_La_pile_23 : decode mB_La_pile 23 = .ok (.iconst 3, 1) := by decide +kernel
theorem mD_La_pile_24 : decode mB_La_pile 24 = .ok (.ireturn, 1) := by decide +kernel
theorem mD_La_pile_25 : decode mB_La_pile 25 = .ok (.iconst 0, 1) := by decide +kernel
theorem mD_La_pile_26 : decode mB_La_pile 26 = .ok (.ireturn, 1) := by decide +kernel
theorem mD_La_gate_0 : decode mB_La_gate 0 = .ok (.aload 4, 2) := by decide +kernel
theorem mD_La_gate_2 : decode mB_La_gate 2 = .ok (.iconst 0, 1) := by decide +kernel
theorem mD_La_gate_3 : decode mB_La_gate 3 = .ok (.aload_n 0, 1) := by decide +kernel
theorem mD_La_gate_4 : decode mB_La_gate 4 = .ok (.iload_n 1, 1) := by decide +kernel
theorem mD_La_gate_5 : decode mB_La_gate 5 = .ok (.iload_n 2, 1) := by decide +kernel
theorem mD_La_gate_6 : decode mB_La_gate 6 = .ok (.iload_n 3, 1) := by decide +kernel
theorem mD_La_gate_7 : decode mB_La_gate 7 = .ok (.invokevirtual 33, 3) := by decide +kernel
theorem mD_La_gate_10 : decode mB_La_gate 10 = .ok (.i2l, 1) := by decide +kernel
theorem mD_La_gate_11 : decode mB_La_gate 11 = .ok (.lastore, 1) := by decide +kernel
theorem mD_La_gate_12 : decode mB_La_gate 12 = .ok (.goto 11, 3) := by decide +kernel
theorem mD_La_gate_15 : decode mB_La_gate 15 = .ok (.astore 5, 2) := by decide +kernel
theorem mD_La_gate_17 : decode mB_La_gate 17 = .ok (.iconst 1, 1) := by decide +kernel
theorem mD_La_gate_18 : decode mB_La_gate 18 = .ok (.ireturn, 1) := by decide +kernel
theorem mD_La_gate_19 : decode mB_La_gate 19 = .ok (.astore 5, 2) := by decide +kernel
theorem mD_La_gate_21 : decode mB_La_gate 21 = .ok (.iconst 2, 1) := by decide +kernel
theorem mD_La_gate_22 : decode mB_La_gate 22 = .ok (.ireturn, 1) := by decide +kernel
theorem mD_La_gate_23 : decode mB_La_gate 23 = .ok (.iconst 0, 1) := by decide +kernel
theorem mD_La_gate_24 : decode mB_La_gate 24 = .ok (.ireturn, 1) := by decide +kernel
theorem mD_La_choose_0 : decode mB_La_choose 0 = .ok (.aload 4, 2) := by decide +kernel
theorem mD_La_choose_2 : decode mB_La_choose 2 = .ok (.iconst 0, 1) := by decide +kernel
theorem mD_La_choose_3 : decode mB_La_choose 3 = .ok (.aload_n 0, 1) := by decide +kernel
theorem mD_La_choose_4 : decode mB_La_choose 4 = .ok (.iload_n 1, 1) := by decide +kernel
theorem mD_La_choose_5 : decode mB_La_choose 5 = .ok (.iload_n 2, 1) := by decide +kernel
theorem mD_La_choose_6 : decode mB_La_choose 6 = .ok (.iload_n 3, 1) := by decide +kernel
theorem mD_La_choose_7 : decode mB_La_choose 7 = .ok (.invokevirtual 37, 3) := by decide +kernel
theorem mD_La_choose_10 : decode mB_La_choose 10 = .ok (.i2l, 1) := by decide +kernel
theorem mD_La_choose_11 : decode mB_La_choose 11 = .ok (.lastore, 1) := by decide +kernel
theorem mD_La_choose_12 : decode mB_La_choose 12 = .ok (.goto 11, 3) := by decide +kernel
theorem mD_La_choose_15 : decode mB_La_choose 15 = .ok (.astore 5, 2) := by decide +kernel
theorem mD_La_choose_17 : decode mB_La_choose 17 = .ok (.iconst 1, 1) := by decide +kernel
theorem mD_La_choose_18 : decode mB_La_choose 18 = .ok (.ireturn, 1) := by decide +kernel
theorem mD_La_choose_19 : decode mB_La_choose 19 = .ok (.astore 5, 2) := by decide +kernel
theorem mD_La_choose_21 : decode mB_La_choose 21 = .ok (.iconst 2, 1) := by decide +kernel
theorem mD_La_choose_22 : decode mB_La_choose 22 = .ok (.ireturn, 1) := by decide +kernel
theorem mD_La_choose_23 : decode mB_La_choose 23 = .ok (.iconst 0, 1) := by decide +kernel
theorem mD_La_choose_24 : decode mB_La_choose 24 = .ok (.ireturn, 1) := by decide +kernel
theorem mD_La_open_0 : decode mB_La_open 0 = .ok (.aload_n 2, 1) := by decide +kernel
theorem mD_La_open_1 : decode mB_La_open 1 = .ok (.iconst 0, 1) := by decide +kernel
theorem mD_La_open_2 : decode mB_La_open 2 = .ok (.aload_n 0, 1) := by decide +kernel
theorem mD_La_open_3 : decode mB_La_open 3 = .ok (.iload_n 1, 1) := by decide +kernel
theorem mD_La_open_4 : decode mB_La_open 4 = .ok (.invokevirtual 40, 3) := by decide +kernel
theorem mD_La_open_7 : decode mB_La_open 7 = .ok (.i2l, 1) := by decide +kernel
theorem mD_La_open_8 : decode mB_La_open 8 = .ok (.lastore, 1) := by decide +kernel
theorem mD_La_open_9 : decode mB_La_open 9 = .ok (.goto 9, 3) := by decide +kernel
theorem mD_La_open_12 : decode mB_La_open 12 = .ok (.astore_n 3, 1) := by decide +kernel
theorem mD_La_open_13 : decode mB_La_open 13 = .ok (.iconst 1, 1) := by decide +kernel
theorem mD_La_open_14 : decode mB_La_open 14 = .ok (.ireturn, 1) := by decide +kernel
theorem mD_La_open_15 : decode mB_La_open 15 = .ok (.astore_n 3, 1) := by decide +kernel
theorem mD_La_open_16 : decode mB_La_open 16 = .ok (.iconst 2, 1) := by decide +kernel
theorem mD_La_open_17 : decode mB_La_open 17 = .ok (.ireturn, 1) := by decide +kernel
theorem mD_La_open_18 : decode mB_La_open 18 = .ok (.iconst 0, 1) := by decide +kernel
theorem mD_La_open_19 : decode mB_La_open 19 = .ok (.ireturn, 1) := by decide +kernel
theorem mD_La_bound_0 : decode mB_La_bound 0 = .ok (.aload_n 2, 1) := by decide +kernel
theorem mD_La_bound_1 : decode mB_La_bound 1 = .ok (.iconst 0, 1) := by decide +kernel
theorem mD_La_bound_2 : decode mB_La_bound 2 = .ok (.aload_n 0, 1) := by decide +kernel
theorem mD_La_bound_3 : decode mB_La_bound 3 = .ok (.iload_n 1, 1) := by decide +kernel
theorem mD_La_bound_4 : decode mB_La_bound 4 = .ok (.invokevirtual 43, 3) := by decide +kernel
theorem mD_La_bound_7 : decode mB_La_bound 7 = .ok (.i2l, 1) := by decide +kernel
theorem mD_La_bound_8 : decode mB_La_bound 8 = .ok (.lastore, 1) := by decide +kernel
theorem mD_La_bound_9 : decode mB_La_bound 9 = .ok (.goto 6, 3) := by decide +kernel
theorem mD_La_bound_12 : decode mB_La_bound 12 = .ok (.astore_n 3, 1) := by decide +kernel
theorem mD_La_bound_13 : decode mB_La_bound 13 = .ok (.iconst 1, 1) := by decide +kernel
theorem mD_La_bound_14 : decode mB_La_bound 14 = .ok (.ireturn, 1) := by decide +kernel
theorem mD_La_bound_15 : decode mB_La_bound 15 = .ok (.iconst 0, 1) := by decide +kernel
theorem mD_La_bound_16 : decode mB_La_bound 16 = .ok (.ireturn, 1) := by decide +kernel
theorem mD_La_within_0 : decode mB_La_within 0 = .ok (.aload_n 2, 1) := by decide +kernel
theorem mD_La_within_1 : decode mB_La_within 1 = .ok (.iconst 0, 1) := by decide +kernel
theorem mD_La_within_2 : decode mB_La_within 2 = .ok (.aload_n 0, 1) := by decide +kernel
theorem mD_La_within_3 : decode mB_La_within 3 = .ok (.iload_n 1, 1) := by decide +kernel
theorem mD_La_within_4 : decode mB_La_within 4 = .ok (.invokevirtual 46, 3) := by decide +kernel
theorem mD_La_within_7 : decode mB_La_within 7 = .ok (.ifCond .eq 7, 3) := by decide +kernel
theorem mD_La_within_10 : decode mB_La_within 10 = .ok (.lconst 1, 1) := by decide +kernel
theorem mD_La_within_11 : decode mB_La_within 11 = .ok (.goto 4, 3) := by decide +kernel
theorem mD_La_within_14 : decode mB_La_within 14 = .ok (.lconst 0, 1) := by decide +kernel
theorem mD_La_within_15 : decode mB_La_within 15 = .ok (.lastore, 1) := by decide +kernel
theorem mD_La_within_16 : decode mB_La_within 16 = .ok (.goto 6, 3) := by decide +kernel
theorem mD_La_within_19 : decode mB_La_within 19 = .ok (.astore_n 3, 1) := by decide +kernel
theorem mD_La_within_20 : decode mB_La_within 20 = .ok (.iconst 1, 1) := by decide +kernel
theorem mD_La_within_21 : decode mB_La_within 21 = .ok (.ireturn, 1) := by decide +kernel
theorem mD_La_within_22 : decode mB_La_within 22 = .ok (.iconst 0, 1) := by decide +kernel
theorem mD_La_within_23 : decode mB_La_within 23 = .ok (.ireturn, 1) := by decide +kernel
theorem mD_La_line_0 : decode mB_La_line 0 = .ok (.aload 4, 2) := by decide +kernel
theorem mD_La_line_2 : decode mB_La_line 2 = .ok (.iconst 0, 1) := by decide +kernel
theorem mD_La_line_3 : decode mB_La_line 3 = .ok (.aload_n 0, 1) := by decide +kernel
theorem mD_La_line_4 : decode mB_La_line 4 = .ok (.iload_n 1, 1) := by decide +kernel
theorem mD_La_line_5 : decode mB_La_line 5 = .ok (.iload_n 2, 1) := by decide +kernel
theorem mD_La_line_6 : decode mB_La_line 6 = .ok (.iload_n 3, 1) := by decide +kernel
theorem mD_La_line_7 : decode mB_La_line 7 = .ok (.invokevirtual 50, 3) := by decide +kernel
theorem mD_La_line_10 : decode mB_La_line 10 = .ok (.i2l, 1) := by decide +kernel
theorem mD_La_line_11 : decode mB_La_line 11 = .ok (.lastore, 1) := by decide +kernel
theorem mD_La_line_12 : decode mB_La_line 12 = .ok (.goto 11, 3) := by decide +kernel
theorem mD_La_line_15 : decode mB_La_line 15 = .ok (.astore 5, 2) := by decide +kernel
theorem mD_La_line_17 : decode mB_La_line 17 = .ok (.iconst 1, 1) := by decide +kernel
theorem mD_La_line_18 : decode mB_La_line 18 = .ok (.ireturn, 1) := by decide +kernel
theorem mD_La_line_19 : decode mB_La_line 19 = .ok (.astore 5, 2) := by decide +kernel
theorem mD_La_line_21 : decode mB_La_line 21 = .ok (.iconst 2, 1) := by decide +kernel
theorem mD_La_line_22 : decode mB_La_line 22 = .ok (.ireturn, 1) := by decide +kernel
theorem mD_La_line_23 : decode mB_La_line 23 = .ok (.iconst 0, 1) := by decide +kernel
theorem mD_La_line_24 : decode mB_La_line 24 = .ok (.ireturn, 1) := by decide +kernel
theorem mD_La_play_0 : decode mB_La_play 0 = .ok (.aload_n 3, 1) := by decide +kernel
theorem mD_La_play_1 : decode mB_La_play 1 = .ok (.iconst 0, 1) := by decide +kernel
theorem mD_La_play_2 : decode mB_La_play 2 = .ok (.aload_n 0, 1) := by decide +kernel
theorem mD_La_play_3 : decode mB_La_play 3 = .ok (.iload_n 1, 1) := by decide +kernel
theorem mD_La_play_4 : decode mB_La_play 4 = .ok (.iload_n 2, 1) := by decide +kernel
theorem mD_La_play_5 : decode mB_La_play 5 = .ok (.invokevirtual 53, 3) := by decide +kernel
theorem mD_La_play_8 : decode mB_La_play 8 = .ok (.i2l, 1) := by decide +kernel
theorem mD_La_play_9 : decode mB_La_play 9 = .ok (.lastore, 1) := by decide +kernel
theorem mD_La_play_10 : decode mB_La_play 10 = .ok (.goto 15, 3) := by decide +kernel
theorem mD_La_play_13 : decode mB_La_play 13 = .ok (.astore 4, 2) := by decide +kernel
theorem mD_La_play_15 : decode mB_La_play 15 = .ok (.iconst 1, 1) := by decide +kernel
theorem mD_La_play_16 : decode mB_La_play 16 = .ok (.ireturn, 1) := by decide +kernel
theorem mD_La_play_17 : decode mB_La_play 17 = .ok (.astore 4, 2) := by decide +kernel
theorem mD_La_play_19 : decode mB_La_play 19 = .ok (.iconst 2, 1) := by decide +kernel
theorem mD_La_play_20 : decode mB_La_play 20 = .ok (.ireturn, 1) := by decide +kernel
theorem mD_La_play_21 : decode mB_La_play 21 = .ok (.astore 4, 2) := by decide +kernel
theorem mD_La_play_23 : decode mB_La_play 23 = .ok (.iconst 3, 1) := by decide +kernel
theorem mD_La_play_24 : decode mB_La_play 24 = .ok (.ireturn, 1) := by decide +kernel
theorem mD_La_play_25 : decode mB_La_play 25 = .ok (.iconst 0, 1) := by decide +kernel
theorem mD_La_play_26 : decode mB_La_play 26 = .ok (.ireturn, 1) := by decide +kernel
theorem mD_La_count_0 : decode mB_La_count 0 = .ok (.aload_n 2, 1) := by decide +kernel
theorem mD_La_count_1 : decode mB_La_count 1 = .ok (.iconst 0, 1) := by decide +kernel
theorem mD_La_count_2 : decode mB_La_count 2 = .ok (.aload_n 0, 1) := by decide +kernel
theorem mD_La_count_3 : decode mB_La_count 3 = .ok (.iload_n 1, 1) := by decide +kernel
theorem mD_La_count_4 : decode mB_La_count 4 = .ok (.invokevirtual 56, 3) := by decide +kernel
theorem mD_La_count_7 : decode mB_La_count 7 = .ok (.i2l, 1) := by decide +kernel
theorem mD_La_count_8 : decode mB_La_count 8 = .ok (.lastore, 1) := by decide +kernel
theorem mD_La_count_9 : decode mB_La_count 9 = .ok (.goto 6, 3) := by decide +kernel
theorem mD_La_count_12 : decode mB_La_count 12 = .ok (.astore_n 3, 1) := by decide +kernel
theorem mD_La_count_13 : decode mB_La_count 13 = .ok (.iconst 1, 1) := by decide +kernel
theorem mD_La_count_14 : decode mB_La_count 14 = .ok (.ireturn, 1) := by decide +kernel
theorem mD_La_count_15 : decode mB_La_count 15 = .ok (.iconst 0, 1) := by decide +kernel
theorem mD_La_count_16 : decode mB_La_count 16 = .ok (.ireturn, 1) := by decide +kernel
