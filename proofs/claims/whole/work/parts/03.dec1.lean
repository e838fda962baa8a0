theorem mD_Mo_pile_0 : decode mB_Mo_pile 0 = .ok (.aload_n 0, 1) := by decide +kernel
theorem mD_Mo_pile_1 : decode mB_Mo_pile 1 = .ok (.iload_n 1, 1) := by decide +kernel
theorem mD_Mo_pile_2 : decode mB_Mo_pile 2 = .ok (.invokevirtual 48, 3) := by decide +kernel
theorem mD_Mo_pile_5 : decode mB_Mo_pile 5 = .ok (.istore_n 3, 1) := by decide +kernel
theorem mD_Mo_pile_6 : decode mB_Mo_pile 6 = .ok (.iload_n 3, 1) := by decide +kernel
theorem mD_Mo_pile_7 : decode mB_Mo_pile 7 = .ok (.ifCond .eq 22, 3) := by decide +kernel
theorem mD_Mo_pile_10 : decode mB_Mo_pile 10 = .ok (.aload_n 0, 1) := by decide +kernel
theorem mD_Mo_pile_11 : decode mB_Mo_pile 11 = .ok (.getfield 16, 3) := by decide +kernel
theorem mD_Mo_pile_14 : decode mB_Mo_pile 14 = .ok (.iload_n 1, 1) := by decide +kernel
theorem mD_Mo_pile_15 : decode mB_Mo_pile 15 = .ok (.iaload, 1) := by decide +kernel
theorem mD_Mo_pile_16 : decode mB_Mo_pile 16 = .ok (.i2l, 1) := by decide +kernel
theorem mD_Mo_pile_17 : decode mB_Mo_pile 17 = .ok (.ldc2_w 60, 3) := by decide +kernel
theorem mD_Mo_pile_20 : decode mB_Mo_pile 20 = .ok (.iload_n 2, 1) := by decide +kernel
theorem mD_Mo_pile_21 : decode mB_Mo_pile 21 = .ok (.i2l, 1) := by decide +kernel
theorem mD_Mo_pile_22 : decode mB_Mo_pile 22 = .ok (.lmul, 1) := by decide +kernel
theorem mD_Mo_pile_23 : decode mB_Mo_pile 23 = .ok (.lconst 1, 1) := by decide +kernel
theorem mD_Mo_pile_24 : decode mB_Mo_pile 24 = .ok (.ladd, 1) := by decide +kernel
theorem mD_Mo_pile_25 : decode mB_Mo_pile 25 = .ok (.lmul, 1) := by decide +kernel
theorem mD_Mo_pile_26 : decode mB_Mo_pile 26 = .ok (.goto 4, 3) := by decide +kernel
theorem mD_Mo_pile_29 : decode mB_Mo_pile 29 = .ok (.lconst 0, 1) := by decide +kernel
theorem mD_Mo_pile_30 : decode mB_Mo_pile 30 = .ok (.lstore 4, 2) := by decide +kernel
theorem mD_Mo_pile_32 : decode mB_Mo_pile 32 = .ok (.aload_n 0, 1) := by decide +kernel
theorem mD_Mo_pile_33 : decode mB_Mo_pile 33 = .ok (.iload_n 3, 1) := by decide +kernel
theorem mD_Mo_pile_34 : decode mB_Mo_pile 34 = .ok (.iload_n 2, 1) := by decide +kernel
theorem mD_Mo_pile_35 : decode mB_Mo_pile 35 = .ok (.ifCond .lt 13, 3) := by decide +kernel
theorem mD_Mo_pile_38 : decode mB_Mo_pile 38 = .ok (.iload_n 2, 1) := by decide +kernel
theorem mD_Mo_pile_39 : decode mB_Mo_pile 39 = .ok (.bipush 100, 2) := by decide +kernel
theorem mD_Mo_pile_41 : decode mB_Mo_pile 41 = .ok (.if_icmp .gt 7, 3) := by decide +kernel
theorem mD_Mo_pile_44 : decode mB_Mo_pile 44 = .ok (.iconst 1, 1) := by decide +kernel
theorem mD_Mo_pile_45 : decode mB_Mo_pile 45 = .ok (.goto 4, 3) := by decide +kernel
theorem mD_Mo_pile_48 : decode mB_Mo_pile 48 = .ok (.iconst 0, 1) := by decide +kernel
theorem mD_Mo_pile_49 : decode mB_Mo_pile 49 = .ok (.lload 4, 2) := by decide +kernel
theorem mD_Mo_pile_51 : decode mB_Mo_pile 51 = .ok (.ldc2_w 54, 3) := by decide +kernel
theorem mD_Mo_pile_54 : decode mB_Mo_pile 54 = .ok (.lcmp, 1) := by decide +kernel
theorem mD_Mo_pile_55 : decode mB_Mo_pile 55 = .ok (.ifCond .ge 7, 3) := by decide +kernel
theorem mD_Mo_pile_58 : decode mB_Mo_pile 58 = .ok (.iconst 1, 1) := by decide +kernel
theorem mD_Mo_pile_59 : decode mB_Mo_pile 59 = .ok (.goto 4, 3) := by decide +kernel
theorem mD_Mo_pile_62 : decode mB_Mo_pile 62 = .ok (.iconst 0, 1) := by decide +kernel
theorem mD_Mo_pile_63 : decode mB_Mo_pile 63 = .ok (.invokevirtual 40, 3) := by decide +kernel
theorem mD_Mo_pile_66 : decode mB_Mo_pile 66 = .ok (.ifCond .eq 13, 3) := by decide +kernel
theorem mD_Mo_pile_69 : decode mB_Mo_pile 69 = .ok (.aload_n 0, 1) := by decide +kernel
theorem mD_Mo_pile_70 : decode mB_Mo_pile 70 = .ok (.iload_n 1, 1) := by decide +kernel
theorem mD_Mo_pile_71 : decode mB_Mo_pile 71 = .ok (.lload 4, 2) := by decide +kernel
theorem mD_Mo_pile_73 : decode mB_Mo_pile 73 = .ok (.invokevirtual 56, 3) := by decide +kernel
theorem mD_Mo_pile_76 : decode mB_Mo_pile 76 = .ok (.goto 4, 3) := by decide +kernel
theorem mD_Mo_pile_79 : decode mB_Mo_pile 79 = .ok (.iconst 0, 1) := by decide +kernel
theorem mD_Mo_pile_80 : decode mB_Mo_pile 80 = .ok (.ireturn, 1) := by decide +kernel
theorem mD_Mo_value_0 : decode mB_Mo_value 0 = .ok (.iload_n 0, 1) := by decide +kernel
theorem mD_Mo_value_1 : decode mB_Mo_value 1 = .ok (.tableswitch 135 0 6 #[43, 57, 71, 85, 99, 110, 121], 43) := by decide +kernel
theorem mD_Mo_value_44 : decode mB_Mo_value 44 = .ok (.iload_n 1, 1) := by decide +kernel
theorem mD_Mo_value_45 : decode mB_Mo_value 45 = .ok (.ifCond .eq 11, 3) := by decide +kernel
theorem mD_Mo_value_48 : decode mB_Mo_value 48 = .ok (.iload_n 2, 1) := by decide +kernel
theorem mD_Mo_value_49 : decode mB_Mo_value 49 = .ok (.ifCond .eq 7, 3) := by decide +kernel
theorem mD_Mo_value_52 : decode mB_Mo_value 52 = .ok (.iconst 1, 1) := by decide +kernel
theorem mD_Mo_value_53 : decode mB_Mo_value 53 = .ok (.goto 4, 3) := by decide +kernel
theorem mD_Mo_value_56 : decode mB_Mo_value 56 = .ok (.iconst 0, 1) := by decide +kernel
theorem mD_Mo_value_57 : decode mB_Mo_value 57 = .ok (.ireturn, 1) := by decide +kernel
theorem mD_Mo_value_58 : decode mB_Mo_value 58 = .ok (.iload_n 1, 1) := by decide +kernel
theorem mD_Mo_value_59 : decode mB_Mo_value 59 = .ok (.ifCond .ne 7, 3) := by decide +kernel
theorem mD_Mo_value_62 : decode mB_Mo_value 62 = .ok (.iload_n 2, 1) := by decide +kernel
theorem mD_Mo_value_63 : decode mB_Mo_value 63 = .ok (.ifCond .eq 7, 3) := by decide +kernel
theorem mD_Mo_value_66 : decode mB_Mo_value 66 = .ok (.iconst 1, 1) := by decide +kernel
theorem mD_Mo_value_67 : decode mB_Mo_value 67 = .ok (.goto 4, 3) := by decide +kernel
theorem mD_Mo_value_70 : decode mB_Mo_value 70 = .ok (.iconst 0, 1) := by decide +kernel
theorem mD_Mo_value_71 : decode mB_Mo_value 71 = .ok (.ireturn, 1) := by decide +kernel
theorem mD_Mo_value_72 : decode mB_Mo_value 72 = .ok (.iload_n 1, 1) := by decide +kernel
theorem mD_Mo_value_73 : decode mB_Mo_value 73 = .ok (.ifCond .eq 7, 3) := by decide +kernel
theorem mD_Mo_value_76 : decode mB_Mo_value 76 = .ok (.iload_n 2, 1) := by decide +kernel
theorem mD_Mo_value_77 : decode mB_Mo_value 77 = .ok (.ifCond .ne 7, 3) := by decide +kernel
theorem mD_Mo_value_80 : decode mB_Mo_value 80 = .ok (.iconst 1, 1) := by decide +kernel
theorem mD_Mo_value_81 : decode mB_Mo_value 81 = .ok (.goto 4, 3) := by decide +kernel
theorem mD_Mo_value_84 : decode mB_Mo_value 84 = .ok (.iconst 0, 1) := by decide +kernel
theorem mD_Mo_value_85 : decode mB_Mo_value 85 = .ok (.ireturn, 1) := by decide +kernel
theorem mD_Mo_value_86 : decode mB_Mo_value 86 = .ok (.iload_n 1, 1) := by decide +kernel
theorem mD_Mo_value_87 : decode mB_Mo_value 87 = .ok (.ifCond .ne 11, 3) := by decide +kernel
theorem mD_Mo_value_90 : decode mB_Mo_value 90 = .ok (.iload_n 2, 1) := by decide +kernel
theorem mD_Mo_value_91 : decode mB_Mo_value 91 = .ok (.ifCond .ne 7, 3) := by decide +kernel
theorem mD_Mo_value_94 : decode mB_Mo_value 94 = .ok (.iconst 1, 1) := by decide +kernel
theorem mD_Mo_value_95 : decode mB_Mo_value 95 = .ok (.goto 4, 3) := by decide +kernel
theorem mD_Mo_value_98 : decode mB_Mo_value 98 = .ok (.iconst 0, 1) := by decide +kernel
theorem mD_Mo_value_99 : decode mB_Mo_value 99 = .ok (.ireturn, 1) := by decide +kernel
theorem mD_Mo_value_100 : decode mB_Mo_value 100 = .ok (.iload_n 1, 1) := by decide +kernel
theorem mD_Mo_value_101 : decode mB_Mo_value 101 = .ok (.iload_n 2, 1) := by decide +kernel
theorem mD_Mo_value_102 : decode mB_Mo_value 102 = .ok (.if_icmp .eq 7, 3) := by decide +kernel
theorem mD_Mo_value_105 : decode mB_Mo_value 105 = .ok (.iconst 1, 1) := by decide +kernel
theorem mD_Mo_value_106 : decode mB_Mo_value 106 = .ok (.goto 4, 3) := by decide +kernel
theorem mD_Mo_value_109 : decode mB_Mo_value 109 = .ok (.iconst 0, 1) := by decide +kernel
theorem mD_Mo_value_110 : decode mB_Mo_value 110 = .ok (.ireturn, 1) := by decide +kernel
theorem mD_Mo_value_111 : decode mB_Mo_value 111 = .ok (.iload_n 1, 1) := by decide +kernel
theorem mD_Mo_value_112 : decode mB_Mo_value 112 = .ok (.iload_n 2, 1) := by decide +kernel
theorem mD_Mo_value_113 : decode mB_Mo_value 113 = .ok (.if_icmp .ne 7, 3) := by decide +kernel
theorem mD_Mo_value_116 : decode mB_Mo_value 116 = .ok (.iconst 1, 1) := by decide +kernel
theorem mD_Mo_value_117 : decode mB_Mo_value 117 = .ok (.goto 4, 3) := by decide +kernel
theorem mD_Mo_value_120 : decode mB_Mo_value 120 = .ok (.iconst 0, 1) := by decide +kernel
theorem mD_Mo_value_121 : decode mB_Mo_value 121 = .ok (.ireturn, 1) := by decide +kernel
theorem mD_Mo_value_122 : decode mB_Mo_value 122 = .ok (.iload_n 1, 1) := by decide +kernel
theorem mD_Mo_value_123 : decode mB_Mo_value 123 = .ok (.ifCond .eq 11, 3) := by decide +kernel
theorem mD_Mo_value_126 : decode mB_Mo_value 126 = .ok (.iload_n 2, 1) := by decide +kernel
theorem mD_Mo_value_127 : decode mB_Mo_value 127 = .ok (.ifCond .ne 7, 3) := by decide +kernel
theorem mD_Mo_value_130 : decode mB_Mo_value 130 = .ok (.iconst 1, 1) := by decide +kernel
theorem mD_Mo_value_131 : decode mB_Mo_value 131 = .ok (.goto 4, 3) := by decide +kernel
theorem mD_Mo_value_134 : decode mB_Mo_value 134 = .ok (.iconst 0, 1) := by decide +kernel
theorem mD_Mo_value_135 : decode mB_Mo_value 135 = .ok (.ireturn, 1) := by decide +kernel
theorem mD_Mo_value_136 : decode mB_Mo_value 136 = .ok (.iload_n 1, 1) := by decide +kernel
theorem mD_Mo_value_137 : decode mB_Mo_value 137 = .ok (.ifCond .ne 7, 3) := by decide +kernel
theorem mD_Mo_value_140 : decode mB_Mo_value 140 = .ok (.iload_n 2, 1) := by decide +kernel
theorem mD_Mo_value_141 : decode mB_Mo_value 141 = .ok (.ifCond .ne 7, 3) := by decide +kernel
theorem mD_Mo_value_144 : decode mB_Mo_value 144 = .ok (.iconst 1, 1) := by decide +kernel
theorem mD_Mo_value_145 : decode mB_Mo_value 145 = .ok (.goto 4, 3) := by decide +kernel
theorem mD_Mo_value_148 : decode mB_Mo_value 148 = .ok (.iconst 0, 1) := by decide +kernel
theorem mD_Mo_value_149 : decode mB_Mo_value 149 = .ok (.ireturn, 1) := by decide +kernel
theorem mD_Mo_great_0 : decode mB_Mo_great 0 = .ok (.aload_n 0, 1) := by decide +kernel
theorem mD_Mo_great_1 : decode mB_Mo_great 1 = .ok (.getfield 16, 3) := by decide +kernel
theorem mD_Mo_great_4 : decode mB_Mo_great 4 = .ok (.iload_n 2, 1) := by decide +kernel
theorem mD_Mo_great_5 : decode mB_Mo_great 5 = .ok (.iaload, 1) := by decide +kernel
theorem mD_Mo_great_6 : decode mB_Mo_great 6 = .ok (.i2l, 1) := by decide +kernel
theorem mD_Mo_great_7 : decode mB_Mo_great 7 = .ok (.aload_n 0, 1) := by decide +kernel
theorem mD_Mo_great_8 : decode mB_Mo_great 8 = .ok (.getfield 16, 3) := by decide +kernel
theorem mD_Mo_great_11 : decode mB_Mo_great 11 = .ok (.iload_n 3, 1) := by decide +kernel
theorem mD_Mo_great_12 : decode mB_Mo_great 12 = .ok (.iaload, 1) := by decide +kernel
theorem mD_Mo_great_13 : decode mB_Mo_great 13 = .ok (.i2l, 1) := by decide +kernel
theorem mD_Mo_great_14 : decode mB_Mo_great 14 = .ok (.ladd, 1) := by decide +kernel
theorem mD_Mo_great_15 : decode mB_Mo_great 15 = .ok (.lstore 4, 2) := by decide +kernel
theorem mD_Mo_great_17 : decode mB_Mo_great 17 = .ok (.iload_n 1, 1) := by decide +kernel
theorem mD_Mo_great_18 : decode mB_Mo_great 18 = .ok (.iconst 4, 1) := by decide +kernel
theorem mD_Mo_great_19 : decode mB_Mo_great 19 = .ok (.if_icmp .eq 8, 3) := by decide +kernel
theorem mD_Mo_great_22 : decode mB_Mo_great 22 = .ok (.iload_n 1, 1) := by decide +kernel
theorem mD_Mo_great_23 : decode mB_Mo_great 23 = .ok (.iconst 5, 1) := by decide +kernel
theorem mD_Mo_great_24 : decode mB_Mo_great 24 = .ok (.if_icmp .ne 24, 3) := by decide +kernel
theorem mD_Mo_great_27 : decode mB_Mo_great 27 = .ok (.ldc2_w 62, 3) := by decide +kernel
theorem mD_Mo_great_30 : decode mB_Mo_great 30 = .ok (.lload 4, 2) := by decide +kernel
theorem mD_Mo_great_32 : decode mB_Mo_great 32 = .ok (.lmul, 1) := by decide +kernel
theorem mD_Mo_great_33 : decode mB_Mo_great 33 = .ok (.ldc2_w 64, 3) := by decide +kernel
theorem mD_Mo_great_36 : decode mB_Mo_great 36 = .ok (.lcmp, 1) := by decide +kernel
theorem mD_Mo_great_37 : decode mB_Mo_great 37 = .ok (.ifCond .lt 7, 3) := by decide +kernel
theorem mD_Mo_great_40 : decode mB_Mo_great 40 = .ok (.iconst 1, 1) := by decide +kernel
theorem mD_Mo_great_41 : decode mB_Mo_great 41 = .ok (.goto 21, 3) := by decide +kernel
theorem mD_Mo_great_44 : decode mB_Mo_great 44 = .ok (.iconst 0, 1) := by decide +kernel
theorem mD_Mo_great_45 : decode mB_Mo_great 45 = .ok (.goto 17, 3) := by decide +kernel
theorem mD_Mo_great_48 : decode mB_Mo_great 48 = .ok (.lload 4, 2) := by decide +kernel
theorem mD_Mo_great_50 : decode mB_Mo_great 50 = .ok (.ldc2_w 66, 3) := by decide +kernel
theorem mD_Mo_great_53 : decode mB_Mo_great 53 = .ok (.lcmp, 1) := by decide +kernel
theorem mD_Mo_great_54 : decode mB_Mo_great 54 = .ok (.ifCond .lt 7, 3) := by decide +kernel
theorem mD_Mo_great_57 : decode mB_Mo_great 57 = .ok (.iconst 1, 1) := by decide +kernel
theorem mD_Mo_great_58 : decode mB_Mo_great 58 = .ok (.goto 4, 3) := by decide +kernel
theorem mD_Mo_great_61 : decode mB_Mo_great 61 = .ok (.iconst 0, 1) := by decide +kernel
theorem mD_Mo_great_62 : decode mB_Mo_great 62 = .ok (.ireturn, 1) := by decide +kernel
theorem mD_Mo_isGate_0 : decode mB_Mo_isGate 0 = .ok (.iload_n 0, 1) := by decide +kernel
theorem mD_Mo_isGate_1 : decode mB_Mo_isGate 1 = .ok (.ifCond .lt 13, 3) := by decide +kernel
theorem mD_Mo_isGate_4 : decode mB_Mo_isGate 4 = .ok (.iload_n 0, 1) := by decide +kernel
theorem mD_Mo_isGate_5 : decode mB_Mo_isGate 5 = .ok (.bipush 7, 2) := by decide +kernel
theorem mD_Mo_isGate_7 : decode mB_Mo_isGate 7 = .ok (.if_icmp .gt 7, 3) := by decide +kernel
theorem mD_Mo_isGate_10 : decode mB_Mo_isGate 10 = .ok (.iconst 1, 1) := by decide +kernel
theorem mD_Mo_isGate_11 : decode mB_Mo_isGate 11 = .ok (.goto 4, 3) := by decide +kernel
theorem mD_Mo_isGate_14 : decode mB_Mo_isGate 14 = .ok (.iconst 0, 1) := by decide +kernel
theorem mD_Mo_isGate_15 : decode mB_Mo_isGate 15 = .ok (.ireturn, 1) := by decide +kernel
theorem mD_Mo_gate_0 : decode mB_Mo_gate 0 = .ok (.iload_n 1, 1) := by decide +kernel
theorem mD_Mo_gate_1 : decode mB_Mo_gate 1 = .ok (.invokestatic 68, 3) := by decide +kernel
theorem mD_Mo_gate_4 : decode mB_Mo_gate 4 = .ok (.ifCond .eq 23, 3) := by decide +kernel
theorem mD_Mo_gate_7 : decode mB_Mo_gate 7 = .ok (.aload_n 0, 1) := by decide +kernel
theorem mD_Mo_gate_8 : decode mB_Mo_gate 8 = .ok (.iload_n 2, 1) := by decide +kernel
theorem mD_Mo_gate_9 : decode mB_Mo_gate 9 = .ok (.invokevirtual 48, 3) := by decide +kernel
theorem mD_Mo_gate_12 : decode mB_Mo_gate 12 = .ok (.ifCond .eq 15, 3) := by decide +kernel
theorem mD_Mo_gate_15 : decode mB_Mo_gate 15 = .ok (.aload_n 0, 1) := by decide +kernel
theorem mD_Mo_gate_16 : decode mB_Mo_gate 16 = .ok (.iload_n 3, 1) := by decide +kernel
theorem mD_Mo_gate_17 : decode mB_Mo_gate 17 = .ok (.invokevirtual 48, 3) := by decide +kernel
theorem mD_Mo_gate_20 : decode mB_Mo_gate 20 = .ok (.ifCond .eq 7, 3) := by decide +kernel
theorem mD_Mo_gate_23 : decode mB_Mo_gate 23 = .ok (.iconst 1, 1) := by decide +kernel
theorem mD_Mo_gate_24 : decode mB_Mo_gate 24 = .ok (.goto 4, 3) := by decide +kernel
theorem mD_Mo_gate_27 : decode mB_Mo_gate 27 = .ok (.iconst 0, 1) := by decide +kernel
theorem mD_Mo_gate_28 : decode mB_Mo_gate 28 = .ok (.istore 4, 2) := by decide +kernel
theorem mD_Mo_gate_30 : decode mB_Mo_gate 30 = .ok (.iload 4, 2) := by decide +kernel
theorem mD_Mo_gate_32 : decode mB_Mo_gate 32 = .ok (.ifCond .eq 17, 3) := by decide +kernel
theorem mD_Mo_gate_35 : decode mB_Mo_gate 35 = .ok (.aload_n 0, 1) := by decide +kernel
theorem mD_Mo_gate_36 : decode mB_Mo_gate 36 = .ok (.iload_n 1, 1) := by decide +kernel
theorem mD_Mo_gate_37 : decode mB_Mo_gate 37 = .ok (.iload_n 2, 1) := by decide +kernel
theorem mD_Mo_gate_38 : decode mB_Mo_gate 38 = .ok (.iload_n 3, 1) := by decide +kernel
theorem mD_Mo_gate_39 : decode mB_Mo_gate 39 = .ok (.invokevirtual 71, 3) := by decide +kernel
theorem mD_Mo_gate_42 : decode mB_Mo_gate 42 = .ok (.ifCond .eq 7, 3) := by decide +kernel
theorem mD_Mo_gate_45 : decode mB_Mo_gate 45 = .ok (.iconst 1, 1) := by decide +kernel
theorem mD_Mo_gate_46 : decode mB_Mo_gate 46 = .ok (.goto 4, 3) := by decide +kernel
theorem mD_Mo_gate_49 : decode mB_Mo_gate 49 = .ok (.iconst 0, 1) := by decide +kernel
theorem mD_Mo_gate_50 : decode mB_Mo_gate 50 = .ok (.istore 5, 2) := by decide +kernel
theorem mD_Mo_gate_52 : decode mB_Mo_gate 52 = .ok (.aload_n 0, 1) := by decide +kernel
theorem mD_Mo_gate_53 : decode mB_Mo_gate 53 = .ok (.iload 5, 2) := by decide +kernel
theorem mD_Mo_gate_55 : decode mB_Mo_gate 55 = .ok (.ifCond .eq 12, 3) := by decide +kernel
theorem mD_Mo_gate_58 : decode mB_Mo_gate 58 = .ok (.aload_n 0, 1) := by decide +kernel
theorem mD_Mo_gate_59 : decode mB_Mo_gate 59 = .ok (.getfield 75, 3) := by decide +kernel
theorem mD_Mo_gate_62 : decode mB_Mo_gate 62 = .ok (.iconst 1, 1) := by decide +kernel
theorem mD_Mo_gate_63 : decode mB_Mo_gate 63 = .ok (.iadd, 1) := by decide +kernel
theorem mD_Mo_gate_64 : decode mB_Mo_gate 64 = .ok (.goto 7, 3) := by decide +kernel
theorem mD_Mo_gate_67 : decode mB_Mo_gate 67 = .ok (.aload_n 0, 1) := by decide +kernel
theorem mD_Mo_gate_68 : decode mB_Mo_gate 68 = .ok (.getfield 75, 3) := by decide +kernel
theorem mD_Mo_gate_71 : decode mB_Mo_gate 71 = .ok (.putfield 75, 3) := by decide +kernel
theorem mD_Mo_gate_74 : decode mB_Mo_gate 74 = .ok (.aload_n 0, 1) := by decide +kernel
theorem mD_Mo_gate_75 : decode mB_Mo_gate 75 = .ok (.iload 4, 2) := by decide +kernel
theorem mD_Mo_gate_77 : decode mB_Mo_gate 77 = .ok (.iload 5, 2) := by decide +kernel
theorem mD_Mo_gate_79 : decode mB_Mo_gate 79 = .ok (.ifCond .ne 16, 3) := by decide +kernel
theorem mD_Mo_gate_82 : decode mB_Mo_gate 82 = .ok (.aload_n 0, 1) := by decide +kernel
theorem mD_Mo_gate_83 : decode mB_Mo_gate 83 = .ok (.invokevirtual 36, 3) := by decide +kernel
theorem mD_Mo_gate_86 : decode mB_Mo_gate 86 = .ok (.bipush 120, 2) := by decide +kernel
theorem mD_Mo_gate_88 : decode mB_Mo_gate 88 = .ok (.if_icmp .ge 7, 3) := by decide +kernel
theorem mD_Mo_gate_91 : decode mB_Mo_gate 91 = .ok (.iconst 1, 1) := by decide +kernel
theorem mD_Mo_gate_92 : decode mB_Mo_gate 92 = .ok (.goto 4, 3) := by decide +kernel
theorem mD_Mo_gate_95 : decode mB_Mo_gate 95 = .ok (.iconst 0, 1) := by decide +kernel
theorem mD_Mo_gate_96 : decode mB_Mo_gate 96 = .ok (.iconst 1, 1) := by decide +kernel
theorem mD_Mo_gate_97 : decode mB_Mo_gate 97 = .ok (.invokevirtual 40, 3) := by decide +kernel
theorem mD_Mo_gate_100 : decode mB_Mo_gate 100 = .ok (.ifCond .ne 5, 3) := by decide +kernel
theorem mD_Mo_gate_103 : decode mB_Mo_gate 103 = .ok (.iconst 0, 1) := by decide +kernel
theorem mD_Mo_gate_104 : decode mB_Mo_gate 104 = .ok (.ireturn, 1) := by decide +kernel
theorem mD_Mo_gate_105 : decode mB_Mo_gate 105 = .ok (.aload_n 0, 1) := by decide +kernel
theorem mD_Mo_gate_106 : decode mB_Mo_gate 106 = .ok (.dup, 1) := by decide +kernel
theorem mD_Mo_gate_107 : decode mB_Mo_gate 107 = .ok (.getfield 78, 3) := by decide +kernel
theorem mD_Mo_gate_110 : decode mB_Mo_gate 110 = .ok (.iconst 1, 1) := by decide +kernel
theorem mD_Mo_gate_111 : decode mB_Mo_gate 111 = .ok (.iadd, 1) := by decide +kernel
theorem mD_Mo_gate_112 : decode mB_Mo_gate 112 = .ok (.putfield 78, 3) := by decide +kernel
theorem mD_Mo_gate_115 : decode mB_Mo_gate 115 = .ok (.aload_n 0, 1) := by decide +kernel
theorem mD_Mo_gate_116 : decode mB_Mo_gate 116 = .ok (.iload_n 1, 1) := by decide +kernel
theorem mD_Mo_gate_117 : decode mB_Mo_gate 117 = .ok (.aload_n 0, 1) := by decide +kernel
theorem mD_Mo_gate_118 : decode mB_Mo_gate 118 = .ok (.getfield 13, 3) := by decide +kernel
theorem mD_Mo_gate_121 : decode mB_Mo_gate 121 = .ok (.iload_n 2, 1) := by decide +kernel
theorem mD_Mo_gate_122 : decode mB_Mo_gate 122 = .ok (.baload, 1) := by decide +kernel
theorem mD_Mo_gate_123 : decode mB_Mo_gate 123 = .ok (.aload_n 0, 1) := by decide +kernel
theorem mD_Mo_gate_124 : decode mB_Mo_gate 124 = .ok (.getfield 13, 3) := by decide +kernel
theorem mD_Mo_gate_127 : decode mB_Mo_gate 127 = .ok (.iload_n 3, 1) := by decide +kernel
theorem mD_Mo_gate_128 : decode mB_Mo_gate 128 = .ok (.baload, 1) := by decide +kernel
theorem mD_Mo_gate_129 : decode mB_Mo_gate 129 = .ok (.invokestatic 81, 3) := by decide +kernel
theorem mD_Mo_gate_132 : decode mB_Mo_gate 132 = .ok (.ldc 85, 2) := by decide +kernel
theorem mD_Mo_gate_134 : decode mB_Mo_gate 134 = .ok (.invokevirtual 44, 3) := by decide +kernel
theorem mD_Mo_gate_137 : decode mB_Mo_gate 137 = .ok (.ireturn, 1) := by decide +kernel
theorem mD_Mo_choose_0 : decode mB_Mo_choose 0 = .ok (.aload_n 0, 1) := by decide +kernel
theorem mD_Mo_choose_1 : decode mB_Mo_choose 1 = .ok (.iload_n 1, 1) := by decide +kernel
theorem mD_Mo_choose_2 : decode mB_Mo_choose 2 = .ok (.invokevirtual 48, 3) := by decide +kernel
theorem mD_Mo_choose_5 : decode mB_Mo_choose 5 = .ok (.ifCond .eq 23, 3) := by decide +kernel
theorem mD_Mo_choose_8 : decode mB_Mo_choose 8 = .ok (.aload_n 0, 1) := by decide +kernel
theorem mD_Mo_choose_9 : decode mB_Mo_choose 9 = .ok (.iload_n 2, 1) := by decide +kernel
theorem mD_Mo_choose_10 : decode mB_Mo_choose 10 = .ok (.invokevirtual 48, 3) := by decide +kernel
theorem mD_Mo_choose_13 : decode mB_Mo_choose 13 = .ok (.ifCond .eq 15, 3) := by decide +kernel
theorem mD_Mo_choose_16 : decode mB_Mo_choose 16 = .ok (.aload_n 0, 1) := by decide +kernel
theorem mD_Mo_choose_17 : decode mB_Mo_choose 17 = .ok (.iload_n 3, 1) := by decide +kernel
theorem mD_Mo_choose_18 : decode mB_Mo_choose 18 = .ok (.invokevirtual 48, 3) := by decide +kernel
theorem mD_Mo_choose_21 : decode mB_Mo_choose 21 = .ok (.ifCond .eq 7, 3) := by decide +kernel
theorem mD_Mo_choose_24 : decode mB_Mo_choose 24 = .ok (.iconst 1, 1) := by decide +kernel
theorem mD_Mo_choose_25 : decode mB_Mo_choose 25 = .ok (.goto 4, 3) := by decide +kernel
theorem mD_Mo_choose_28 : decode mB_Mo_choose 28 = .ok (.iconst 0, 1) := by decide +kernel
theorem mD_Mo_choose_29 : decode mB_Mo_choose 29 = .ok (.istore 4, 2) := by decide +kernel
theorem mD_Mo_choose_31 : decode mB_Mo_choose 31 = .ok (.iload 4, 2) := by decide +kernel
theorem mD_Mo_choose_33 : decode mB_Mo_choose 33 = .ok (.ifCond .eq 28, 3) := by decide +kernel
theorem mD_Mo_choose_36 : decode mB_Mo_choose 36 = .ok (.aload_n 0, 1) := by decide +kernel
theorem mD_Mo_choose_37 : decode mB_Mo_choose 37 = .ok (.iconst 0, 1) := by decide +kernel
theorem mD_Mo_choose_38 : decode mB_Mo_choose 38 = .ok (.iload_n 1, 1) := by decide +kernel
theorem mD_Mo_choose_39 : decode mB_Mo_choose 39 = .ok (.iload_n 2, 1) := by decide +kernel
theorem mD_Mo_choose_40 : decode mB_Mo_choose 40 = .ok (.invokevirtual 71, 3) := by decide +kernel
theorem mD_Mo_choose_43 : decode mB_Mo_choose 43 = .ok (.ifCond .ne 14, 3) := by decide +kernel
theorem mD_Mo_choose_46 : decode mB_Mo_choose 46 = .ok (.aload_n 0, 1) := by decide +kernel
theorem mD_Mo_choose_47 : decode mB_Mo_choose 47 = .ok (.bipush 6, 2) := by decide +kernel
theorem mD_Mo_choose_49 : decode mB_Mo_choose 49 = .ok (.iload_n 3, 1) := by decide +kernel
theorem mD_Mo_choose_50 : decode mB_Mo_choose 50 = .ok (.iload_n 1, 1) := by decide +kernel
theorem mD_Mo_choose_51 : decode mB_Mo_choose 51 = .ok (.invokevirtual 71, 3) := by decide +kernel
theorem mD_Mo_choose_54 : decode mB_Mo_choose 54 = .ok (.ifCond .eq 7, 3) := by decide +kernel
theorem mD_Mo_choose_57 : decode mB_Mo_choose 57 = .ok (.iconst 1, 1) := by decide +kernel
theorem mD_Mo_choose_58 : decode mB_Mo_choose 58 = .ok (.goto 4, 3) := by decide +kernel
theorem mD_Mo_choose_61 : decode mB_Mo_choose 61 = .ok (.iconst 0, 1) := by decide +kernel
theorem mD_Mo_choose_62 : decode mB_Mo_choose 62 = .ok (.istore 5, 2) := by decide +kernel
theorem mD_Mo_choose_64 : decode mB_Mo_choose 64 = .ok (.aload_n 0, 1) := by decide +kernel
theorem mD_Mo_choose_65 : decode mB_Mo_choose 65 = .ok (.iload 5, 2) := by decide +kernel
theorem mD_Mo_choose_67 : decode mB_Mo_choose 67 = .ok (.ifCond .eq 12, 3) := by decide +kernel
theorem mD_Mo_choose_70 : decode mB_Mo_choose 70 = .ok (.aload_n 0, 1) := by decide +kernel
theorem mD_Mo_choose_71 : decode mB_Mo_choose 71 = .ok (.getfield 75, 3) := by decide +kernel
theorem mD_Mo_choose_74 : decode mB_Mo_choose 74 = .ok (.iconst 1, 1) := by decide +kernel
theorem mD_Mo_choose_75 : decode mB_Mo_choose 75 = .ok (.iadd, 1) := by decide +kernel
theorem mD_Mo_choose_76 : decode mB_Mo_choose 76 = .ok (.goto 7, 3) := by decide +kernel
theorem mD_Mo_choose_79 : decode mB_Mo_choose 79 = .ok (.aload_n 0, 1) := by decide +kernel
theorem mD_Mo_choose_80 : decode mB_Mo_choose 80 = .ok (.getfield 75, 3) := by decide +kernel
theorem mD_Mo_choose_83 : decode mB_Mo_choose 83 = .ok (.putfield 75, 3) := by decide +kernel
theorem mD_Mo_choose_86 : decode mB_Mo_choose 86 = .ok (.aload_n 0, 1) := by decide +kernel
theorem mD_Mo_choose_87 : decode mB_Mo_choose 87 = .ok (.iload 4, 2) := by decide +kernel
theorem mD_Mo_choose_89 : decode mB_Mo_choose 89 = .ok (.iload 5, 2) := by decide +kernel
theorem mD_Mo_choose_91 : decode mB_Mo_choose 91 = .ok (.ifCond .ne 16, 3) := by decide +kernel
theorem mD_Mo_choose_94 : decode mB_Mo_choose 94 = .ok (.aload_n 0, 1) := by decide +kernel
theorem mD_Mo_choose_95 : decode mB_Mo_choose 95 = .ok (.invokevirtual 36, 3) := by decide +kernel
theorem mD_Mo_choose_98 : decode mB_Mo_choose 98 = .ok (.bipush 120, 2) := by decide +kernel
theorem mD_Mo_choose_100 : decode mB_Mo_choose 100 = .ok (.if_icmp .ge 7, 3) := by decide +kernel
theorem mD_Mo_choose_103 : decode mB_Mo_choose 103 = .ok (.iconst 1, 1) := by decide +kernel
theorem mD_Mo_choose_104 : decode mB_Mo_choose 104 = .ok (.goto 4, 3) := by decide +kernel
theorem mD_Mo_choose_107 : decode mB_Mo_choose 107 = .ok (.iconst 0, 1) := by decide +kernel
theorem mD_Mo_choose_108 : decode mB_Mo_choose 108 = .ok (.iconst 1, 1) := by decide +kernel
theorem mD_Mo_choose_109 : decode mB_Mo_choose 109 = .ok (.invokevirtual 40, 3) := by decide +kernel
theorem mD_Mo_choose_112 : decode mB_Mo_choose 112 = .ok (.ifCond .ne 5, 3) := by decide +kernel
theorem mD_Mo_choose_115 : decode mB_Mo_choose 115 = .ok (.iconst 0, 1) := by decide +kernel
theorem mD_Mo_choose_116 : decode mB_Mo_choose 116 = .ok (.ireturn, 1) := by decide +kernel
theorem mD_Mo_choose_117 : decode mB_Mo_choose 117 = .ok (.aload_n 0, 1) := by decide +kernel
theorem mD_Mo_choose_118 : decode mB_Mo_choose 118 = .ok (.aload_n 0, 1) := by decide +kernel
theorem mD_Mo_choose_119 : decode mB_Mo_choose 119 = .ok (.getfield 78, 3) := by decide +kernel
theorem mD_Mo_choose_122 : decode mB_Mo_choose 122 = .ok (.iconst 3, 1) := by decide +kernel
theorem mD_Mo_choose_123 : decode mB_Mo_choose 123 = .ok (.iadd, 1) := by decide +kernel
theorem mD_Mo_choose_124 : decode mB_Mo_choose 124 = .ok (.putfield 78, 3) := by decide +kernel
theorem mD_Mo_choose_127 : decode mB_Mo_choose 127 = .ok (.aload_n 0, 1) := by decide +kernel
theorem mD_Mo_choose_128 : decode mB_Mo_choose 128 = .ok (.aload_n 0, 1) := by decide +kernel
theorem mD_Mo_choose_129 : decode mB_Mo_choose 129 = .ok (.getfield 13, 3) := by decide +kernel
theorem mD_Mo_choose_132 : decode mB_Mo_choose 132 = .ok (.iload_n 1, 1) := by decide +kernel
theorem mD_Mo_choose_133 : decode mB_Mo_choose 133 = .ok (.baload, 1) := by decide +kernel
theorem mD_Mo_choose_134 : decode mB_Mo_choose 134 = .ok (.ifCond .eq 12, 3) := by decide +kernel
theorem mD_Mo_choose_137 : decode mB_Mo_choose 137 = .ok (.aload_n 0, 1) := by decide +kernel
theorem mD_Mo_choose_138 : decode mB_Mo_choose 138 = .ok (.getfield 13, 3) := by decide +kernel
theorem mD_Mo_choose_141 : decode mB_Mo_choose 141 = .ok (.iload_n 2, 1) := by decide +kernel
theorem mD_Mo_choose_142 : decode mB_Mo_choose 142 = .ok (.baload, 1) := by decide +kernel
theorem mD_Mo_choose_143 : decode mB_Mo_choose 143 = .ok (.goto 9, 3) := by decide +kernel
theorem mD_Mo_choose_146 : decode mB_Mo_choose 146 = .ok (.aload_n 0, 1) := by decide +kernel
theorem mD_Mo_choose_147 : decode mB_Mo_choose 147 = .ok (.getfield 13, 3) := by decide +kernel
theorem mD_Mo_choose_150 : decode mB_Mo_choose 150 = .ok (.iload_n 3, 1) := by decide +kernel
theorem mD_Mo_choose_151 : decode mB_Mo_choose 151 = .ok (.baload, 1) := by decide +kernel
theorem mD_Mo_choose_152 : decode mB_Mo_choose 152 = .ok (.ldc 85, 2) := by decide +kernel
theorem mD_Mo_choose_154 : decode mB_Mo_choose 154 = .ok (.invokevirtual 44, 3) := by decide +kernel
theorem mD_Mo_choose_157 : decode mB_Mo_choose 157 = .ok (.ireturn, 1) := by decide +kernel
theorem mD_Mo_open_0 : decode mB_Mo_open 0 = .ok (.aload_n 0, 1) := by decide +kernel
theorem mD_Mo_open_1 : decode mB_Mo_open 1 = .ok (.aload_n 0, 1) := by decide +kernel
theorem mD_Mo_open_2 : decode mB_Mo_open 2 = .ok (.iload_n 1, 1) := by decide +kernel
theorem mD_Mo_open_3 : decode mB_Mo_open 3 = .ok (.invokevirtual 48, 3) := by decide +kernel
theorem mD_Mo_open_6 : decode mB_Mo_open 6 = .ok (.aload_n 0, 1) := by decide +kernel
theorem mD_Mo_open_7 : decode mB_Mo_open 7 = .ok (.iload_n 1, 1) := by decide +kernel
theorem mD_Mo_open_8 : decode mB_Mo_open 8 = .ok (.invokevirtual 48, 3) := by decide +kernel
theorem mD_Mo_open_11 : decode mB_Mo_open 11 = .ok (.ifCond .eq 14, 3) := by decide +kernel
theorem mD_Mo_open_14 : decode mB_Mo_open 14 = .ok (.aload_n 0, 1) := by decide +kernel
theorem mD_Mo_open_15 : decode mB_Mo_open 15 = .ok (.getfield 16, 3) := by decide +kernel
theorem mD_Mo_open_18 : decode mB_Mo_open 18 = .ok (.iload_n 1, 1) := by decide +kernel
theorem mD_Mo_open_19 : decode mB_Mo_open 19 = .ok (.iaload, 1) := by decide +kernel
theorem mD_Mo_open_20 : decode mB_Mo_open 20 = .ok (.ldc 86, 2) := by decide +kernel
theorem mD_Mo_open_22 : decode mB_Mo_open 22 = .ok (.if_icmp .ge 7, 3) := by decide +kernel
theorem mD_Mo_open_25 : decode mB_Mo_open 25 = .ok (.iconst 1, 1) := by decide +kernel
theorem mD_Mo_open_26 : decode mB_Mo_open 26 = .ok (.goto 4, 3) := by decide +kernel
theorem mD_Mo_open_29 : decode mB_Mo_open 29 = .ok (.iconst 0, 1) := by decide +kernel
theorem mD_Mo_open_30 : decode mB_Mo_open 30 = .ok (.iconst 1, 1) := by decide +kernel
theorem mD_Mo_open_31 : decode mB_Mo_open 31 = .ok (.invokevirtual 40, 3) := by decide +kernel
theorem mD_Mo_open_34 : decode mB_Mo_open 34 = .ok (.ifCond .eq 16, 3) := by decide +kernel
theorem mD_Mo_open_37 : decode mB_Mo_open 37 = .ok (.aload_n 0, 1) := by decide +kernel
theorem mD_Mo_open_38 : decode mB_Mo_open 38 = .ok (.getfield 13, 3) := by decide +kernel
theorem mD_Mo_open_41 : decode mB_Mo_open 41 = .ok (.iload_n 1, 1) := by decide +kernel
theorem mD_Mo_open_42 : decode mB_Mo_open 42 = .ok (.baload, 1) := by decide +kernel
theorem mD_Mo_open_43 : decode mB_Mo_open 43 = .ok (.ifCond .eq 7, 3) := by decide +kernel
theorem mD_Mo_open_46 : decode mB_Mo_open 46 = .ok (.iconst 1, 1) := by decide +kernel
theorem mD_Mo_open_47 : decode mB_Mo_open 47 = .ok (.goto 4, 3) := by decide +kernel
theorem mD_Mo_open_50 : decode mB_Mo_open 50 = .ok (.iconst 0, 1) := by decide +kernel
theorem mD_Mo_open_51 : decode mB_Mo_open 51 = .ok (.ireturn, 1) := by decide +kernel
theorem mD_Mo_bound_0 : decode mB_Mo_bound 0 = .ok (.aload_n 0, 1) := by decide +kernel
theorem mD_Mo_bound_1 : decode mB_Mo_bound 1 = .ok (.aload_n 0, 1) := by decide +kernel
theorem mD_Mo_bound_2 : decode mB_Mo_bound 2 = .ok (.iload_n 1, 1) := by decide +kernel
theorem mD_Mo_bound_3 : decode mB_Mo_bound 3 = .ok (.invokevirtual 48, 3) := by decide +kernel
theorem mD_Mo_bound_6 : decode mB_Mo_bound 6 = .ok (.iconst 1, 1) := by decide +kernel
theorem mD_Mo_bound_7 : decode mB_Mo_bound 7 = .ok (.iconst 1, 1) := by decide +kernel
theorem mD_Mo_bound_8 : decode mB_Mo_bound 8 = .ok (.invokevirtual 40, 3) := by decide +kernel
theorem mD_Mo_bound_11 : decode mB_Mo_bound 11 = .ok (.ifCond .eq 12, 3) := by decide +kernel
theorem mD_Mo_bound_14 : decode mB_Mo_bound 14 = .ok (.aload_n 0, 1) := by decide +kernel
theorem mD_Mo_bound_15 : decode mB_Mo_bound 15 = .ok (.getfield 16, 3) := by decide +kernel
theorem mD_Mo_bound_18 : decode mB_Mo_bound 18 = .ok (.iload_n 1, 1) := by decide +kernel
theorem mD_Mo_bound_19 : decode mB_Mo_bound 19 = .ok (.iaload, 1) := by decide +kernel
theorem mD_Mo_bound_20 : decode mB_Mo_bound 20 = .ok (.goto 4, 3) := by decide +kernel
theorem mD_Mo_bound_23 : decode mB_Mo_bound 23 = .ok (.iconst 0, 1) := by decide +kernel
theorem mD_Mo_bound_24 : decode mB_Mo_bound 24 = .ok (.ireturn, 1) := by decide +kernel
theorem mD_Mo_within_0 : decode mB_Mo_within 0 = .ok (.aload_n 0, 1) := by decide +kernel
theorem mD_Mo_within_1 : decode mB_Mo_within 1 = .ok (.aload_n 0, 1) := by decide +kernel
theorem mD_Mo_within_2 : decode mB_Mo_within 2 = .ok (.iload_n 1, 1) := by decide +kernel
theorem mD_Mo_within_3 : decode mB_Mo_within 3 = .ok (.invokevirtual 48, 3) := by decide +kernel
theorem mD_Mo_within_6 : decode mB_Mo_within 6 = .ok (.iconst 1, 1) := by decide +kernel
theorem mD_Mo_within_7 : decode mB_Mo_within 7 = .ok (.iconst 1, 1) := by decide +kernel
theorem mD_Mo_within_8 : decode mB_Mo_within 8 = .ok (.invokevirtual 40, 3) := by decide +kernel
theorem mD_Mo_within_11 : decode mB_Mo_within 11 = .ok (.ireturn, 1) := by decide +kernel
theorem mD_Mo_isAhead_0 : decode mB_Mo_isAhead 0 = .ok (.iload_n 1, 1) := by decide +kernel
theorem mD_Mo_isAhead_1 : decode mB_Mo_isAhead 1 = .ok (.ifCond .lt 18, 3) := by decide +kernel
theorem mD_Mo_isAhead_4 : decode mB_Mo_isAhead 4 = .ok (.iload_n 1, 1) := by decide +kernel
theorem mD_Mo_isAhead_5 : decode mB_Mo_isAhead 5 = .ok (.bipush 8, 2) := by decide +kernel
theorem mD_Mo_isAhead_7 : decode mB_Mo_isAhead 7 = .ok (.aload_n 0, 1) := by decide +kernel
theorem mD_Mo_isAhead_8 : decode mB_Mo_isAhead 8 = .ok (.getfield 87, 3) := by decide +kernel
theorem mD_Mo_isAhead_11 : decode mB_Mo_isAhead 11 = .ok (.iadd, 1) := by decide +kernel
theorem mD_Mo_isAhead_12 : decode mB_Mo_isAhead 12 = .ok (.if_icmp .ge 7, 3) := by decide +kernel
theorem mD_Mo_isAhead_15 : decode mB_Mo_isAhead 15 = .ok (.iconst 1, 1) := by decide +kernel
theorem mD_Mo_isAhead_16 : decode mB_Mo_isAhead 16 = .ok (.goto 4, 3) := by decide +kernel
theorem mD_Mo_isAhead_19 : decode mB_Mo_isAhead 19 = .ok (.iconst 0, 1) := by decide +kernel
theorem mD_Mo_isAhead_20 : decode mB_Mo_isAhead 20 = .ok (.ireturn, 1) := by decide +kernel
theorem mD_Mo_line_0 : decode mB_Mo_line 0 = .ok (.aload_n 0, 1) := by decide +kernel
theorem mD_Mo_line_1 : decode mB_Mo_line 1 = .ok (.iload_n 1, 1) := by decide +kernel
theorem mD_Mo_line_2 : decode mB_Mo_line 2 = .ok (.invokestatic 68, 3) := by decide +kernel
theorem mD_Mo_line_5 : decode mB_Mo_line 5 = .ok (.ifCond .eq 23, 3) := by decide +kernel
theorem mD_Mo_line_8 : decode mB_Mo_line 8 = .ok (.aload_n 0, 1) := by decide +kernel
theorem mD_Mo_line_9 : decode mB_Mo_line 9 = .ok (.iload_n 2, 1) := by decide +kernel
theorem mD_Mo_line_10 : decode mB_Mo_line 10 = .ok (.invokevirtual 90, 3) := by decide +kernel
theorem mD_Mo_line_13 : decode mB_Mo_line 13 = .ok (.ifCond .eq 15, 3) := by decide +kernel
theorem mD_Mo_line_16 : decode mB_Mo_line 16 = .ok (.aload_n 0, 1) := by decide +kernel
theorem mD_Mo_line_17 : decode mB_Mo_line 17 = .ok (.iload_n 3, 1) := by decide +kernel
theorem mD_Mo_line_18 : decode mB_Mo_line 18 = .ok (.invokevirtual 90, 3) := by decide +kernel
theorem mD_Mo_line_21 : decode mB_Mo_line 21 = .ok (.ifCond .eq 7, 3) := by decide +kernel
theorem mD_Mo_line_24 : decode mB_Mo_line 24 = .ok (.iconst 1, 1) := by decide +kernel
theorem mD_Mo_line_25 : decode mB_Mo_line 25 = .ok (.goto 4, 3) := by decide +kernel
theorem mD_Mo_line_28 : decode mB_Mo_line 28 = .ok (.iconst 0, 1) := by decide +kernel
theorem mD_Mo_line_29 : decode mB_Mo_line 29 = .ok (.aload_n 0, 1) := by decide +kernel
theorem mD_Mo_line_30 : decode mB_Mo_line 30 = .ok (.getfield 87, 3) := by decide +kernel
theorem mD_Mo_line_33 : decode mB_Mo_line 33 = .ok (.bipush 24, 2) := by decide +kernel
theorem mD_Mo_line_35 : decode mB_Mo_line 35 = .ok (.if_icmp .ge 7, 3) := by decide +kernel
theorem mD_Mo_line_38 : decode mB_Mo_line 38 = .ok (.iconst 1, 1) := by decide +kernel
theorem mD_Mo_line_39 : decode mB_Mo_line 39 = .ok (.goto 4, 3) := by decide +kernel
theorem mD_Mo_line_42 : decode mB_Mo_line 42 = .ok (.iconst 0, 1) := by decide +kernel
theorem mD_Mo_line_43 : decode mB_Mo_line 43 = .ok (.iconst 1, 1) := by decide +kernel
theorem mD_Mo_line_44 : decode mB_Mo_line 44 = .ok (.invokevirtual 40, 3) := by decide +kernel
theorem mD_Mo_line_47 : decode mB_Mo_line 47 = .ok (.ifCond .ne 5, 3) := by decide +kernel
theorem mD_Mo_line_50 : decode mB_Mo_line 50 = .ok (.iconst 0, 1) := by decide +kernel
theorem mD_Mo_line_51 : decode mB_Mo_line 51 = .ok (.ireturn, 1) := by decide +kernel
theorem mD_Mo_line_52 : decode mB_Mo_line 52 = .ok (.aload_n 0, 1) := by decide +kernel
theorem mD_Mo_line_53 : decode mB_Mo_line 53 = .ok (.getfield 20, 3) := by decide +kernel
theorem mD_Mo_line_56 : decode mB_Mo_line 56 = .ok (.aload_n 0, 1) := by decide +kernel
theorem mD_Mo_line_57 : decode mB_Mo_line 57 = .ok (.getfield 87, 3) := by decide +kernel
theorem mD_Mo_line_60 : decode mB_Mo_line 60 = .ok (.iload_n 1, 1) := by decide +kernel
theorem mD_Mo_line_61 : decode mB_Mo_line 61 = .ok (.iastore, 1) := by decide +kernel
theorem mD_Mo_line_62 : decode mB_Mo_line 62 = .ok (.aload_n 0, 1) := by decide +kernel
theorem mD_Mo_line_63 : decode mB_Mo_line 63 = .ok (.getfield 23, 3) := by decide +kernel
theorem mD_Mo_line_66 : decode mB_Mo_line 66 = .ok (.aload_n 0, 1) := by decide +kernel
theorem mD_Mo_line_67 : decode mB_Mo_line 67 = .ok (.getfield 87, 3) := by decide +kernel
theorem mD_Mo_line_70 : decode mB_Mo_line 70 = .ok (.iload_n 2, 1) := by decide +kernel
theorem mD_Mo_line_71 : decode mB_Mo_line 71 = .ok (.iastore, 1) := by decide +kernel
theorem mD_Mo_line_72 : decode mB_Mo_line 72 = .ok (.aload_n 0, 1) := by decide +kernel
theorem mD_Mo_line_73 : decode mB_Mo_line 73 = .ok (.getfield 26, 3) := by decide +kernel
theorem mD_Mo_line_76 : decode mB_Mo_line 76 = .ok (.aload_n 0, 1) := by decide +kernel
theorem mD_Mo_line_77 : decode mB_Mo_line 77 = .ok (.getfield 87, 3) := by decide +kernel
theorem mD_Mo_line_80 : decode mB_Mo_line 80 = .ok (.iload_n 3, 1) := by decide +kernel
theorem mD_Mo_line_81 : decode mB_Mo_line 81 = .ok (.iastore, 1) := by decide +kernel
theorem mD_Mo_line_82 : decode mB_Mo_line 82 = .ok (.aload_n 0, 1) := by decide +kernel
theorem mD_Mo_line_83 : decode mB_Mo_line 83 = .ok (.dup, 1) := by decide +kernel
theorem mD_Mo_line_84 : decode mB_Mo_line 84 = .ok (.getfield 87, 3) := by decide +kernel
theorem mD_Mo_line_87 : decode mB_Mo_line 87 = .ok (.iconst 1, 1) := by decide +kernel
theorem mD_Mo_line_88 : decode mB_Mo_line 88 = .ok (.iadd, 1) := by decide +kernel
theorem mD_Mo_line_89 : decode mB_Mo_line 89 = .ok (.putfield 87, 3) := by decide +kernel
theorem mD_Mo_line_92 : decode mB_Mo_line 92 = .ok (.bipush 7, 2) := by decide +kernel
theorem mD_Mo_line_94 : decode mB_Mo_line 94 = .ok (.aload_n 0, 1) := by decide +kernel
theorem mD_Mo_line_95 : decode mB_Mo_line 95 = .ok (.getfield 87, 3) := by decide +kernel
theorem mD_Mo_line_98 : decode mB_Mo_line 98 = .ok (.iadd, 1) := by decide +kernel
theorem mD_Mo_line_99 : decode mB_Mo_line 99 = .ok (.ireturn, 1) := by decide +kernel
theorem mD_Mo_play_0 : decode mB_Mo_play 0 = .ok (.aload_n 0, 1) := by decide +kernel
theorem mD_Mo_play_1 : decode mB_Mo_play 1 = .ok (.iload_n 1, 1) := by decide +kernel
theorem mD_Mo_play_2 : decode mB_Mo_play 2 = .ok (.bipush 8, 2) := by decide +kernel
theorem mD_Mo_play_4 : decode mB_Mo_play 4 = .ok (.if_icmp .lt 18, 3) := by decide +kernel
theorem mD_Mo_play_7 : decode mB_Mo_play 7 = .ok (.iload_n 1, 1) := by decide +kernel
theorem mD_Mo_play_8 : decode mB_Mo_play 8 = .ok (.bipush 8, 2) := by decide +kernel
theorem mD_Mo_play_10 : decode mB_Mo_play 10 = .ok (.aload_n 0, 1) := by decide +kernel
theorem mD_Mo_play_11 : decode mB_Mo_play 11 = .ok (.getfield 87, 3) := by decide +kernel
theorem mD_Mo_play_14 : decode mB_Mo_play 14 = .ok (.iadd, 1) := by decide +kernel
theorem mD_Mo_play_15 : decode mB_Mo_play 15 = .ok (.if_icmp .ge 7, 3) := by decide +kernel
theorem mD_Mo_play_18 : decode mB_Mo_play 18 = .ok (.iconst 1, 1) := by decide +kernel
theorem mD_Mo_play_19 : decode mB_Mo_play 19 = .ok (.goto 4, 3) := by decide +kernel
theorem mD_Mo_play_22 : decode mB_Mo_play 22 = .ok (.iconst 0, 1) := by decide +kernel
theorem mD_Mo_play_23 : decode mB_Mo_play 23 = .ok (.iload_n 2, 1) := by decide +kernel
theorem mD_Mo_play_24 : decode mB_Mo_play 24 = .ok (.ifCond .lt 14, 3) := by decide +kernel
theorem mD_Mo_play_27 : decode mB_Mo_play 27 = .ok (.iload_n 2, 1) := by decide +kernel
theorem mD_Mo_play_28 : decode mB_Mo_play 28 = .ok (.sipush 255, 3) := by decide +kernel
theorem mD_Mo_play_31 : decode mB_Mo_play 31 = .ok (.if_icmp .gt 7, 3) := by decide +kernel
theorem mD_Mo_play_34 : decode mB_Mo_play 34 = .ok (.iconst 1, 1) := by decide +kernel
theorem mD_Mo_play_35 : decode mB_Mo_play 35 = .ok (.goto 4, 3) := by decide +kernel
theorem mD_Mo_play_38 : decode mB_Mo_play 38 = .ok (.iconst 0, 1) := by decide +kernel
theorem mD_Mo_play_39 : decode mB_Mo_play 39 = .ok (.aload_n 0, 1) := by decide +kernel
theorem mD_Mo_play_40 : decode mB_Mo_play 40 = .ok (.invokevirtual 36, 3) := by decide +kernel
theorem mD_Mo_play_43 : decode mB_Mo_play 43 = .ok (.bipush 120, 2) := by decide +kernel
theorem mD_Mo_play_45 : decode mB_Mo_play 45 = .ok (.if_icmp .ge 7, 3) := by decide +kernel
theorem mD_Mo_play_48 : decode mB_Mo_play 48 = .ok (.iconst 1, 1) := by decide +kernel
theorem mD_Mo_play_49 : decode mB_Mo_play 49 = .ok (.goto 4, 3) := by decide +kernel
theorem mD_Mo_play_52 : decode mB_Mo_play 52 = .ok (.iconst 0, 1) := by decide +kernel
theorem mD_Mo_play_53 : decode mB_Mo_play 53 = .ok (.invokevirtual 40, 3) := by decide +kernel
theorem mD_Mo_play_56 : decode mB_Mo_play 56 = .ok (.ifCond .ne 5, 3) := by decide +kernel
theorem mD_Mo_play_59 : decode mB_Mo_play 59 = .ok (.iconst 0, 1) := by decide +kernel
theorem mD_Mo_play_60 : decode mB_Mo_play 60 = .ok (.ireturn, 1) := by decide +kernel
theorem mD_Mo_play_61 : decode mB_Mo_play 61 = .ok (.iconst 0, 1) := by decide +kernel
theorem mD_Mo_play_62 : decode mB_Mo_play 62 = .ok (.istore_n 3, 1) := by decide +kernel
theorem mD_Mo_play_63 : decode mB_Mo_play 63 = .ok (.iload_n 3, 1) := by decide +kernel
theorem mD_Mo_play_64 : decode mB_Mo_play 64 = .ok (.bipush 8, 2) := by decide +kernel
theorem mD_Mo_play_66 : decode mB_Mo_play 66 = .ok (.if_icmp .ge 29, 3) := by decide +kernel
theorem mD_Mo_play_69 : decode mB_Mo_play 69 = .ok (.aload_n 0, 1) := by decide +kernel
theorem mD_Mo_play_70 : decode mB_Mo_play 70 = .ok (.getfield 29, 3) := by decide +kernel
theorem mD_Mo_play_73 : decode mB_Mo_play 73 = .ok (.iload_n 3, 1) := by decide +kernel
theorem mD_Mo_play_74 : decode mB_Mo_play 74 = .ok (.iload_n 2, 1) := by decide +kernel
theorem mD_Mo_play_75 : decode mB_Mo_play 75 = .ok (.iload_n 3, 1) := by decide +kernel
theorem mD_Mo_play_76 : decode mB_Mo_play 76 = .ok (.ishr, 1) := by decide +kernel
theorem mD_Mo_play_77 : decode mB_Mo_play 77 = .ok (.iconst 1, 1) := by decide +kernel
theorem mD_Mo_play_78 : decode mB_Mo_play 78 = .ok (.iand, 1) := by decide +kernel
theorem mD_Mo_play_79 : decode mB_Mo_play 79 = .ok (.iconst 1, 1) := by decide +kernel
theorem mD_Mo_play_80 : decode mB_Mo_play 80 = .ok (.if_icmp .ne 7, 3) := by decide +kernel
theorem mD_Mo_play_83 : decode mB_Mo_play 83 = .ok (.iconst 1, 1) := by decide +kernel
theorem mD_Mo_play_84 : decode mB_Mo_play 84 = .ok (.goto 4, 3) := by decide +kernel
theorem mD_Mo_play_87 : decode mB_Mo_play 87 = .ok (.iconst 0, 1) := by decide +kernel
theorem mD_Mo_play_88 : decode mB_Mo_play 88 = .ok (.bastore, 1) := by decide +kernel
theorem mD_Mo_play_89 : decode mB_Mo_play 89 = .ok (.iinc 3 1, 3) := by decide +kernel
theorem mD_Mo_play_92 : decode mB_Mo_play 92 = .ok (.goto (-29), 3) := by decide +kernel
theorem mD_Mo_play_95 : decode mB_Mo_play 95 = .ok (.iconst 0, 1) := by decide +kernel
theorem mD_Mo_play_96 : decode mB_Mo_play 96 = .ok (.istore_n 3, 1) := by decide +kernel
theorem mD_Mo_play_97 : decode mB_Mo_play 97 = .ok (.iload_n 3, 1) := by decide +kernel
theorem mD_Mo_play_98 : decode mB_Mo_play 98 = .ok (.iload_n 1, 1) := by decide +kernel
theorem mD_Mo_play_99 : decode mB_Mo_play 99 = .ok (.bipush 8, 2) := by decide +kernel
theorem mD_Mo_play_101 : decode mB_Mo_play 101 = .ok (.isub, 1) := by decide +kernel
theorem mD_Mo_play_102 : decode mB_Mo_play 102 = .ok (.if_icmp .gt 59, 3) := by decide +kernel
theorem mD_Mo_play_105 : decode mB_Mo_play 105 = .ok (.aload_n 0, 1) := by decide +kernel
theorem mD_Mo_play_106 : decode mB_Mo_play 106 = .ok (.getfield 29, 3) := by decide +kernel
theorem mD_Mo_play_109 : decode mB_Mo_play 109 = .ok (.bipush 8, 2) := by decide +kernel
theorem mD_Mo_play_111 : decode mB_Mo_play 111 = .ok (.iload_n 3, 1) := by decide +kernel
theorem mD_Mo_play_112 : decode mB_Mo_play 112 = .ok (.iadd, 1) := by decide +kernel
theorem mD_Mo_play_113 : decode mB_Mo_play 113 = .ok (.aload_n 0, 1) := by decide +kernel
theorem mD_Mo_play_114 : decode mB_Mo_play 114 = .ok (.getfield 20, 3) := by decide +kernel
theorem mD_Mo_play_117 : decode mB_Mo_play 117 = .ok (.iload_n 3, 1) := by decide +kernel
theorem mD_Mo_play_118 : decode mB_Mo_play 118 = .ok (.iaload, 1) := by decide +kernel
theorem mD_Mo_play_119 : decode mB_Mo_play 119 = .ok (.aload_n 0, 1) := by decide +kernel
theorem mD_Mo_play_120 : decode mB_Mo_play 120 = .ok (.getfield 29, 3) := by decide +kernel
theorem mD_Mo_play_123 : decode mB_Mo_play 123 = .ok (.aload_n 0, 1) := by decide +kernel
theorem mD_Mo_play_124 : decode mB_Mo_play 124 = .ok (.getfield 23, 3) := by decide +kernel
theorem mD_Mo_play_127 : decode mB_Mo_play 127 = .ok (.iload_n 3, 1) := by decide +kernel
theorem mD_Mo_play_128 : decode mB_Mo_play 128 = .ok (.iaload, 1) := by decide +kernel
theorem mD_Mo_play_129 : decode mB_Mo_play 129 = .ok (.baload, 1) := by decide +kernel
theorem mD_Mo_play_130 : decode mB_Mo_play 130 = .ok (.aload_n 0, 1) := by decide +kernel
theorem mD_Mo_play_131 : decode mB_Mo_play 131 = .ok (.getfield 29, 3) := by decide +kernel
theorem mD_Mo_play_134 : decode mB_Mo_play 134 = .ok (.aload_n 0, 1) := by decide +kernel
theorem mD_Mo_play_135 : decode mB_Mo_play 135 = .ok (.getfield 26, 3) := by decide +kernel
theorem mD_Mo_play_138 : decode mB_Mo_play 138 = .ok (.iload_n 3, 1) := by decide +kernel
theorem mD_Mo_play_139 : decode mB_Mo_play 139 = .ok (.iaload, 1) := by decide +kernel
theorem mD_Mo_play_140 : decode mB_Mo_play 140 = .ok (.baload, 1) := by decide +kernel
theorem mD_Mo_play_141 : decode mB_Mo_play 141 = .ok (.invokestatic 81, 3) := by decide +kernel
theorem mD_Mo_play_144 : decode mB_Mo_play 144 = .ok (.bastore, 1) := by decide +kernel
theorem mD_Mo_play_145 : decode mB_Mo_play 145 = .ok (.aload_n 0, 1) := by decide +kernel
theorem mD_Mo_play_146 : decode mB_Mo_play 146 = .ok (.dup, 1) := by decide +kernel
theorem mD_Mo_play_147 : decode mB_Mo_play 147 = .ok (.getfield 78, 3) := by decide +kernel
theorem mD_Mo_play_150 : decode mB_Mo_play 150 = .ok (.iconst 1, 1) := by decide +kernel
theorem mD_Mo_play_151 : decode mB_Mo_play 151 = .ok (.iadd, 1) := by decide +kernel
theorem mD_Mo_play_152 : decode mB_Mo_play 152 = .ok (.putfield 78, 3) := by decide +kernel
theorem mD_Mo_play_155 : decode mB_Mo_play 155 = .ok (.iinc 3 1, 3) := by decide +kernel
theorem mD_Mo_play_158 : decode mB_Mo_play 158 = .ok (.goto (-61), 3) := by decide +kernel
theorem mD_Mo_play_161 : decode mB_Mo_play 161 = .ok (.aload_n 0, 1) := by decide +kernel
theorem mD_Mo_play_162 : decode mB_Mo_play 162 = .ok (.aload_n 0, 1) := by decide +kernel
theorem mD_Mo_play_163 : decode mB_Mo_play 163 = .ok (.getfield 29, 3) := by decide +kernel
theorem mD_Mo_play_166 : decode mB_Mo_play 166 = .ok (.iload_n 1, 1) := by decide +kernel
theorem mD_Mo_play_167 : decode mB_Mo_play 167 = .ok (.baload, 1) := by decide +kernel
theorem mD_Mo_play_168 : decode mB_Mo_play 168 = .ok (.ldc 85, 2) := by decide +kernel
theorem mD_Mo_play_170 : decode mB_Mo_play 170 = .ok (.invokevirtual 44, 3) := by decide +kernel
theorem mD_Mo_play_173 : decode mB_Mo_play 173 = .ok (.ireturn, 1) := by decide +kernel
theorem mD_Mo_clear_0 : decode mB_Mo_clear 0 = .ok (.aload_n 0, 1) := by decide +kernel
theorem mD_Mo_clear_1 : decode mB_Mo_clear 1 = .ok (.iconst 0, 1) := by decide +kernel
theorem mD_Mo_clear_2 : decode mB_Mo_clear 2 = .ok (.putfield 32, 3) := by decide +kernel
theorem mD_Mo_clear_5 : decode mB_Mo_clear 5 = .ok (.aload_n 0, 1) := by decide +kernel
theorem mD_Mo_clear_6 : decode mB_Mo_clear 6 = .ok (.getfield 87, 3) := by decide +kernel
theorem mD_Mo_clear_9 : decode mB_Mo_clear 9 = .ok (.istore_n 1, 1) := by decide +kernel
theorem mD_Mo_clear_10 : decode mB_Mo_clear 10 = .ok (.aload_n 0, 1) := by decide +kernel
theorem mD_Mo_clear_11 : decode mB_Mo_clear 11 = .ok (.iconst 0, 1) := by decide +kernel
theorem mD_Mo_clear_12 : decode mB_Mo_clear 12 = .ok (.putfield 87, 3) := by decide +kernel
theorem mD_Mo_clear_15 : decode mB_Mo_clear 15 = .ok (.iload_n 1, 1) := by decide +kernel
theorem mD_Mo_clear_16 : decode mB_Mo_clear 16 = .ok (.ireturn, 1) := by decide +kernel
theorem mD_Mo_count_0 : decode mB_Mo_count 0 = .ok (.aload_n 0, 1) := by decide +kernel
theorem mD_Mo_count_1 : decode mB_Mo_count 1 = .ok (.iload_n 1, 1) := by decide +kernel
theorem mD_Mo_count_2 : decode mB_Mo_count 2 = .ok (.ifCond .lt 12, 3) := by decide +kernel
theorem mD_Mo_count_5 : decode mB_Mo_count 5 = .ok (.iload_n 1, 1) := by decide +kernel
theorem mD_Mo_count_6 : decode mB_Mo_count 6 = .ok (.iconst 4, 1) := by decide +kernel
theorem mD_Mo_count_7 : decode mB_Mo_count 7 = .ok (.if_icmp .gt 7, 3) := by decide +kernel
theorem mD_Mo_count_10 : decode mB_Mo_count 10 = .ok (.iconst 1, 1) := by decide +kernel
theorem mD_Mo_count_11 : decode mB_Mo_count 11 = .ok (.goto 4, 3) := by decide +kernel
theorem mD_Mo_count_14 : decode mB_Mo_count 14 = .ok (.iconst 0, 1) := by decide +kernel
theorem mD_Mo_count_15 : decode mB_Mo_count 15 = .ok (.iconst 1, 1) := by decide +kernel
theorem mD_Mo_count_16 : decode mB_Mo_count 16 = .ok (.iconst 1, 1) := by decide +kernel
theorem mD_Mo_count_17 : decode mB_Mo_count 17 = .ok (.invokevirtual 40, 3) := by decide +kernel
theorem mD_Mo_count_20 : decode mB_Mo_count 20 = .ok (.ifCond .ne 5, 3) := by decide +kernel
theorem mD_Mo_count_23 : decode mB_Mo_count 23 = .ok (.iconst 0, 1) := by decide +kernel
theorem mD_Mo_count_24 : decode mB_Mo_count 24 = .ok (.ireturn, 1) := by decide +kernel
theorem mD_Mo_count_25 : decode mB_Mo_count 25 = .ok (.iconst 0, 1) := by decide +kernel
theorem mD_Mo_count_26 : decode mB_Mo_count 26 = .ok (.istore_n 2, 1) := by decide +kernel
theorem mD_Mo_count_27 : decode mB_Mo_count 27 = .ok (.iconst 0, 1) := by decide +kernel
theorem mD_Mo_count_28 : decode mB_Mo_count 28 = .ok (.istore_n 3, 1) := by decide +kernel
theorem mD_Mo_count_29 : decode mB_Mo_count 29 = .ok (.iload_n 3, 1) := by decide +kernel
theorem mD_Mo_count_30 : decode mB_Mo_count 30 = .ok (.bipush 120, 2) := by decide +kernel
theorem mD_Mo_count_32 : decode mB_Mo_count 32 = .ok (.if_icmp .ge 39, 3) := by decide +kernel
theorem mD_Mo_count_35 : decode mB_Mo_count 35 = .ok (.aload_n 0, 1) := by decide +kernel
theorem mD_Mo_count_36 : decode mB_Mo_count 36 = .ok (.getfield 7, 3) := by decide +kernel
theorem mD_Mo_count_39 : decode mB_Mo_count 39 = .ok (.iload_n 3, 1) := by decide +kernel
theorem mD_Mo_count_40 : decode mB_Mo_count 40 = .ok (.baload, 1) := by decide +kernel
theorem mD_Mo_count_41 : decode mB_Mo_count 41 = .ok (.ifCond .eq 22, 3) := by decide +kernel
theorem mD_Mo_count_44 : decode mB_Mo_count 44 = .ok (.aload_n 0, 1) := by decide +kernel
theorem mD_Mo_count_45 : decode mB_Mo_count 45 = .ok (.getfield 16, 3) := by decide +kernel
theorem mD_Mo_count_48 : decode mB_Mo_count 48 = .ok (.iload_n 3, 1) := by decide +kernel
theorem mD_Mo_count_49 : decode mB_Mo_count 49 = .ok (.iaload, 1) := by decide +kernel
theorem mD_Mo_count_50 : decode mB_Mo_count 50 = .ok (.iload_n 2, 1) := by decide +kernel
theorem mD_Mo_count_51 : decode mB_Mo_count 51 = .ok (.if_icmp .le 12, 3) := by decide +kernel
theorem mD_Mo_count_54 : decode mB_Mo_count 54 = .ok (.aload_n 0, 1) := by decide +kernel
theorem mD_Mo_count_55 : decode mB_Mo_count 55 = .ok (.getfield 16, 3) := by decide +kernel
theorem mD_Mo_count_58 : decode mB_Mo_count 58 = .ok (.iload_n 3, 1) := by decide +kernel
theorem mD_Mo_count_59 : decode mB_Mo_count 59 = .ok (.iaload, 1) := by decide +kernel
theorem mD_Mo_count_60 : decode mB_Mo_count 60 = .ok (.goto 4, 3) := by decide +kernel
theorem mD_Mo_count_63 : decode mB_Mo_count 63 = .ok (.iload_n 2, 1) := by decide +kernel
theorem mD_Mo_count_64 : decode mB_Mo_count 64 = .ok (.istore_n 2, 1) := by decide +kernel
theorem mD_Mo_count_65 : decode mB_Mo_count 65 = .ok (.iinc 3 1, 3) := by decide +kernel
theorem mD_Mo_count_68 : decode mB_Mo_count 68 = .ok (.goto (-39), 3) := by decide +kernel
theorem mD_Mo_count_71 : decode mB_Mo_count 71 = .ok (.iload_n 1, 1) := by decide +kernel
theorem mD_Mo_count_72 : decode mB_Mo_count 72 = .ok (.tableswitch 52 0 3 #[32, 37, 42, 47], 32) := by decide +kernel
theorem mD_Mo_count_104 : decode mB_Mo_count 104 = .ok (.aload_n 0, 1) := by decide +kernel
theorem mD_Mo_count_105 : decode mB_Mo_count 105 = .ok (.invokevirtual 36, 3) := by decide +kernel
theorem mD_Mo_count_108 : decode mB_Mo_count 108 = .ok (.ireturn, 1) := by decide +kernel
theorem mD_Mo_count_109 : decode mB_Mo_count 109 = .ok (.aload_n 0, 1) := by decide +kernel
theorem mD_Mo_count_110 : decode mB_Mo_count 110 = .ok (.getfield 78, 3) := by decide +kernel
theorem mD_Mo_count_113 : decode mB_Mo_count 113 = .ok (.ireturn, 1) := by decide +kernel
theorem mD_Mo_count_114 : decode mB_Mo_count 114 = .ok (.aload_n 0, 1) := by decide +kernel
theorem mD_Mo_count_115 : decode mB_Mo_count 115 = .ok (.getfield 75, 3) := by decide +kernel
theorem mD_Mo_count_118 : decode mB_Mo_count 118 = .ok (.ireturn, 1) := by decide +kernel
theorem mD_Mo_count_119 : decode mB_Mo_count 119 = .ok (.aload_n 0, 1) := by decide +kernel
theorem mD_Mo_count_120 : decode mB_Mo_count 120 = .ok (.getfield 87, 3) := by decide +kernel
theorem mD_Mo_count_123 : decode mB_Mo_count 123 = .ok (.ireturn, 1) := by decide +kernel
theorem mD_Mo_count_124 : decode mB_Mo_count 124 = .ok (.iload_n 2, 1) := by decide +kernel
theorem mD_Mo_count_125 : decode mB_Mo_count 125 = .ok (.ireturn, 1) := by decide +kernel
theorem mD_Ce_init_0 : decode mB_Ce_init 0 = .ok (.aload_n 0, 1) := by decide +kernel
theorem mD_Ce_init_1 : decode mB_Ce_init 1 = .ok (.invokespecial 1, 3) := by decide +kernel
theorem mD_Ce_init_4 : decode mB_Ce_init 4 = .ok (.aload_n 0, 1) := by decide +kernel
theorem mD_Ce_init_5 : decode mB_Ce_init 5 = .ok (.bipush 9, 2) := by decide +kernel
theorem mD_Ce_init_7 : decode mB_Ce_init 7 = .ok (.newarray .int, 2) := by decide +kernel
theorem mD_Ce_init_9 : decode mB_Ce_init 9 = .ok (.putfield 9, 3) := by decide +kernel
theorem mD_Ce_init_12 : decode mB_Ce_init 12 = .ok (.return_, 1) := by decide +kernel
theorem mD_Ce_becomeLike_0 : decode mB_Ce_becomeLike 0 = .ok (.aload_n 1, 1) := by decide +kernel
theorem mD_Ce_becomeLike_1 : decode mB_Ce_becomeLike 1 = .ok (.getfield 9, 3) := by decide +kernel
theorem mD_Ce_becomeLike_4 : decode mB_Ce_becomeLike 4 = .ok (.iconst 0, 1) := by decide +kernel
theorem mD_Ce_becomeLike_5 : decode mB_Ce_becomeLike 5 = .ok (.aload_n 0, 1) := by decide +kernel
theorem mD_Ce_becomeLike_6 : decode mB_Ce_becomeLike 6 = .ok (.getfield 9, 3) := by decide +kernel
theorem mD_Ce_becomeLike_9 : decode mB_Ce_becomeLike 9 = .ok (.iconst 0, 1) := by decide +kernel
theorem mD_Ce_becomeLike_10 : decode mB_Ce_becomeLike 10 = .ok (.bipush 9, 2) := by decide +kernel
theorem mD_Ce_becomeLike_12 : decode mB_Ce_becomeLike 12 = .ok (.invokestatic 15, 3) := by decide +kernel
theorem mD_Ce_becomeLike_15 : decode mB_Ce_becomeLike 15 = .ok (.aload_n 0, 1) := by decide +kernel
theorem mD_Ce_becomeLike_16 : decode mB_Ce_becomeLike 16 = .ok (.aload_n 1, 1) := by decide +kernel
theorem mD_Ce_becomeLike_17 : decode mB_Ce_becomeLike 17 = .ok (.getfield 21, 3) := by decide +kernel
theorem mD_Ce_becomeLike_20 : decode mB_Ce_becomeLike 20 = .ok (.putfield 21, 3) := by decide +kernel
theorem mD_Ce_becomeLike_23 : decode mB_Ce_becomeLike 23 = .ok (.aload_n 0, 1) := by decide +kernel
theorem mD_Ce_becomeLike_24 : decode mB_Ce_becomeLike 24 = .ok (.aload_n 1, 1) := by decide +kernel
theorem mD_Ce_becomeLike_25 : decode mB_Ce_becomeLike 25 = .ok (.getfield 25, 3) := by decide +kernel
theorem mD_Ce_becomeLike_28 : decode mB_Ce_becomeLike 28 = .ok (.putfield 25, 3) := by decide +kernel
theorem mD_Ce_becomeLike_31 : decode mB_Ce_becomeLike 31 = .ok (.return_, 1) := by decide +kernel
theorem mD_Ce_becomeOpposite_0 : decode mB_Ce_becomeOpposite 0 = .ok (.aload_n 0, 1) := by decide +kernel
theorem mD_Ce_becomeOpposite_1 : decode mB_Ce_becomeOpposite 1 = .ok (.aload_n 1, 1) := by decide +kernel
theorem mD_Ce_becomeOpposite_2 : decode mB_Ce_becomeOpposite 2 = .ok (.invokevirtual 29, 3) := by decide +kernel
theorem mD_Ce_becomeOpposite_5 : decode mB_Ce_becomeOpposite 5 = .ok (.aload_n 0, 1) := by decide +kernel
theorem mD_Ce_becomeOpposite_6 : decode mB_Ce_becomeOpposite 6 = .ok (.iconst (-1), 1) := by decide +kernel
theorem mD_Ce_becomeOpposite_7 : decode mB_Ce_becomeOpposite 7 = .ok (.invokevirtual 33, 3) := by decide +kernel
theorem mD_Ce_becomeOpposite_10 : decode mB_Ce_becomeOpposite 10 = .ok (.aload_n 0, 1) := by decide +kernel
theorem mD_Ce_becomeOpposite_11 : decode mB_Ce_becomeOpposite 11 = .ok (.aload_n 1, 1) := by decide +kernel
theorem mD_Ce_becomeOpposite_12 : decode mB_Ce_becomeOpposite 12 = .ok (.getfield 25, 3) := by decide +kernel
theorem mD_Ce_becomeOpposite_15 : decode mB_Ce_becomeOpposite 15 = .ok (.ifCond .ne 7, 3) := by decide +kernel
theorem mD_Ce_becomeOpposite_18 : decode mB_Ce_becomeOpposite 18 = .ok (.iconst 1, 1) := by decide +kernel
theorem mD_Ce_becomeOpposite_19 : decode mB_Ce_becomeOpposite 19 = .ok (.goto 4, 3) := by decide +kernel
theorem mD_Ce_becomeOpposite_22 : decode mB_Ce_becomeOpposite 22 = .ok (.iconst 0, 1) := by decide +kernel
theorem mD_Ce_becomeOpposite_23 : decode mB_Ce_becomeOpposite 23 = .ok (.putfield 25, 3) := by decide +kernel
theorem mD_Ce_becomeOpposite_26 : decode mB_Ce_becomeOpposite 26 = .ok (.return_, 1) := by decide +kernel
theorem mD_Ce_addRow_0 : decode mB_Ce_addRow 0 = .ok (.iconst 0, 1) := by decide +kernel
theorem mD_Ce_addRow_1 : decode mB_Ce_addRow 1 = .ok (.istore_n 2, 1) := by decide +kernel
theorem mD_Ce_addRow_2 : decode mB_Ce_addRow 2 = .ok (.iload_n 2, 1) := by decide +kernel
theorem mD_Ce_addRow_3 : decode mB_Ce_addRow 3 = .ok (.bipush 9, 2) := by decide +kernel
theorem mD_Ce_addRow_5 : decode mB_Ce_addRow 5 = .ok (.if_icmp .ge 21, 3) := by decide +kernel
theorem mD_Ce_addRow_8 : decode mB_Ce_addRow 8 = .ok (.aload_n 0, 1) := by decide +kernel
theorem mD_Ce_addRow_9 : decode mB_Ce_addRow 9 = .ok (.getfield 9, 3) := by decide +kernel
theorem mD_Ce_addRow_12 : decode mB_Ce_addRow 12 = .ok (.iload_n 2, 1) := by decide +kernel
theorem mD_Ce_addRow_13 : decode mB_Ce_addRow 13 = .ok (.dup2, 1) := by decide +kernel
theorem mD_Ce_addRow_14 : decode mB_Ce_addRow 14 = .ok (.iaload, 1) := by decide +kernel
theorem mD_Ce_addRow_15 : decode mB_Ce_addRow 15 = .ok (.aload_n 1, 1) := by decide +kernel
theorem mD_Ce_addRow_16 : decode mB_Ce_addRow 16 = .ok (.iload_n 2, 1) := by decide +kernel
theorem mD_Ce_addRow_17 : decode mB_Ce_addRow 17 = .ok (.iaload, 1) := by decide +kernel
theorem mD_Ce_addRow_18 : decode mB_Ce_addRow 18 = .ok (.iadd, 1) := by decide +kernel
theorem mD_Ce_addRow_19 : decode mB_Ce_addRow 19 = .ok (.iastore, 1) := by decide +kernel
theorem mD_Ce_addRow_20 : decode mB_Ce_addRow 20 = .ok (.iinc 2 1, 3) := by decide +kernel
theorem mD_Ce_addRow_23 : decode mB_Ce_addRow 23 = .ok (.goto (-21), 3) := by decide +kernel
theorem mD_Ce_addRow_26 : decode mB_Ce_addRow 26 = .ok (.return_, 1) := by decide +kernel
theorem mD_Ce_multiply_0 : decode mB_Ce_multiply 0 = .ok (.iconst 0, 1) := by decide +kernel
theorem mD_Ce_multiply_1 : decode mB_Ce_multiply 1 = .ok (.istore_n 2, 1) := by decide +kernel
theorem mD_Ce_multiply_2 : decode mB_Ce_multiply 2 = .ok (.iload_n 2, 1) := by decide +kernel
theorem mD_Ce_multiply_3 : decode mB_Ce_multiply 3 = .ok (.bipush 9, 2) := by decide +kernel
theorem mD_Ce_multiply_5 : decode mB_Ce_multiply 5 = .ok (.if_icmp .ge 19, 3) := by decide +kernel
theorem mD_Ce_multiply_8 : decode mB_Ce_multiply 8 = .ok (.aload_n 0, 1) := by decide +kernel
theorem mD_Ce_multiply_9 : decode mB_Ce_multiply 9 = .ok (.getfield 9, 3) := by decide +kernel
theorem mD_Ce_multiply_12 : decode mB_Ce_multiply 12 = .ok (.iload_n 2, 1) := by decide +kernel
theorem mD_Ce_multiply_13 : decode mB_Ce_multiply 13 = .ok (.dup2, 1) := by decide +kernel
theorem mD_Ce_multiply_14 : decode mB_Ce_multiply 14 = .ok (.iaload, 1) := by decide +kernel
theorem mD_Ce_multiply_15 : decode mB_Ce_multiply 15 = .ok (.iload_n 1, 1) := by decide +kernel
theorem mD_Ce_multiply_16 : decode mB_Ce_multiply 16 = .ok (.imul, 1) := by decide +kernel
theorem mD_Ce_multiply_17 : decode mB_Ce_multiply 17 = .ok (.iastore, 1) := by decide +kernel
theorem mD_Ce_multiply_18 : decode mB_Ce_multiply 18 = .ok (.iinc 2 1, 3) := by decide +kernel
theorem mD_Ce_multiply_21 : decode mB_Ce_multiply 21 = .ok (.goto (-19), 3) := by decide +kernel
theorem mD_Ce_multiply_24 : decode mB_Ce_multiply 24 = .ok (.return_, 1) := by decide +kernel
theorem mD_Ci_init_0 : decode mB_Ci_init 0 = .ok (.aload_n 0, 1) := by decide +kernel
theorem mD_Ci_init_1 : decode mB_Ci_init 1 = .ok (.invokespecial 3, 3) := by decide +kernel
theorem mD_Ci_init_4 : decode mB_Ci_init 4 = .ok (.aload_n 0, 1) := by decide +kernel
theorem mD_Ci_init_5 : decode mB_Ci_init 5 = .ok (.bipush 24, 2) := by decide +kernel
theorem mD_Ci_init_7 : decode mB_Ci_init 7 = .ok (.newarray .int, 2) := by decide +kernel
theorem mD_Ci_init_9 : decode mB_Ci_init 9 = .ok (.putfield 9, 3) := by decide +kernel
theorem mD_Ci_init_12 : decode mB_Ci_init 12 = .ok (.aload_n 0, 1) := by decide +kernel
theorem mD_Ci_init_13 : decode mB_Ci_init 13 = .ok (.bipush 24, 2) := by decide +kernel
theorem mD_Ci_init_15 : decode mB_Ci_init 15 = .ok (.newarray .int, 2) := by decide +kernel
theorem mD_Ci_init_17 : decode mB_Ci_init 17 = .ok (.putfield 15, 3) := by decide +kernel
theorem mD_Ci_init_20 : decode mB_Ci_init 20 = .ok (.aload_n 0, 1) := by decide +kernel
theorem mD_Ci_init_21 : decode mB_Ci_init 21 = .ok (.bipush 24, 2) := by decide +kernel
theorem mD_Ci_init_23 : decode mB_Ci_init 23 = .ok (.newarray .int, 2) := by decide +kernel
theorem mD_Ci_init_25 : decode mB_Ci_init 25 = .ok (.putfield 18, 3) := by decide +kernel
theorem mD_Ci_init_28 : decode mB_Ci_init 28 = .ok (.return_, 1) := by decide +kernel
theorem mD_Ci_isAhead_0 : decode mB_Ci_isAhead 0 = .ok (.iload_n 1, 1) := by decide +kernel
theorem mD_Ci_isAhead_1 : decode mB_Ci_isAhead 1 = .ok (.ifCond .lt 18, 3) := by decide +kernel
theorem mD_Ci_isAhead_4 : decode mB_Ci_isAhead 4 = .ok (.iload_n 1, 1) := by decide +kernel
theorem mD_Ci_isAhead_5 : decode mB_Ci_isAhead 5 = .ok (.bipush 8, 2) := by decide +kernel
theorem mD_Ci_isAhead_7 : decode mB_Ci_isAhead 7 = .ok (.aload_n 0, 1) := by decide +kernel
theorem mD_Ci_isAhead_8 : decode mB_Ci_isAhead 8 = .ok (.getfield 21, 3) := by decide +kernel
theorem mD_Ci_isAhead_11 : decode mB_Ci_isAhead 11 = .ok (.iadd, 1) := by decide +kernel
theorem mD_Ci_isAhead_12 : decode mB_Ci_isAhead 12 = .ok (.if_icmp .ge 7, 3) := by decide +kernel
theorem mD_Ci_isAhead_15 : decode mB_Ci_isAhead 15 = .ok (.iconst 1, 1) := by decide +kernel
theorem mD_Ci_isAhead_16 : decode mB_Ci_isAhead 16 = .ok (.goto 4, 3) := by decide +kernel
theorem mD_Ci_isAhead_19 : decode mB_Ci_isAhead 19 = .ok (.iconst 0, 1) := by decide +kernel
theorem mD_Ci_isAhead_20 : decode mB_Ci_isAhead 20 = .ok (.ireturn, 1) := by decide +kernel
theorem mD_Ci_hasLine_0 : decode mB_Ci_hasLine 0 = .ok (.iload_n 1, 1) := by decide +kernel
theorem mD_Ci_hasLine_1 : decode mB_Ci_hasLine 1 = .ok (.bipush 8, 2) := by decide +kernel
theorem mD_Ci_hasLine_3 : decode mB_Ci_hasLine 3 = .ok (.if_icmp .lt 15, 3) := by decide +kernel
theorem mD_Ci_hasLine_6 : decode mB_Ci_hasLine 6 = .ok (.aload_n 0, 1) := by decide +kernel
theorem mD_Ci_hasLine_7 : decode mB_Ci_hasLine 7 = .ok (.iload_n 1, 1) := by decide +kernel
theorem mD_Ci_hasLine_8 : decode mB_Ci_hasLine 8 = .ok (.invokevirtual 25, 3) := by decide +kernel
theorem mD_Ci_hasLine_11 : decode mB_Ci_hasLine 11 = .ok (.ifCond .eq 7, 3) := by decide +kernel
theorem mD_Ci_hasLine_14 : decode mB_Ci_hasLine 14 = .ok (.iconst 1, 1) := by decide +kernel
theorem mD_Ci_hasLine_15 : decode mB_Ci_hasLine 15 = .ok (.goto 4, 3) := by decide +kernel
theorem mD_Ci_hasLine_18 : decode mB_Ci_hasLine 18 = .ok (.iconst 0, 1) := by decide +kernel
theorem mD_Ci_hasLine_19 : decode mB_Ci_hasLine 19 = .ok (.ireturn, 1) := by decide +kernel
theorem mD_Ci_add_0 : decode mB_Ci_add 0 = .ok (.aload_n 0, 1) := by decide +kernel
theorem mD_Ci_add_1 : decode mB_Ci_add 1 = .ok (.getfield 9, 3) := by decide +kernel
theorem mD_Ci_add_4 : decode mB_Ci_add 4 = .ok (.aload_n 0, 1) := by decide +kernel
theorem mD_Ci_add_5 : decode mB_Ci_add 5 = .ok (.getfield 21, 3) := by decide +kernel
theorem mD_Ci_add_8 : decode mB_Ci_add 8 = .ok (.iload_n 1, 1) := by decide +kernel
theorem mD_Ci_add_9 : decode mB_Ci_add 9 = .ok (.iastore, 1) := by decide +kernel
theorem mD_Ci_add_10 : decode mB_Ci_add 10 = .ok (.aload_n 0, 1) := by decide +kernel
theorem mD_Ci_add_11 : decode mB_Ci_add 11 = .ok (.getfield 15, 3) := by decide +kernel
theorem mD_Ci_add_14 : decode mB_Ci_add 14 = .ok (.aload_n 0, 1) := by decide +kernel
theorem mD_Ci_add_15 : decode mB_Ci_add 15 = .ok (.getfield 21, 3) := by decide +kernel
theorem mD_Ci_add_18 : decode mB_Ci_add 18 = .ok (.iload_n 2, 1) := by decide +kernel
theorem mD_Ci_add_19 : decode mB_Ci_add 19 = .ok (.iastore, 1) := by decide +kernel
theorem mD_Ci_add_20 : decode mB_Ci_add 20 = .ok (.aload_n 0, 1) := by decide +kernel
theorem mD_Ci_add_21 : decode mB_Ci_add 21 = .ok (.getfield 18, 3) := by decide +kernel
theorem mD_Ci_add_24 : decode mB_Ci_add 24 = .ok (.aload_n 0, 1) := by decide +kernel
theorem mD_Ci_add_25 : decode mB_Ci_add 25 = .ok (.getfield 21, 3) := by decide +kernel
theorem mD_Ci_add_28 : decode mB_Ci_add 28 = .ok (.iload_n 3, 1) := by decide +kernel
theorem mD_Ci_add_29 : decode mB_Ci_add 29 = .ok (.iastore, 1) := by decide +kernel
theorem mD_Ci_add_30 : decode mB_Ci_add 30 = .ok (.aload_n 0, 1) := by decide +kernel
theorem mD_Ci_add_31 : decode mB_Ci_add 31 = .ok (.dup, 1) := by decide +kernel
theorem mD_Ci_add_32 : decode mB_Ci_add 32 = .ok (.getfield 21, 3) := by decide +kernel
theorem mD_Ci_add_35 : decode mB_Ci_add 35 = .ok (.iconst 1, 1) := by decide +kernel
theorem mD_Ci_add_36 : decode mB_Ci_add 36 = .ok (.iadd, 1) := by decide +kernel
theorem mD_Ci_add_37 : decode mB_Ci_add 37 = .ok (.putfield 21, 3) := by decide +kernel
theorem mD_Ci_add_40 : decode mB_Ci_add 40 = .ok (.bipush 8, 2) := by decide +kernel
theorem mD_Ci_add_42 : decode mB_Ci_add 42 = .ok (.aload_n 0, 1) := by decide +kernel
theorem mD_Ci_add_43 : decode mB_Ci_add 43 = .ok (.getfield 21, 3) := by decide +kernel
theorem mD_Ci_add_46 : decode mB_Ci_add 46 = .ok (.iadd, 1) := by decide +kernel
theorem mD_Ci_add_47 : decode mB_Ci_add 47 = .ok (.iconst 1, 1) := by decide +kernel
theorem mD_Ci_add_48 : decode mB_Ci_add 48 = .ok (.isub, 1) := by decide +kernel
theorem mD_Ci_add_49 : decode mB_Ci_add 49 = .ok (.ireturn, 1) := by decide +kernel
theorem mD_Ci_removeAll_0 : decode mB_Ci_removeAll 0 = .ok (.aload_n 0, 1) := by decide +kernel
theorem mD_Ci_removeAll_1 : decode mB_Ci_removeAll 1 = .ok (.getfield 21, 3) := by decide +kernel
theorem mD_Ci_removeAll_4 : decode mB_Ci_removeAll 4 = .ok (.istore_n 1, 1) := by decide +kernel
theorem mD_Ci_removeAll_5 : decode mB_Ci_removeAll 5 = .ok (.aload_n 0, 1) := by decide +kernel
theorem mD_Ci_removeAll_6 : decode mB_Ci_removeAll 6 = .ok (.iconst 0, 1) := by decide +kernel
theorem mD_Ci_removeAll_7 : decode mB_Ci_removeAll 7 = .ok (.putfield 21, 3) := by decide +kernel
theorem mD_Ci_removeAll_10 : decode mB_Ci_removeAll 10 = .ok (.iload_n 1, 1) := by decide +kernel
theorem mD_Ci_removeAll_11 : decode mB_Ci_removeAll 11 = .ok (.ireturn, 1) := by decide +kernel
theorem mD_Di_digit_0 : decode mB_Di_digit 0 = .ok (.iload_n 0, 1) := by decide +kernel
theorem mD_Di_digit_1 : decode mB_Di_digit 1 = .ok (.ldc 9, 2) := by decide +kernel
theorem mD_Di_digit_3 : decode mB_Di_digit 3 = .ok (.iadd, 1) := by decide +kernel
theorem mD_Di_digit_4 : decode mB_Di_digit 4 = .ok (.bipush 22, 2) := by decide +kernel
theorem mD_Di_digit_6 : decode mB_Di_digit 6 = .ok (.bipush 10, 2) := by decide +kernel
theorem mD_Di_digit_8 : decode mB_Di_digit 8 = .ok (.iload_n 1, 1) := by decide +kernel
theorem mD_Di_digit_9 : decode mB_Di_digit 9 = .ok (.imul, 1) := by decide +kernel
theorem mD_Di_digit_10 : decode mB_Di_digit 10 = .ok (.isub, 1) := by decide +kernel
theorem mD_Di_digit_11 : decode mB_Di_digit 11 = .ok (.iushr, 1) := by decide +kernel
theorem mD_Di_digit_12 : decode mB_Di_digit 12 = .ok (.sipush 1023, 3) := by decide +kernel
theorem mD_Di_digit_15 : decode mB_Di_digit 15 = .ok (.iand, 1) := by decide +kernel
theorem mD_Di_digit_16 : decode mB_Di_digit 16 = .ok (.sipush 512, 3) := by decide +kernel
theorem mD_Di_digit_19 : decode mB_Di_digit 19 = .ok (.isub, 1) := by decide +kernel
theorem mD_Di_digit_20 : decode mB_Di_digit 20 = .ok (.ireturn, 1) := by decide +kernel
theorem mD_Di_weight_0 : decode mB_Di_weight 0 = .ok (.iconst 1, 1) := by decide +kernel
theorem mD_Di_weight_1 : decode mB_Di_weight 1 = .ok (.bipush 22, 2) := by decide +kernel
theorem mD_Di_weight_3 : decode mB_Di_weight 3 = .ok (.bipush 10, 2) := by decide +kernel
theorem mD_Di_weight_5 : decode mB_Di_weight 5 = .ok (.iload_n 0, 1) := by decide +kernel
theorem mD_Di_weight_6 : decode mB_Di_weight 6 = .ok (.imul, 1) := by decide +kernel
theorem mD_Di_weight_7 : decode mB_Di_weight 7 = .ok (.isub, 1) := by decide +kernel
theorem mD_Di_weight_8 : decode mB_Di_weight 8 = .ok (.ishl, 1) := by decide +kernel
theorem mD_Di_weight_9 : decode mB_Di_weight 9 = .ok (.ireturn, 1) := by decide +kernel
theorem mD_Le_init_0 : decode mB_Le_init 0 = .ok (.aload_n 0, 1) := by decide +kernel
theorem mD_Le_init_1 : decode mB_Le_init 1 = .ok (.invokespecial 3, 3) := by decide +kernel
theorem mD_Le_init_4 : decode mB_Le_init 4 = .ok (.aload_n 0, 1) := by decide +kernel
theorem mD_Le_init_5 : decode mB_Le_init 5 = .ok (.bipush 120, 2) := by decide +kernel
theorem mD_Le_init_7 : decode mB_Le_init 7 = .ok (.anewarray 9, 3) := by decide +kernel
theorem mD_Le_init_10 : decode mB_Le_init 10 = .ok (.putfield 11, 3) := by decide +kernel
theorem mD_Le_init_13 : decode mB_Le_init 13 = .ok (.iconst 0, 1) := by decide +kernel
theorem mD_Le_init_14 : decode mB_Le_init 14 = .ok (.istore_n 1, 1) := by decide +kernel
theorem mD_Le_init_15 : decode mB_Le_init 15 = .ok (.iload_n 1, 1) := by decide +kernel
theorem mD_Le_init_16 : decode mB_Le_init 16 = .ok (.bipush 120, 2) := by decide +kernel
theorem mD_Le_init_18 : decode mB_Le_init 18 = .ok (.if_icmp .ge 22, 3) := by decide +kernel
theorem mD_Le_init_21 : decode mB_Le_init 21 = .ok (.aload_n 0, 1) := by decide +kernel
theorem mD_Le_init_22 : decode mB_Le_init 22 = .ok (.getfield 11, 3) := by decide +kernel
theorem mD_Le_init_25 : decode mB_Le_init 25 = .ok (.iload_n 1, 1) := by decide +kernel
theorem mD_Le_init_26 : decode mB_Le_init 26 = .ok (.new 9, 3) := by decide +kernel
theorem mD_Le_init_29 : decode mB_Le_init 29 = .ok (.dup, 1) := by decide +kernel
theorem mD_Le_init_30 : decode mB_Le_init 30 = .ok (.invokespecial 17, 3) := by decide +kernel
theorem mD_Le_init_33 : decode mB_Le_init 33 = .ok (.aastore, 1) := by decide +kernel
theorem mD_Le_init_34 : decode mB_Le_init 34 = .ok (.iinc 1 1, 3) := by decide +kernel
theorem mD_Le_init_37 : decode mB_Le_init 37 = .ok (.goto (-22), 3) := by decide +kernel
theorem mD_Le_init_40 : decode mB_Le_init 40 = .ok (.return_, 1) := by decide +kernel
theorem mD_Le_holds_0 : decode mB_Le_holds 0 = .ok (.iload_n 1, 1) := by decide +kernel
theorem mD_Le_holds_1 : decode mB_Le_holds 1 = .ok (.ifCond .lt 25, 3) := by decide +kernel
theorem mD_Le_holds_4 : decode mB_Le_holds 4 = .ok (.iload_n 1, 1) := by decide +kernel
theorem mD_Le_holds_5 : decode mB_Le_holds 5 = .ok (.bipush 120, 2) := by decide +kernel
theorem mD_Le_holds_7 : decode mB_Le_holds 7 = .ok (.if_icmp .ge 19, 3) := by decide +kernel
theorem mD_Le_holds_10 : decode mB_Le_holds 10 = .ok (.aload_n 0, 1) := by decide +kernel
theorem mD_Le_holds_11 : decode mB_Le_holds 11 = .ok (.getfield 11, 3) := by decide +kernel
theorem mD_Le_holds_14 : decode mB_Le_holds 14 = .ok (.iload_n 1, 1) := by decide +kernel
theorem mD_Le_holds_15 : decode mB_Le_holds 15 = .ok (.aaload, 1) := by decide +kernel
theorem mD_Le_holds_16 : decode mB_Le_holds 16 = .ok (.getfield 18, 3) := by decide +kernel
theorem mD_Le_holds_19 : decode mB_Le_holds 19 = .ok (.ifCond .eq 7, 3) := by decide +kernel
theorem mD_Le_holds_22 : decode mB_Le_holds 22 = .ok (.iconst 1, 1) := by decide +kernel
theorem mD_Le_holds_23 : decode mB_Le_holds 23 = .ok (.goto 4, 3) := by decide +kernel
theorem mD_Le_holds_26 : decode mB_Le_holds 26 = .ok (.iconst 0, 1) := by decide +kernel
theorem mD_Le_holds_27 : decode mB_Le_holds 27 = .ok (.ireturn, 1) := by decide +kernel
theorem mD_Le_leastFree_0 : decode mB_Le_leastFree 0 = .ok (.iconst 0, 1) := by decide +kernel
theorem mD_Le_leastFree_1 : decode mB_Le_leastFree 1 = .ok (.istore_n 1, 1) := by decide +kernel
theorem mD_Le_leastFree_2 : decode mB_Le_leastFree 2 = .ok (.iload_n 1, 1) := by decide +kernel
theorem mD_Le_leastFree_3 : decode mB_Le_leastFree 3 = .ok (.bipush 120, 2) := by decide +kernel
theorem mD_Le_leastFree_5 : decode mB_Le_leastFree 5 = .ok (.if_icmp .ge 23, 3) := by decide +kernel
theorem mD_Le_leastFree_8 : decode mB_Le_leastFree 8 = .ok (.aload_n 0, 1) := by decide +kernel
theorem mD_Le_leastFree_9 : decode mB_Le_leastFree 9 = .ok (.getfield 11, 3) := by decide +kernel
theorem mD_Le_leastFree_12 : decode mB_Le_leastFree 12 = .ok (.iload_n 1, 1) := by decide +kernel
theorem mD_Le_leastFree_13 : decode mB_Le_leastFree 13 = .ok (.aaload, 1) := by decide +kernel
theorem mD_Le_leastFree_14 : decode mB_Le_leastFree 14 = .ok (.getfield 18, 3) := by decide +kernel
theorem mD_Le_leastFree_17 : decode mB_Le_leastFree 17 = .ok (.ifCond .ne 5, 3) := by decide +kernel
theorem mD_Le_leastFree_20 : decode mB_Le_leastFree 20 = .ok (.iload_n 1, 1) := by decide +kernel
theorem mD_Le_leastFree_21 : decode mB_Le_leastFree 21 = .ok (.ireturn, 1) := by decide +kernel
theorem mD_Le_leastFree_22 : decode mB_Le_leastFree 22 = .ok (.iinc 1 1, 3) := by decide +kernel
theorem mD_Le_leastFree_25 : decode mB_Le_leastFree 25 = .ok (.goto (-23), 3) := by decide +kernel
theorem mD_Le_leastFree_28 : decode mB_Le_leastFree 28 = .ok (.iconst (-1), 1) := by decide +kernel
theorem mD_Le_leastFree_29 : decode mB_Le_leastFree 29 = .ok (.ireturn, 1) := by decide +kernel
theorem mD_Le_take_0 : decode mB_Le_take 0 = .ok (.aload_n 0, 1) := by decide +kernel
theorem mD_Le_take_1 : decode mB_Le_take 1 = .ok (.getfield 11, 3) := by decide +kernel
theorem mD_Le_take_4 : decode mB_Le_take 4 = .ok (.iload_n 1, 1) := by decide +kernel
theorem mD_Le_take_5 : decode mB_Le_take 5 = .ok (.aaload, 1) := by decide +kernel
theorem mD_Le_take_6 : decode mB_Le_take 6 = .ok (.astore_n 2, 1) := by decide +kernel
theorem mD_Le_take_7 : decode mB_Le_take 7 = .ok (.aload_n 2, 1) := by decide +kernel
theorem mD_Le_take_8 : decode mB_Le_take 8 = .ok (.iconst 1, 1) := by decide +kernel
theorem mD_Le_take_9 : decode mB_Le_take 9 = .ok (.putfield 18, 3) := by decide +kernel
theorem mD_Le_take_12 : decode mB_Le_take 12 = .ok (.aload_n 0, 1) := by decide +kernel
theorem mD_Le_take_13 : decode mB_Le_take 13 = .ok (.dup, 1) := by decide +kernel
theorem mD_Le_take_14 : decode mB_Le_take 14 = .ok (.getfield 22, 3) := by decide +kernel
theorem mD_Le_take_17 : decode mB_Le_take 17 = .ok (.iconst 1, 1) := by decide +kernel
theorem mD_Le_take_18 : decode mB_Le_take 18 = .ok (.iadd, 1) := by decide +kernel
theorem mD_Le_take_19 : decode mB_Le_take 19 = .ok (.putfield 22, 3) := by decide +kernel
theorem mD_Le_take_22 : decode mB_Le_take 22 = .ok (.aload_n 2, 1) := by decide +kernel
theorem mD_Le_take_23 : decode mB_Le_take 23 = .ok (.areturn, 1) := by decide +kernel
theorem mD_Le_remove_0 : decode mB_Le_remove 0 = .ok (.aload_n 1, 1) := by decide +kernel
theorem mD_Le_remove_1 : decode mB_Le_remove 1 = .ok (.iconst 0, 1) := by decide +kernel
theorem mD_Le_remove_2 : decode mB_Le_remove 2 = .ok (.putfield 18, 3) := by decide +kernel
theorem mD_Le_remove_5 : decode mB_Le_remove 5 = .ok (.aload_n 0, 1) := by decide +kernel
theorem mD_Le_remove_6 : decode mB_Le_remove 6 = .ok (.dup, 1) := by decide +kernel
theorem mD_Le_remove_7 : decode mB_Le_remove 7 = .ok (.getfield 22, 3) := by decide +kernel
theorem mD_Le_remove_10 : decode mB_Le_remove 10 = .ok (.iconst 1, 1) := by decide +kernel
theorem mD_Le_remove_11 : decode mB_Le_remove 11 = .ok (.isub, 1) := by decide +kernel
theorem mD_Le_remove_12 : decode mB_Le_remove 12 = .ok (.putfield 22, 3) := by decide +kernel
theorem mD_Le_remove_15 : decode mB_Le_remove 15 = .ok (.return_, 1) := by decide +kernel
theorem mD_Le_removeAll_0 : decode mB_Le_removeAll 0 = .ok (.aload_n 0, 1) := by decide +kernel
theorem mD_Le_removeAll_1 : decode mB_Le_removeAll 1 = .ok (.getfield 22, 3) := by decide +kernel
theorem mD_Le_removeAll_4 : decode mB_Le_removeAll 4 = .ok (.istore_n 1, 1) := by decide +kernel
theorem mD_Le_removeAll_5 : decode mB_Le_removeAll 5 = .ok (.iconst 0, 1) := by decide +kernel
theorem mD_Le_removeAll_6 : decode mB_Le_removeAll 6 = .ok (.istore_n 2, 1) := by decide +kernel
theorem mD_Le_removeAll_7 : decode mB_Le_removeAll 7 = .ok (.iload_n 2, 1) := by decide +kernel
theorem mD_Le_removeAll_8 : decode mB_Le_removeAll 8 = .ok (.bipush 120, 2) := by decide +kernel
theorem mD_Le_removeAll_10 : decode mB_Le_removeAll 10 = .ok (.if_icmp .ge 19, 3) := by decide +kernel
theorem mD_Le_removeAll_13 : decode mB_Le_removeAll 13 = .ok (.aload_n 0, 1) := by decide +kernel
theorem mD_Le_removeAll_14 : decode mB_Le_removeAll 14 = .ok (.getfield 11, 3) := by decide +kernel
theorem mD_Le_removeAll_17 : decode mB_Le_removeAll 17 = .ok (.iload_n 2, 1) := by decide +kernel
theorem mD_Le_removeAll_18 : decode mB_Le_removeAll 18 = .ok (.aaload, 1) := by decide +kernel
theorem mD_Le_removeAll_19 : decode mB_Le_removeAll 19 = .ok (.iconst 0, 1) := by decide +kernel
theorem mD_Le_removeAll_20 : decode mB_Le_removeAll 20 = .ok (.putfield 18, 3) := by decide +kernel
theorem mD_Le_removeAll_23 : decode mB_Le_removeAll 23 = .ok (.iinc 2 1, 3) := by decide +kernel
theorem mD_Le_removeAll_26 : decode mB_Le_removeAll 26 = .ok (.goto (-19), 3) := by decide +kernel
theorem mD_Le_removeAll_29 : decode mB_Le_removeAll 29 = .ok (.aload_n 0, 1) := by decide +kernel
theorem mD_Le_removeAll_30 : decode mB_Le_removeAll 30 = .ok (.iconst 0, 1) := by decide +kernel
theorem mD_Le_removeAll_31 : decode mB_Le_removeAll 31 = .ok (.putfield 22, 3) := by decide +kernel
theorem mD_Le_removeAll_34 : decode mB_Le_removeAll 34 = .ok (.iload_n 1, 1) := by decide +kernel
theorem mD_Le_removeAll_35 : decode mB_Le_removeAll 35 = .ok (.ireturn, 1) := by decide +kernel
theorem mD_Le_greatestBound_0 : decode mB_Le_greatestBound 0 = .ok (.iconst 0, 1) := by decide +kernel
theorem mD_Le_greatestBound_1 : decode mB_Le_greatestBound 1 = .ok (.istore_n 1, 1) := by decide +kernel
theorem mD_Le_greatestBound_2 : decode mB_Le_greatestBound 2 = .ok (.iconst 0, 1) := by decide +kernel
theorem mD_Le_greatestBound_3 : decode mB_Le_greatestBound 3 = .ok (.istore_n 2, 1) := by decide +kernel
theorem mD_Le_greatestBound_4 : decode mB_Le_greatestBound 4 = .ok (.iload_n 2, 1) := by decide +kernel
theorem mD_Le_greatestBound_5 : decode mB_Le_greatestBound 5 = .ok (.bipush 120, 2) := by decide +kernel
theorem mD_Le_greatestBound_7 : decode mB_Le_greatestBound 7 = .ok (.if_icmp .ge 44, 3) := by decide +kernel
theorem mD_Le_greatestBound_10 : decode mB_Le_greatestBound 10 = .ok (.aload_n 0, 1) := by decide +kernel
theorem mD_Le_greatestBound_11 : decode mB_Le_greatestBound 11 = .ok (.getfield 11, 3) := by decide +kernel
theorem mD_Le_greatestBound_14 : decode mB_Le_greatestBound 14 = .ok (.iload_n 2, 1) := by decide +kernel
theorem mD_Le_greatestBound_15 : decode mB_Le_greatestBound 15 = .ok (.aaload, 1) := by decide +kernel
theorem mD_Le_greatestBound_16 : decode mB_Le_greatestBound 16 = .ok (.getfield 18, 3) := by decide +kernel
theorem mD_Le_greatestBound_19 : decode mB_Le_greatestBound 19 = .ok (.ifCond .eq 26, 3) := by decide +kernel
theorem mD_Le_greatestBound_22 : decode mB_Le_greatestBound 22 = .ok (.aload_n 0, 1) := by decide +kernel
theorem mD_Le_greatestBound_23 : decode mB_Le_greatestBound 23 = .ok (.getfield 11, 3) := by decide +kernel
theorem mD_Le_greatestBound_26 : decode mB_Le_greatestBound 26 = .ok (.iload_n 2, 1) := by decide +kernel
theorem mD_Le_greatestBound_27 : decode mB_Le_greatestBound 27 = .ok (.aaload, 1) := by decide +kernel
theorem mD_Le_greatestBound_28 : decode mB_Le_greatestBound 28 = .ok (.getfield 26, 3) := by decide +kernel
theorem mD_Le_greatestBound_31 : decode mB_Le_greatestBound 31 = .ok (.iload_n 1, 1) := by decide +kernel
theorem mD_Le_greatestBound_32 : decode mB_Le_greatestBound 32 = .ok (.if_icmp .le 13, 3) := by decide +kernel
theorem mD_Le_greatestBound_35 : decode mB_Le_greatestBound 35 = .ok (.aload_n 0, 1) := by decide +kernel
theorem mD_Le_greatestBound_36 : decode mB_Le_greatestBound 36 = .ok (.getfield 11, 3) := by decide +kernel
theorem mD_Le_greatestBound_39 : decode mB_Le_greatestBound 39 = .ok (.iload_n 2, 1) := by decide +kernel
theorem mD_Le_greatestBound_40 : decode mB_Le_greatestBound 40 = .ok (.aaload, 1) := by decide +kernel
theorem mD_Le_greatestBound_41 : decode mB_Le_greatestBound 41 = .ok (.getfield 26, 3) := by decide +kernel
theorem mD_Le_greatestBound_44 : decode mB_Le_greatestBound 44 = .ok (.istore_n 1, 1) := by decide +kernel
theorem mD_Le_greatestBound_45 : decode mB_Le_greatestBound 45 = .ok (.iinc 2 1, 3) := by decide +kernel
theorem mD_Le_greatestBound_48 : decode mB_Le_greatestBound 48 = .ok (.goto (-44), 3) := by decide +kernel
theorem mD_Le_greatestBound_51 : decode mB_Le_greatestBound 51 = .ok (.iload_n 1, 1) := by decide +kernel
theorem mD_Le_greatestBound_52 : decode mB_Le_greatestBound 52 = .ok (.ireturn, 1) := by decide +kernel
theorem mD_Re_init_0 : decode mB_Re_init 0 = .ok (.aload_n 0, 1) := by decide +kernel
theorem mD_Re_init_1 : decode mB_Re_init 1 = .ok (.invokespecial 3, 3) := by decide +kernel
theorem mD_Re_init_4 : decode mB_Re_init 4 = .ok (.aload_n 0, 1) := by decide +kernel
theorem mD_Re_init_5 : decode mB_Re_init 5 = .ok (.bipush 32, 2) := by decide +kernel
theorem mD_Re_init_7 : decode mB_Re_init 7 = .ok (.bipush 64, 2) := by decide +kernel
theorem mD_Re_init_9 : decode mB_Re_init 9 = .ok (.multianewarray 15 2, 4) := by decide +kernel
theorem mD_Re_init_13 : decode mB_Re_init 13 = .ok (.putfield 17, 3) := by decide +kernel
theorem mD_Re_init_16 : decode mB_Re_init 16 = .ok (.aload_n 0, 1) := by decide +kernel
theorem mD_Re_init_17 : decode mB_Re_init 17 = .ok (.bipush 64, 2) := by decide +kernel
theorem mD_Re_init_19 : decode mB_Re_init 19 = .ok (.bipush 9, 2) := by decide +kernel
theorem mD_Re_init_21 : decode mB_Re_init 21 = .ok (.multianewarray 15 2, 4) := by decide +kernel
theorem mD_Re_init_25 : decode mB_Re_init 25 = .ok (.putfield 22, 3) := by decide +kernel
theorem mD_Re_init_28 : decode mB_Re_init 28 = .ok (.aload_n 0, 1) := by decide +kernel
theorem mD_Re_init_29 : decode mB_Re_init 29 = .ok (.bipush 64, 2) := by decide +kernel
theorem mD_Re_init_31 : decode mB_Re_init 31 = .ok (.newarray .int, 2) := by decide +kernel
theorem mD_Re_init_33 : decode mB_Re_init 33 = .ok (.putfield 25, 3) := by decide +kernel
theorem mD_Re_init_36 : decode mB_Re_init 36 = .ok (.aload_n 0, 1) := by decide +kernel
theorem mD_Re_init_37 : decode mB_Re_init 37 = .ok (.bipush 64, 2) := by decide +kernel
theorem mD_Re_init_39 : decode mB_Re_init 39 = .ok (.newarray .int, 2) := by decide +kernel
theorem mD_Re_init_41 : decode mB_Re_init 41 = .ok (.putfield 29, 3) := by decide +kernel
theorem mD_Re_init_44 : decode mB_Re_init 44 = .ok (.return_, 1) := by decide +kernel
theorem mD_Re_renew_0 : decode mB_Re_renew 0 = .ok (.iconst 0, 1) := by decide +kernel
theorem mD_Re_renew_1 : decode mB_Re_renew 1 = .ok (.istore_n 3, 1) := by decide +kernel
theorem mD_Re_renew_2 : decode mB_Re_renew 2 = .ok (.iload_n 3, 1) := by decide +kernel
theorem mD_Re_renew_3 : decode mB_Re_renew 3 = .ok (.bipush 8, 2) := by decide +kernel
theorem mD_Re_renew_5 : decode mB_Re_renew 5 = .ok (.if_icmp .ge 16, 3) := by decide +kernel
theorem mD_Re_renew_8 : decode mB_Re_renew 8 = .ok (.aload_n 0, 1) := by decide +kernel
theorem mD_Re_renew_9 : decode mB_Re_renew 9 = .ok (.iload_n 3, 1) := by decide +kernel
theorem mD_Re_renew_10 : decode mB_Re_renew 10 = .ok (.aload_n 1, 1) := by decide +kernel
theorem mD_Re_renew_11 : decode mB_Re_renew 11 = .ok (.aload_n 2, 1) := by decide +kernel
theorem mD_Re_renew_12 : decode mB_Re_renew 12 = .ok (.invokevirtual 32, 3) := by decide +kernel
theorem mD_Re_renew_15 : decode mB_Re_renew 15 = .ok (.iinc 3 1, 3) := by decide +kernel
theorem mD_Re_renew_18 : decode mB_Re_renew 18 = .ok (.goto (-16), 3) := by decide +kernel
theorem mD_Re_renew_21 : decode mB_Re_renew 21 = .ok (.iconst 0, 1) := by decide +kernel
theorem mD_Re_renew_22 : decode mB_Re_renew 22 = .ok (.istore_n 3, 1) := by decide +kernel
theorem mD_Re_renew_23 : decode mB_Re_renew 23 = .ok (.iload_n 3, 1) := by decide +kernel
theorem mD_Re_renew_24 : decode mB_Re_renew 24 = .ok (.bipush 32, 2) := by decide +kernel
theorem mD_Re_renew_26 : decode mB_Re_renew 26 = .ok (.if_icmp .ge 57, 3) := by decide +kernel
theorem mD_Re_renew_29 : decode mB_Re_renew 29 = .ok (.iconst 0, 1) := by decide +kernel
theorem mD_Re_renew_30 : decode mB_Re_renew 30 = .ok (.istore 4, 2) := by decide +kernel
theorem mD_Re_renew_32 : decode mB_Re_renew 32 = .ok (.iload 4, 2) := by decide +kernel
theorem mD_Re_renew_34 : decode mB_Re_renew 34 = .ok (.iconst 2, 1) := by decide +kernel
theorem mD_Re_renew_35 : decode mB_Re_renew 35 = .ok (.if_icmp .ge 42, 3) := by decide +kernel
theorem mD_Re_renew_38 : decode mB_Re_renew 38 = .ok (.aload_n 1, 1) := by decide +kernel
theorem mD_Re_renew_39 : decode mB_Re_renew 39 = .ok (.getfield 36, 3) := by decide +kernel
theorem mD_Re_renew_42 : decode mB_Re_renew 42 = .ok (.iload_n 3, 1) := by decide +kernel
theorem mD_Re_renew_43 : decode mB_Re_renew 43 = .ok (.iaload, 1) := by decide +kernel
theorem mD_Re_renew_44 : decode mB_Re_renew 44 = .ok (.iload 4, 2) := by decide +kernel
theorem mD_Re_renew_46 : decode mB_Re_renew 46 = .ok (.invokestatic 39, 3) := by decide +kernel
theorem mD_Re_renew_49 : decode mB_Re_renew 49 = .ok (.imul, 1) := by decide +kernel
theorem mD_Re_renew_50 : decode mB_Re_renew 50 = .ok (.istore 5, 2) := by decide +kernel
theorem mD_Re_renew_52 : decode mB_Re_renew 52 = .ok (.aload_n 1, 1) := by decide +kernel
theorem mD_Re_renew_53 : decode mB_Re_renew 53 = .ok (.iload 5, 2) := by decide +kernel
theorem mD_Re_renew_55 : decode mB_Re_renew 55 = .ok (.aload_n 0, 1) := by decide +kernel
theorem mD_Re_renew_56 : decode mB_Re_renew 56 = .ok (.getfield 22, 3) := by decide +kernel
theorem mD_Re_renew_59 : decode mB_Re_renew 59 = .ok (.iload_n 3, 1) := by decide +kernel
theorem mD_Re_renew_60 : decode mB_Re_renew 60 = .ok (.iconst 2, 1) := by decide +kernel
theorem mD_Re_renew_61 : decode mB_Re_renew 61 = .ok (.imul, 1) := by decide +kernel
theorem mD_Re_renew_62 : decode mB_Re_renew 62 = .ok (.iload 4, 2) := by decide +kernel
theorem mD_Re_renew_64 : decode mB_Re_renew 64 = .ok (.iadd, 1) := by decide +kernel
theorem mD_Re_renew_65 : decode mB_Re_renew 65 = .ok (.aaload, 1) := by decide +kernel
theorem mD_Re_renew_66 : decode mB_Re_renew 66 = .ok (.iconst 3, 1) := by decide +kernel
theorem mD_Re_renew_67 : decode mB_Re_renew 67 = .ok (.aload_n 2, 1) := by decide +kernel
theorem mD_Re_renew_68 : decode mB_Re_renew 68 = .ok (.invokevirtual 45, 3) := by decide +kernel
theorem mD_Re_renew_71 : decode mB_Re_renew 71 = .ok (.iinc 4 1, 3) := by decide +kernel
theorem mD_Re_renew_74 : decode mB_Re_renew 74 = .ok (.goto (-42), 3) := by decide +kernel
theorem mD_Re_renew_77 : decode mB_Re_renew 77 = .ok (.iinc 3 1, 3) := by decide +kernel
theorem mD_Re_renew_80 : decode mB_Re_renew 80 = .ok (.goto (-57), 3) := by decide +kernel
theorem mD_Re_renew_83 : decode mB_Re_renew 83 = .ok (.return_, 1) := by decide +kernel
