theorem mD_TG_init_0 : decode mB_TG_init 0 = .ok (.aload_n 0, 1) := by decide +kernel
theorem mD_TG_init_1 : decode mB_TG_init 1 = .ok (.invokespecial 1, 3) := by decide +kernel
theorem mD_TG_init_4 : decode mB_TG_init 4 = .ok (.aload_n 0, 1) := by decide +kernel
theorem mD_TG_init_5 : decode mB_TG_init 5 = .ok (.new 7, 3) := by decide +kernel
theorem mD_TG_init_8 : decode mB_TG_init 8 = .ok (.dup, 1) := by decide +kernel
theorem mD_TG_init_9 : decode mB_TG_init 9 = .ok (.invokespecial 9, 3) := by decide +kernel
theorem mD_TG_init_12 : decode mB_TG_init 12 = .ok (.putfield 10, 3) := by decide +kernel
theorem mD_TG_init_15 : decode mB_TG_init 15 = .ok (.aload_n 0, 1) := by decide +kernel
theorem mD_TG_init_16 : decode mB_TG_init 16 = .ok (.new 16, 3) := by decide +kernel
theorem mD_TG_init_19 : decode mB_TG_init 19 = .ok (.dup, 1) := by decide +kernel
theorem mD_TG_init_20 : decode mB_TG_init 20 = .ok (.invokespecial 18, 3) := by decide +kernel
theorem mD_TG_init_23 : decode mB_TG_init 23 = .ok (.putfield 19, 3) := by decide +kernel
theorem mD_TG_init_26 : decode mB_TG_init 26 = .ok (.aload_n 0, 1) := by decide +kernel
theorem mD_TG_init_27 : decode mB_TG_init 27 = .ok (.new 23, 3) := by decide +kernel
theorem mD_TG_init_30 : decode mB_TG_init 30 = .ok (.dup, 1) := by decide +kernel
theorem mD_TG_init_31 : decode mB_TG_init 31 = .ok (.invokespecial 25, 3) := by decide +kernel
theorem mD_TG_init_34 : decode mB_TG_init 34 = .ok (.putfield 26, 3) := by decide +kernel
theorem mD_TG_init_37 : decode mB_TG_init 37 = .ok (.aload_n 0, 1) := by decide +kernel
theorem mD_TG_init_38 : decode mB_TG_init 38 = .ok (.new 30, 3) := by decide +kernel
theorem mD_TG_init_41 : decode mB_TG_init 41 = .ok (.dup, 1) := by decide +kernel
theorem mD_TG_init_42 : decode mB_TG_init 42 = .ok (.aload_n 0, 1) := by decide +kernel
theorem mD_TG_init_43 : decode mB_TG_init 43 = .ok (.getfield 26, 3) := by decide +kernel
theorem mD_TG_init_46 : decode mB_TG_init 46 = .ok (.invokespecial 32, 3) := by decide +kernel
theorem mD_TG_init_49 : decode mB_TG_init 49 = .ok (.putfield 35, 3) := by decide +kernel
theorem mD_TG_init_52 : decode mB_TG_init 52 = .ok (.aload_n 0, 1) := by decide +kernel
theorem mD_TG_init_53 : decode mB_TG_init 53 = .ok (.new 39, 3) := by decide +kernel
theorem mD_TG_init_56 : decode mB_TG_init 56 = .ok (.dup, 1) := by decide +kernel
theorem mD_TG_init_57 : decode mB_TG_init 57 = .ok (.invokespecial 41, 3) := by decide +kernel
theorem mD_TG_init_60 : decode mB_TG_init 60 = .ok (.putfield 42, 3) := by decide +kernel
theorem mD_TG_init_63 : decode mB_TG_init 63 = .ok (.aload_n 0, 1) := by decide +kernel
theorem mD_TG_init_64 : decode mB_TG_init 64 = .ok (.new 46, 3) := by decide +kernel
theorem mD_TG_init_67 : decode mB_TG_init 67 = .ok (.dup, 1) := by decide +kernel
theorem mD_TG_init_68 : decode mB_TG_init 68 = .ok (.invokespecial 48, 3) := by decide +kernel
theorem mD_TG_init_71 : decode mB_TG_init 71 = .ok (.putfield 49, 3) := by decide +kernel
theorem mD_TG_init_74 : decode mB_TG_init 74 = .ok (.aload_n 0, 1) := by decide +kernel
theorem mD_TG_init_75 : decode mB_TG_init 75 = .ok (.bipush 32, 2) := by decide +kernel
theorem mD_TG_init_77 : decode mB_TG_init 77 = .ok (.anewarray 53, 3) := by decide +kernel
theorem mD_TG_init_80 : decode mB_TG_init 80 = .ok (.putfield 55, 3) := by decide +kernel
theorem mD_TG_init_83 : decode mB_TG_init 83 = .ok (.iconst 0, 1) := by decide +kernel
theorem mD_TG_init_84 : decode mB_TG_init 84 = .ok (.istore_n 1, 1) := by decide +kernel
theorem mD_TG_init_85 : decode mB_TG_init 85 = .ok (.iload_n 1, 1) := by decide +kernel
theorem mD_TG_init_86 : decode mB_TG_init 86 = .ok (.bipush 32, 2) := by decide +kernel
theorem mD_TG_init_88 : decode mB_TG_init 88 = .ok (.if_icmp .ge 22, 3) := by decide +kernel
theorem mD_TG_init_91 : decode mB_TG_init 91 = .ok (.aload_n 0, 1) := by decide +kernel
theorem mD_TG_init_92 : decode mB_TG_init 92 = .ok (.getfield 55, 3) := by decide +kernel
theorem mD_TG_init_95 : decode mB_TG_init 95 = .ok (.iload_n 1, 1) := by decide +kernel
theorem mD_TG_init_96 : decode mB_TG_init 96 = .ok (.new 53, 3) := by decide +kernel
theorem mD_TG_init_99 : decode mB_TG_init 99 = .ok (.dup, 1) := by decide +kernel
theorem mD_TG_init_100 : decode mB_TG_init 100 = .ok (.invokespecial 59, 3) := by decide +kernel
theorem mD_TG_init_103 : decode mB_TG_init 103 = .ok (.aastore, 1) := by decide +kernel
theorem mD_TG_init_104 : decode mB_TG_init 104 = .ok (.iinc 1 1, 3) := by decide +kernel
theorem mD_TG_init_107 : decode mB_TG_init 107 = .ok (.goto (-22), 3) := by decide +kernel
theorem mD_TG_init_110 : decode mB_TG_init 110 = .ok (.aload_n 0, 1) := by decide +kernel
theorem mD_TG_init_111 : decode mB_TG_init 111 = .ok (.new 53, 3) := by decide +kernel
theorem mD_TG_init_114 : decode mB_TG_init 114 = .ok (.dup, 1) := by decide +kernel
theorem mD_TG_init_115 : decode mB_TG_init 115 = .ok (.invokespecial 59, 3) := by decide +kernel
theorem mD_TG_init_118 : decode mB_TG_init 118 = .ok (.putfield 60, 3) := by decide +kernel
theorem mD_TG_init_121 : decode mB_TG_init 121 = .ok (.aload_n 0, 1) := by decide +kernel
theorem mD_TG_init_122 : decode mB_TG_init 122 = .ok (.new 53, 3) := by decide +kernel
theorem mD_TG_init_125 : decode mB_TG_init 125 = .ok (.dup, 1) := by decide +kernel
theorem mD_TG_init_126 : decode mB_TG_init 126 = .ok (.invokespecial 59, 3) := by decide +kernel
theorem mD_TG_init_129 : decode mB_TG_init 129 = .ok (.putfield 64, 3) := by decide +kernel
theorem mD_TG_init_132 : decode mB_TG_init 132 = .ok (.aload_n 0, 1) := by decide +kernel
theorem mD_TG_init_133 : decode mB_TG_init 133 = .ok (.bipush 9, 2) := by decide +kernel
theorem mD_TG_init_135 : decode mB_TG_init 135 = .ok (.newarray .int, 2) := by decide +kernel
theorem mD_TG_init_137 : decode mB_TG_init 137 = .ok (.putfield 67, 3) := by decide +kernel
theorem mD_TG_init_140 : decode mB_TG_init 140 = .ok (.aload_n 0, 1) := by decide +kernel
theorem mD_TG_init_141 : decode mB_TG_init 141 = .ok (.iconst 1, 1) := by decide +kernel
theorem mD_TG_init_142 : decode mB_TG_init 142 = .ok (.invokevirtual 71, 3) := by decide +kernel
theorem mD_TG_init_145 : decode mB_TG_init 145 = .ok (.return_, 1) := by decide +kernel
theorem mD_TG_key_0 : decode mB_TG_key 0 = .ok (.aload_n 0, 1) := by decide +kernel
theorem mD_TG_key_1 : decode mB_TG_key 1 = .ok (.iload_n 1, 1) := by decide +kernel
theorem mD_TG_key_2 : decode mB_TG_key 2 = .ok (.invokevirtual 71, 3) := by decide +kernel
theorem mD_TG_key_5 : decode mB_TG_key 5 = .ok (.aload_n 0, 1) := by decide +kernel
theorem mD_TG_key_6 : decode mB_TG_key 6 = .ok (.getfield 42, 3) := by decide +kernel
theorem mD_TG_key_9 : decode mB_TG_key 9 = .ok (.invokevirtual 75, 3) := by decide +kernel
theorem mD_TG_key_12 : decode mB_TG_key 12 = .ok (.ireturn, 1) := by decide +kernel
theorem mD_TG_bit_0 : decode mB_TG_bit 0 = .ok (.aload_n 0, 1) := by decide +kernel
theorem mD_TG_bit_1 : decode mB_TG_bit 1 = .ok (.invokevirtual 79, 3) := by decide +kernel
theorem mD_TG_bit_4 : decode mB_TG_bit 4 = .ok (.istore_n 2, 1) := by decide +kernel
theorem mD_TG_bit_5 : decode mB_TG_bit 5 = .ok (.aload_n 0, 1) := by decide +kernel
theorem mD_TG_bit_6 : decode mB_TG_bit 6 = .ok (.aload_n 0, 1) := by decide +kernel
theorem mD_TG_bit_7 : decode mB_TG_bit 7 = .ok (.getfield 42, 3) := by decide +kernel
theorem mD_TG_bit_10 : decode mB_TG_bit 10 = .ok (.iload_n 2, 1) := by decide +kernel
theorem mD_TG_bit_11 : decode mB_TG_bit 11 = .ok (.invokevirtual 82, 3) := by decide +kernel
theorem mD_TG_bit_14 : decode mB_TG_bit 14 = .ok (.iload_n 1, 1) := by decide +kernel
theorem mD_TG_bit_15 : decode mB_TG_bit 15 = .ok (.invokevirtual 86, 3) := by decide +kernel
theorem mD_TG_bit_18 : decode mB_TG_bit 18 = .ok (.iload_n 2, 1) := by decide +kernel
theorem mD_TG_bit_19 : decode mB_TG_bit 19 = .ok (.ireturn, 1) := by decide +kernel
theorem mD_TG_drop_0 : decode mB_TG_drop 0 = .ok (.aload_n 0, 1) := by decide +kernel
theorem mD_TG_drop_1 : decode mB_TG_drop 1 = .ok (.iload_n 1, 1) := by decide +kernel
theorem mD_TG_drop_2 : decode mB_TG_drop 2 = .ok (.invokevirtual 90, 3) := by decide +kernel
theorem mD_TG_drop_5 : decode mB_TG_drop 5 = .ok (.astore_n 2, 1) := by decide +kernel
theorem mD_TG_drop_6 : decode mB_TG_drop 6 = .ok (.aload_n 0, 1) := by decide +kernel
theorem mD_TG_drop_7 : decode mB_TG_drop 7 = .ok (.getfield 42, 3) := by decide +kernel
theorem mD_TG_drop_10 : decode mB_TG_drop 10 = .ok (.aload_n 2, 1) := by decide +kernel
theorem mD_TG_drop_11 : decode mB_TG_drop 11 = .ok (.invokevirtual 93, 3) := by decide +kernel
theorem mD_TG_drop_14 : decode mB_TG_drop 14 = .ok (.aload_n 0, 1) := by decide +kernel
theorem mD_TG_drop_15 : decode mB_TG_drop 15 = .ok (.getfield 42, 3) := by decide +kernel
theorem mD_TG_drop_18 : decode mB_TG_drop 18 = .ok (.getfield 97, 3) := by decide +kernel
theorem mD_TG_drop_21 : decode mB_TG_drop 21 = .ok (.ireturn, 1) := by decide +kernel
theorem mD_TG_not_0 : decode mB_TG_not 0 = .ok (.aload_n 0, 1) := by decide +kernel
theorem mD_TG_not_1 : decode mB_TG_not 1 = .ok (.iload_n 1, 1) := by decide +kernel
theorem mD_TG_not_2 : decode mB_TG_not 2 = .ok (.invokevirtual 90, 3) := by decide +kernel
theorem mD_TG_not_5 : decode mB_TG_not 5 = .ok (.astore_n 2, 1) := by decide +kernel
theorem mD_TG_not_6 : decode mB_TG_not 6 = .ok (.aload_n 0, 1) := by decide +kernel
theorem mD_TG_not_7 : decode mB_TG_not 7 = .ok (.invokevirtual 79, 3) := by decide +kernel
theorem mD_TG_not_10 : decode mB_TG_not 10 = .ok (.istore_n 3, 1) := by decide +kernel
theorem mD_TG_not_11 : decode mB_TG_not 11 = .ok (.aload_n 0, 1) := by decide +kernel
theorem mD_TG_not_12 : decode mB_TG_not 12 = .ok (.getfield 42, 3) := by decide +kernel
theorem mD_TG_not_15 : decode mB_TG_not 15 = .ok (.iload_n 3, 1) := by decide +kernel
theorem mD_TG_not_16 : decode mB_TG_not 16 = .ok (.invokevirtual 82, 3) := by decide +kernel
theorem mD_TG_not_19 : decode mB_TG_not 19 = .ok (.aload_n 2, 1) := by decide +kernel
theorem mD_TG_not_20 : decode mB_TG_not 20 = .ok (.invokevirtual 101, 3) := by decide +kernel
theorem mD_TG_not_23 : decode mB_TG_not 23 = .ok (.iload_n 3, 1) := by decide +kernel
theorem mD_TG_not_24 : decode mB_TG_not 24 = .ok (.ireturn, 1) := by decide +kernel
theorem mD_TG_blur_0 : decode mB_TG_blur 0 = .ok (.aload_n 0, 1) := by decide +kernel
theorem mD_TG_blur_1 : decode mB_TG_blur 1 = .ok (.iload_n 1, 1) := by decide +kernel
theorem mD_TG_blur_2 : decode mB_TG_blur 2 = .ok (.invokevirtual 90, 3) := by decide +kernel
theorem mD_TG_blur_5 : decode mB_TG_blur 5 = .ok (.astore_n 3, 1) := by decide +kernel
theorem mD_TG_blur_6 : decode mB_TG_blur 6 = .ok (.aload_n 0, 1) := by decide +kernel
theorem mD_TG_blur_7 : decode mB_TG_blur 7 = .ok (.iload_n 2, 1) := by decide +kernel
theorem mD_TG_blur_8 : decode mB_TG_blur 8 = .ok (.sipush 1000, 3) := by decide +kernel
theorem mD_TG_blur_11 : decode mB_TG_blur 11 = .ok (.invokevirtual 104, 3) := by decide +kernel
theorem mD_TG_blur_14 : decode mB_TG_blur 14 = .ok (.aload_n 0, 1) := by decide +kernel
theorem mD_TG_blur_15 : decode mB_TG_blur 15 = .ok (.aload_n 3, 1) := by decide +kernel
theorem mD_TG_blur_16 : decode mB_TG_blur 16 = .ok (.getfield 108, 3) := by decide +kernel
theorem mD_TG_blur_19 : decode mB_TG_blur 19 = .ok (.i2l, 1) := by decide +kernel
theorem mD_TG_blur_20 : decode mB_TG_blur 20 = .ok (.ldc2_w 111, 3) := by decide +kernel
theorem mD_TG_blur_23 : decode mB_TG_blur 23 = .ok (.iload_n 2, 1) := by decide +kernel
theorem mD_TG_blur_24 : decode mB_TG_blur 24 = .ok (.i2l, 1) := by decide +kernel
theorem mD_TG_blur_25 : decode mB_TG_blur 25 = .ok (.lmul, 1) := by decide +kernel
theorem mD_TG_blur_26 : decode mB_TG_blur 26 = .ok (.ladd, 1) := by decide +kernel
theorem mD_TG_blur_27 : decode mB_TG_blur 27 = .ok (.invokevirtual 113, 3) := by decide +kernel
theorem mD_TG_blur_30 : decode mB_TG_blur 30 = .ok (.istore 4, 2) := by decide +kernel
theorem mD_TG_blur_32 : decode mB_TG_blur 32 = .ok (.iconst 0, 1) := by decide +kernel
theorem mD_TG_blur_33 : decode mB_TG_blur 33 = .ok (.istore 5, 2) := by decide +kernel
theorem mD_TG_blur_35 : decode mB_TG_blur 35 = .ok (.iload 5, 2) := by decide +kernel
theorem mD_TG_blur_37 : decode mB_TG_blur 37 = .ok (.iload_n 2, 1) := by decide +kernel
theorem mD_TG_blur_38 : decode mB_TG_blur 38 = .ok (.if_icmp .ge 34, 3) := by decide +kernel
theorem mD_TG_blur_41 : decode mB_TG_blur 41 = .ok (.aload_n 0, 1) := by decide +kernel
theorem mD_TG_blur_42 : decode mB_TG_blur 42 = .ok (.getfield 19, 3) := by decide +kernel
theorem mD_TG_blur_45 : decode mB_TG_blur 45 = .ok (.iconst 0, 1) := by decide +kernel
theorem mD_TG_blur_46 : decode mB_TG_blur 46 = .ok (.aload_n 0, 1) := by decide +kernel
theorem mD_TG_blur_47 : decode mB_TG_blur 47 = .ok (.getfield 67, 3) := by decide +kernel
theorem mD_TG_blur_50 : decode mB_TG_blur 50 = .ok (.iconst 5, 1) := by decide +kernel
theorem mD_TG_blur_51 : decode mB_TG_blur 51 = .ok (.aload_n 0, 1) := by decide +kernel
theorem mD_TG_blur_52 : decode mB_TG_blur 52 = .ok (.getfield 10, 3) := by decide +kernel
theorem mD_TG_blur_55 : decode mB_TG_blur 55 = .ok (.invokevirtual 117, 3) := by decide +kernel
theorem mD_TG_blur_58 : decode mB_TG_blur 58 = .ok (.aload_n 3, 1) := by decide +kernel
theorem mD_TG_blur_59 : decode mB_TG_blur 59 = .ok (.aload_n 0, 1) := by decide +kernel
theorem mD_TG_blur_60 : decode mB_TG_blur 60 = .ok (.getfield 67, 3) := by decide +kernel
theorem mD_TG_blur_63 : decode mB_TG_blur 63 = .ok (.invokevirtual 121, 3) := by decide +kernel
theorem mD_TG_blur_66 : decode mB_TG_blur 66 = .ok (.iinc 5 1, 3) := by decide +kernel
theorem mD_TG_blur_69 : decode mB_TG_blur 69 = .ok (.goto (-34), 3) := by decide +kernel
theorem mD_TG_blur_72 : decode mB_TG_blur 72 = .ok (.aload_n 3, 1) := by decide +kernel
theorem mD_TG_blur_73 : decode mB_TG_blur 73 = .ok (.iload 4, 2) := by decide +kernel
theorem mD_TG_blur_75 : decode mB_TG_blur 75 = .ok (.putfield 108, 3) := by decide +kernel
theorem mD_TG_blur_78 : decode mB_TG_blur 78 = .ok (.iload 4, 2) := by decide +kernel
theorem mD_TG_blur_80 : decode mB_TG_blur 80 = .ok (.ireturn, 1) := by decide +kernel
theorem mD_TG_pile_0 : decode mB_TG_pile 0 = .ok (.aload_n 0, 1) := by decide +kernel
theorem mD_TG_pile_1 : decode mB_TG_pile 1 = .ok (.iload_n 1, 1) := by decide +kernel
theorem mD_TG_pile_2 : decode mB_TG_pile 2 = .ok (.invokevirtual 90, 3) := by decide +kernel
theorem mD_TG_pile_5 : decode mB_TG_pile 5 = .ok (.astore_n 3, 1) := by decide +kernel
theorem mD_TG_pile_6 : decode mB_TG_pile 6 = .ok (.aload_n 0, 1) := by decide +kernel
theorem mD_TG_pile_7 : decode mB_TG_pile 7 = .ok (.iload_n 2, 1) := by decide +kernel
theorem mD_TG_pile_8 : decode mB_TG_pile 8 = .ok (.bipush 100, 2) := by decide +kernel
theorem mD_TG_pile_10 : decode mB_TG_pile 10 = .ok (.invokevirtual 104, 3) := by decide +kernel
theorem mD_TG_pile_13 : decode mB_TG_pile 13 = .ok (.bipush 8, 2) := by decide +kernel
theorem mD_TG_pile_15 : decode mB_TG_pile 15 = .ok (.iload_n 2, 1) := by decide +kernel
theorem mD_TG_pile_16 : decode mB_TG_pile 16 = .ok (.imul, 1) := by decide +kernel
theorem mD_TG_pile_17 : decode mB_TG_pile 17 = .ok (.iconst 1, 1) := by decide +kernel
theorem mD_TG_pile_18 : decode mB_TG_pile 18 = .ok (.iadd, 1) := by decide +kernel
theorem mD_TG_pile_19 : decode mB_TG_pile 19 = .ok (.istore 4, 2) := by decide +kernel
theorem mD_TG_pile_21 : decode mB_TG_pile 21 = .ok (.aload_n 0, 1) := by decide +kernel
theorem mD_TG_pile_22 : decode mB_TG_pile 22 = .ok (.aload_n 3, 1) := by decide +kernel
theorem mD_TG_pile_23 : decode mB_TG_pile 23 = .ok (.getfield 108, 3) := by decide +kernel
theorem mD_TG_pile_26 : decode mB_TG_pile 26 = .ok (.i2l, 1) := by decide +kernel
theorem mD_TG_pile_27 : decode mB_TG_pile 27 = .ok (.iload 4, 2) := by decide +kernel
theorem mD_TG_pile_29 : decode mB_TG_pile 29 = .ok (.i2l, 1) := by decide +kernel
theorem mD_TG_pile_30 : decode mB_TG_pile 30 = .ok (.lmul, 1) := by decide +kernel
theorem mD_TG_pile_31 : decode mB_TG_pile 31 = .ok (.invokevirtual 113, 3) := by decide +kernel
theorem mD_TG_pile_34 : decode mB_TG_pile 34 = .ok (.istore 5, 2) := by decide +kernel
theorem mD_TG_pile_36 : decode mB_TG_pile 36 = .ok (.aload_n 3, 1) := by decide +kernel
theorem mD_TG_pile_37 : decode mB_TG_pile 37 = .ok (.iload 4, 2) := by decide +kernel
theorem mD_TG_pile_39 : decode mB_TG_pile 39 = .ok (.invokevirtual 125, 3) := by decide +kernel
theorem mD_TG_pile_42 : decode mB_TG_pile 42 = .ok (.aload_n 3, 1) := by decide +kernel
theorem mD_TG_pile_43 : decode mB_TG_pile 43 = .ok (.iload 5, 2) := by decide +kernel
theorem mD_TG_pile_45 : decode mB_TG_pile 45 = .ok (.putfield 108, 3) := by decide +kernel
theorem mD_TG_pile_48 : decode mB_TG_pile 48 = .ok (.iload 5, 2) := by decide +kernel
theorem mD_TG_pile_50 : decode mB_TG_pile 50 = .ok (.ireturn, 1) := by decide +kernel
theorem mD_TG_gate_0 : decode mB_TG_gate 0 = .ok (.aload_n 0, 1) := by decide +kernel
theorem mD_TG_gate_1 : decode mB_TG_gate 1 = .ok (.iload_n 1, 1) := by decide +kernel
theorem mD_TG_gate_2 : decode mB_TG_gate 2 = .ok (.invokevirtual 128, 3) := by decide +kernel
theorem mD_TG_gate_5 : decode mB_TG_gate 5 = .ok (.aload_n 0, 1) := by decide +kernel
theorem mD_TG_gate_6 : decode mB_TG_gate 6 = .ok (.iload_n 2, 1) := by decide +kernel
theorem mD_TG_gate_7 : decode mB_TG_gate 7 = .ok (.invokevirtual 90, 3) := by decide +kernel
theorem mD_TG_gate_10 : decode mB_TG_gate 10 = .ok (.astore 4, 2) := by decide +kernel
theorem mD_TG_gate_12 : decode mB_TG_gate 12 = .ok (.aload_n 0, 1) := by decide +kernel
theorem mD_TG_gate_13 : decode mB_TG_gate 13 = .ok (.iload_n 3, 1) := by decide +kernel
theorem mD_TG_gate_14 : decode mB_TG_gate 14 = .ok (.invokevirtual 90, 3) := by decide +kernel
theorem mD_TG_gate_17 : decode mB_TG_gate 17 = .ok (.astore 5, 2) := by decide +kernel
theorem mD_TG_gate_19 : decode mB_TG_gate 19 = .ok (.aload_n 0, 1) := by decide +kernel
theorem mD_TG_gate_20 : decode mB_TG_gate 20 = .ok (.iload_n 1, 1) := by decide +kernel
theorem mD_TG_gate_21 : decode mB_TG_gate 21 = .ok (.aload 4, 2) := by decide +kernel
theorem mD_TG_gate_23 : decode mB_TG_gate 23 = .ok (.aload 5, 2) := by decide +kernel
theorem mD_TG_gate_25 : decode mB_TG_gate 25 = .ok (.invokestatic 131, 3) := by decide +kernel
theorem mD_TG_gate_28 : decode mB_TG_gate 28 = .ok (.invokevirtual 135, 3) := by decide +kernel
theorem mD_TG_gate_31 : decode mB_TG_gate 31 = .ok (.aload_n 0, 1) := by decide +kernel
theorem mD_TG_gate_32 : decode mB_TG_gate 32 = .ok (.invokevirtual 79, 3) := by decide +kernel
theorem mD_TG_gate_35 : decode mB_TG_gate 35 = .ok (.istore 6, 2) := by decide +kernel
theorem mD_TG_gate_37 : decode mB_TG_gate 37 = .ok (.aload_n 0, 1) := by decide +kernel
theorem mD_TG_gate_38 : decode mB_TG_gate 38 = .ok (.iload_n 1, 1) := by decide +kernel
theorem mD_TG_gate_39 : decode mB_TG_gate 39 = .ok (.aload 4, 2) := by decide +kernel
theorem mD_TG_gate_41 : decode mB_TG_gate 41 = .ok (.aload 5, 2) := by decide +kernel
theorem mD_TG_gate_43 : decode mB_TG_gate 43 = .ok (.aload_n 0, 1) := by decide +kernel
theorem mD_TG_gate_44 : decode mB_TG_gate 44 = .ok (.getfield 42, 3) := by decide +kernel
theorem mD_TG_gate_47 : decode mB_TG_gate 47 = .ok (.iload 6, 2) := by decide +kernel
theorem mD_TG_gate_49 : decode mB_TG_gate 49 = .ok (.invokevirtual 82, 3) := by decide +kernel
theorem mD_TG_gate_52 : decode mB_TG_gate 52 = .ok (.invokevirtual 139, 3) := by decide +kernel
theorem mD_TG_gate_55 : decode mB_TG_gate 55 = .ok (.iload 6, 2) := by decide +kernel
theorem mD_TG_gate_57 : decode mB_TG_gate 57 = .ok (.ireturn, 1) := by decide +kernel
theorem mD_TG_choose_0 : decode mB_TG_choose 0 = .ok (.aload_n 0, 1) := by decide +kernel
theorem mD_TG_choose_1 : decode mB_TG_choose 1 = .ok (.iload_n 1, 1) := by decide +kernel
theorem mD_TG_choose_2 : decode mB_TG_choose 2 = .ok (.invokevirtual 90, 3) := by decide +kernel
theorem mD_TG_choose_5 : decode mB_TG_choose 5 = .ok (.astore 4, 2) := by decide +kernel
theorem mD_TG_choose_7 : decode mB_TG_choose 7 = .ok (.aload_n 0, 1) := by decide +kernel
theorem mD_TG_choose_8 : decode mB_TG_choose 8 = .ok (.iload_n 2, 1) := by decide +kernel
theorem mD_TG_choose_9 : decode mB_TG_choose 9 = .ok (.invokevirtual 90, 3) := by decide +kernel
theorem mD_TG_choose_12 : decode mB_TG_choose 12 = .ok (.astore 5, 2) := by decide +kernel
theorem mD_TG_choose_14 : decode mB_TG_choose 14 = .ok (.aload_n 0, 1) := by decide +kernel
theorem mD_TG_choose_15 : decode mB_TG_choose 15 = .ok (.iload_n 3, 1) := by decide +kernel
theorem mD_TG_choose_16 : decode mB_TG_choose 16 = .ok (.invokevirtual 90, 3) := by decide +kernel
theorem mD_TG_choose_19 : decode mB_TG_choose 19 = .ok (.astore 6, 2) := by decide +kernel
theorem mD_TG_choose_21 : decode mB_TG_choose 21 = .ok (.aload_n 0, 1) := by decide +kernel
theorem mD_TG_choose_22 : decode mB_TG_choose 22 = .ok (.iconst 0, 1) := by decide +kernel
theorem mD_TG_choose_23 : decode mB_TG_choose 23 = .ok (.aload 4, 2) := by decide +kernel
theorem mD_TG_choose_25 : decode mB_TG_choose 25 = .ok (.aload 5, 2) := by decide +kernel
theorem mD_TG_choose_27 : decode mB_TG_choose 27 = .ok (.invokestatic 131, 3) := by decide +kernel
theorem mD_TG_choose_30 : decode mB_TG_choose 30 = .ok (.ifCond .ne 15, 3) := by decide +kernel
theorem mD_TG_choose_33 : decode mB_TG_choose 33 = .ok (.bipush 6, 2) := by decide +kernel
theorem mD_TG_choose_35 : decode mB_TG_choose 35 = .ok (.aload 6, 2) := by decide +kernel
theorem mD_TG_choose_37 : decode mB_TG_choose 37 = .ok (.aload 4, 2) := by decide +kernel
theorem mD_TG_choose_39 : decode mB_TG_choose 39 = .ok (.invokestatic 131, 3) := by decide +kernel
theorem mD_TG_choose_42 : decode mB_TG_choose 42 = .ok (.ifCond .eq 7, 3) := by decide +kernel
theorem mD_TG_choose_45 : decode mB_TG_choose 45 = .ok (.iconst 1, 1) := by decide +kernel
theorem mD_TG_choose_46 : decode mB_TG_choose 46 = .ok (.goto 4, 3) := by decide +kernel
theorem mD_TG_choose_49 : decode mB_TG_choose 49 = .ok (.iconst 0, 1) := by decide +kernel
theorem mD_TG_choose_50 : decode mB_TG_choose 50 = .ok (.invokevirtual 135, 3) := by decide +kernel
theorem mD_TG_choose_53 : decode mB_TG_choose 53 = .ok (.aload_n 0, 1) := by decide +kernel
theorem mD_TG_choose_54 : decode mB_TG_choose 54 = .ok (.invokevirtual 79, 3) := by decide +kernel
theorem mD_TG_choose_57 : decode mB_TG_choose 57 = .ok (.istore 7, 2) := by decide +kernel
theorem mD_TG_choose_59 : decode mB_TG_choose 59 = .ok (.aload_n 0, 1) := by decide +kernel
theorem mD_TG_choose_60 : decode mB_TG_choose 60 = .ok (.iconst 0, 1) := by decide +kernel
theorem mD_TG_choose_61 : decode mB_TG_choose 61 = .ok (.aload 4, 2) := by decide +kernel
theorem mD_TG_choose_63 : decode mB_TG_choose 63 = .ok (.aload 5, 2) := by decide +kernel
theorem mD_TG_choose_65 : decode mB_TG_choose 65 = .ok (.aload_n 0, 1) := by decide +kernel
theorem mD_TG_choose_66 : decode mB_TG_choose 66 = .ok (.getfield 60, 3) := by decide +kernel
theorem mD_TG_choose_69 : decode mB_TG_choose 69 = .ok (.invokevirtual 139, 3) := by decide +kernel
theorem mD_TG_choose_72 : decode mB_TG_choose 72 = .ok (.aload_n 0, 1) := by decide +kernel
theorem mD_TG_choose_73 : decode mB_TG_choose 73 = .ok (.bipush 6, 2) := by decide +kernel
theorem mD_TG_choose_75 : decode mB_TG_choose 75 = .ok (.aload 6, 2) := by decide +kernel
theorem mD_TG_choose_77 : decode mB_TG_choose 77 = .ok (.aload 4, 2) := by decide +kernel
theorem mD_TG_choose_79 : decode mB_TG_choose 79 = .ok (.aload_n 0, 1) := by decide +kernel
theorem mD_TG_choose_80 : decode mB_TG_choose 80 = .ok (.getfield 64, 3) := by decide +kernel
theorem mD_TG_choose_83 : decode mB_TG_choose 83 = .ok (.invokevirtual 139, 3) := by decide +kernel
theorem mD_TG_choose_86 : decode mB_TG_choose 86 = .ok (.aload_n 0, 1) := by decide +kernel
theorem mD_TG_choose_87 : decode mB_TG_choose 87 = .ok (.iconst 1, 1) := by decide +kernel
theorem mD_TG_choose_88 : decode mB_TG_choose 88 = .ok (.aload_n 0, 1) := by decide +kernel
theorem mD_TG_choose_89 : decode mB_TG_choose 89 = .ok (.getfield 60, 3) := by decide +kernel
theorem mD_TG_choose_92 : decode mB_TG_choose 92 = .ok (.aload_n 0, 1) := by decide +kernel
theorem mD_TG_choose_93 : decode mB_TG_choose 93 = .ok (.getfield 64, 3) := by decide +kernel
theorem mD_TG_choose_96 : decode mB_TG_choose 96 = .ok (.aload_n 0, 1) := by decide +kernel
theorem mD_TG_choose_97 : decode mB_TG_choose 97 = .ok (.getfield 42, 3) := by decide +kernel
theorem mD_TG_choose_100 : decode mB_TG_choose 100 = .ok (.iload 7, 2) := by decide +kernel
theorem mD_TG_choose_102 : decode mB_TG_choose 102 = .ok (.invokevirtual 82, 3) := by decide +kernel
theorem mD_TG_choose_105 : decode mB_TG_choose 105 = .ok (.invokevirtual 139, 3) := by decide +kernel
theorem mD_TG_choose_108 : decode mB_TG_choose 108 = .ok (.iload 7, 2) := by decide +kernel
theorem mD_TG_choose_110 : decode mB_TG_choose 110 = .ok (.ireturn, 1) := by decide +kernel
theorem mD_TG_open_0 : decode mB_TG_open 0 = .ok (.aload_n 0, 1) := by decide +kernel
theorem mD_TG_open_1 : decode mB_TG_open 1 = .ok (.iload_n 1, 1) := by decide +kernel
theorem mD_TG_open_2 : decode mB_TG_open 2 = .ok (.invokevirtual 90, 3) := by decide +kernel
theorem mD_TG_open_5 : decode mB_TG_open 5 = .ok (.astore_n 2, 1) := by decide +kernel
theorem mD_TG_open_6 : decode mB_TG_open 6 = .ok (.aload_n 2, 1) := by decide +kernel
theorem mD_TG_open_7 : decode mB_TG_open 7 = .ok (.getfield 108, 3) := by decide +kernel
theorem mD_TG_open_10 : decode mB_TG_open 10 = .ok (.ldc 143, 2) := by decide +kernel
theorem mD_TG_open_12 : decode mB_TG_open 12 = .ok (.if_icmp .lt 13, 3) := by decide +kernel
theorem mD_TG_open_15 : decode mB_TG_open 15 = .ok (.new 144, 3) := by decide +kernel
theorem mD_TG_open_18 : decode mB_TG_open 18 = .ok (.dup, 1) := by decide +kernel
theorem mD_TG_open_19 : decode mB_TG_open 19 = .ok (.ldc 146, 2) := by decide +kernel
theorem mD_TG_open_21 : decode mB_TG_open 21 = .ok (.invokespecial 148, 3) := by decide +kernel
theorem mD_TG_open_24 : decode mB_TG_open 24 = .ok (.athrow, 1) := by decide +kernel
theorem mD_TG_open_25 : decode mB_TG_open 25 = .ok (.aload_n 0, 1) := by decide +kernel
theorem mD_TG_open_26 : decode mB_TG_open 26 = .ok (.getfield 19, 3) := by decide +kernel
theorem mD_TG_open_29 : decode mB_TG_open 29 = .ok (.aload_n 2, 1) := by decide +kernel
theorem mD_TG_open_30 : decode mB_TG_open 30 = .ok (.getfield 151, 3) := by decide +kernel
theorem mD_TG_open_33 : decode mB_TG_open 33 = .ok (.invokevirtual 154, 3) := by decide +kernel
theorem mD_TG_open_36 : decode mB_TG_open 36 = .ok (.ifCond .le 7, 3) := by decide +kernel
theorem mD_TG_open_39 : decode mB_TG_open 39 = .ok (.iconst 1, 1) := by decide +kernel
theorem mD_TG_open_40 : decode mB_TG_open 40 = .ok (.goto 4, 3) := by decide +kernel
theorem mD_TG_open_43 : decode mB_TG_open 43 = .ok (.iconst 0, 1) := by decide +kernel
theorem mD_TG_open_44 : decode mB_TG_open 44 = .ok (.ireturn, 1) := by decide +kernel
theorem mD_TG_bound_0 : decode mB_TG_bound 0 = .ok (.aload_n 0, 1) := by decide +kernel
theorem mD_TG_bound_1 : decode mB_TG_bound 1 = .ok (.iload_n 1, 1) := by decide +kernel
theorem mD_TG_bound_2 : decode mB_TG_bound 2 = .ok (.invokevirtual 90, 3) := by decide +kernel
theorem mD_TG_bound_5 : decode mB_TG_bound 5 = .ok (.getfield 108, 3) := by decide +kernel
theorem mD_TG_bound_8 : decode mB_TG_bound 8 = .ok (.ireturn, 1) := by decide +kernel
theorem mD_TG_within_0 : decode mB_TG_within 0 = .ok (.aload_n 0, 1) := by decide +kernel
theorem mD_TG_within_1 : decode mB_TG_within 1 = .ok (.iload_n 1, 1) := by decide +kernel
theorem mD_TG_within_2 : decode mB_TG_within 2 = .ok (.invokevirtual 90, 3) := by decide +kernel
theorem mD_TG_within_5 : decode mB_TG_within 5 = .ok (.astore_n 2, 1) := by decide +kernel
theorem mD_TG_within_6 : decode mB_TG_within 6 = .ok (.aload_n 0, 1) := by decide +kernel
theorem mD_TG_within_7 : decode mB_TG_within 7 = .ok (.getfield 19, 3) := by decide +kernel
theorem mD_TG_within_10 : decode mB_TG_within 10 = .ok (.aload_n 2, 1) := by decide +kernel
theorem mD_TG_within_11 : decode mB_TG_within 11 = .ok (.getfield 151, 3) := by decide +kernel
theorem mD_TG_within_14 : decode mB_TG_within 14 = .ok (.invokevirtual 154, 3) := by decide +kernel
theorem mD_TG_within_17 : decode mB_TG_within 17 = .ok (.aload_n 2, 1) := by decide +kernel
theorem mD_TG_within_18 : decode mB_TG_within 18 = .ok (.getfield 158, 3) := by decide +kernel
theorem mD_TG_within_21 : decode mB_TG_within 21 = .ok (.invokestatic 162, 3) := by decide +kernel
theorem mD_TG_within_24 : decode mB_TG_within 24 = .ok (.isub, 1) := by decide +kernel
theorem mD_TG_within_25 : decode mB_TG_within 25 = .ok (.istore_n 3, 1) := by decide +kernel
theorem mD_TG_within_26 : decode mB_TG_within 26 = .ok (.iload_n 3, 1) := by decide +kernel
theorem mD_TG_within_27 : decode mB_TG_within 27 = .ok (.aload_n 2, 1) := by decide +kernel
theorem mD_TG_within_28 : decode mB_TG_within 28 = .ok (.getfield 108, 3) := by decide +kernel
theorem mD_TG_within_31 : decode mB_TG_within 31 = .ok (.if_icmp .gt 16, 3) := by decide +kernel
theorem mD_TG_within_34 : decode mB_TG_within 34 = .ok (.iload_n 3, 1) := by decide +kernel
theorem mD_TG_within_35 : decode mB_TG_within 35 = .ok (.aload_n 2, 1) := by decide +kernel
theorem mD_TG_within_36 : decode mB_TG_within 36 = .ok (.getfield 108, 3) := by decide +kernel
theorem mD_TG_within_39 : decode mB_TG_within 39 = .ok (.ineg, 1) := by decide +kernel
theorem mD_TG_within_40 : decode mB_TG_within 40 = .ok (.if_icmp .lt 7, 3) := by decide +kernel
theorem mD_TG_within_43 : decode mB_TG_within 43 = .ok (.iconst 1, 1) := by decide +kernel
theorem mD_TG_within_44 : decode mB_TG_within 44 = .ok (.goto 4, 3) := by decide +kernel
theorem mD_TG_within_47 : decode mB_TG_within 47 = .ok (.iconst 0, 1) := by decide +kernel
theorem mD_TG_within_48 : decode mB_TG_within 48 = .ok (.ireturn, 1) := by decide +kernel
theorem mD_TG_line_0 : decode mB_TG_line 0 = .ok (.aload_n 0, 1) := by decide +kernel
theorem mD_TG_line_1 : decode mB_TG_line 1 = .ok (.iload_n 1, 1) := by decide +kernel
theorem mD_TG_line_2 : decode mB_TG_line 2 = .ok (.invokevirtual 128, 3) := by decide +kernel
theorem mD_TG_line_5 : decode mB_TG_line 5 = .ok (.aload_n 0, 1) := by decide +kernel
theorem mD_TG_line_6 : decode mB_TG_line 6 = .ok (.getfield 49, 3) := by decide +kernel
theorem mD_TG_line_9 : decode mB_TG_line 9 = .ok (.iload_n 2, 1) := by decide +kernel
theorem mD_TG_line_10 : decode mB_TG_line 10 = .ok (.invokevirtual 166, 3) := by decide +kernel
theorem mD_TG_line_13 : decode mB_TG_line 13 = .ok (.ifCond .eq 14, 3) := by decide +kernel
theorem mD_TG_line_16 : decode mB_TG_line 16 = .ok (.aload_n 0, 1) := by decide +kernel
theorem mD_TG_line_17 : decode mB_TG_line 17 = .ok (.getfield 49, 3) := by decide +kernel
theorem mD_TG_line_20 : decode mB_TG_line 20 = .ok (.iload_n 3, 1) := by decide +kernel
theorem mD_TG_line_21 : decode mB_TG_line 21 = .ok (.invokevirtual 166, 3) := by decide +kernel
theorem mD_TG_line_24 : decode mB_TG_line 24 = .ok (.ifCond .ne 13, 3) := by decide +kernel
theorem mD_TG_line_27 : decode mB_TG_line 27 = .ok (.new 170, 3) := by decide +kernel
theorem mD_TG_line_30 : decode mB_TG_line 30 = .ok (.dup, 1) := by decide +kernel
theorem mD_TG_line_31 : decode mB_TG_line 31 = .ok (.ldc 172, 2) := by decide +kernel
theorem mD_TG_line_33 : decode mB_TG_line 33 = .ok (.invokespecial 174, 3) := by decide +kernel
theorem mD_TG_line_36 : decode mB_TG_line 36 = .ok (.athrow, 1) := by decide +kernel
theorem mD_TG_line_37 : decode mB_TG_line 37 = .ok (.aload_n 0, 1) := by decide +kernel
theorem mD_TG_line_38 : decode mB_TG_line 38 = .ok (.getfield 49, 3) := by decide +kernel
theorem mD_TG_line_41 : decode mB_TG_line 41 = .ok (.getfield 175, 3) := by decide +kernel
theorem mD_TG_line_44 : decode mB_TG_line 44 = .ok (.bipush 24, 2) := by decide +kernel
theorem mD_TG_line_46 : decode mB_TG_line 46 = .ok (.if_icmp .ne 13, 3) := by decide +kernel
theorem mD_TG_line_49 : decode mB_TG_line 49 = .ok (.new 144, 3) := by decide +kernel
theorem mD_TG_line_52 : decode mB_TG_line 52 = .ok (.dup, 1) := by decide +kernel
theorem mD_TG_line_53 : decode mB_TG_line 53 = .ok (.ldc 176, 2) := by decide +kernel
theorem mD_TG_line_55 : decode mB_TG_line 55 = .ok (.invokespecial 148, 3) := by decide +kernel
theorem mD_TG_line_58 : decode mB_TG_line 58 = .ok (.athrow, 1) := by decide +kernel
theorem mD_TG_line_59 : decode mB_TG_line 59 = .ok (.aload_n 0, 1) := by decide +kernel
theorem mD_TG_line_60 : decode mB_TG_line 60 = .ok (.getfield 49, 3) := by decide +kernel
theorem mD_TG_line_63 : decode mB_TG_line 63 = .ok (.iload_n 1, 1) := by decide +kernel
theorem mD_TG_line_64 : decode mB_TG_line 64 = .ok (.iload_n 2, 1) := by decide +kernel
theorem mD_TG_line_65 : decode mB_TG_line 65 = .ok (.iload_n 3, 1) := by decide +kernel
theorem mD_TG_line_66 : decode mB_TG_line 66 = .ok (.invokevirtual 178, 3) := by decide +kernel
theorem mD_TG_line_69 : decode mB_TG_line 69 = .ok (.ireturn, 1) := by decide +kernel
theorem mD_TG_play_0 : decode mB_TG_play 0 = .ok (.aload_n 0, 1) := by decide +kernel
theorem mD_TG_play_1 : decode mB_TG_play 1 = .ok (.getfield 49, 3) := by decide +kernel
theorem mD_TG_play_4 : decode mB_TG_play 4 = .ok (.iload_n 1, 1) := by decide +kernel
theorem mD_TG_play_5 : decode mB_TG_play 5 = .ok (.invokevirtual 182, 3) := by decide +kernel
theorem mD_TG_play_8 : decode mB_TG_play 8 = .ok (.ifCond .ne 13, 3) := by decide +kernel
theorem mD_TG_play_11 : decode mB_TG_play 11 = .ok (.new 170, 3) := by decide +kernel
theorem mD_TG_play_14 : decode mB_TG_play 14 = .ok (.dup, 1) := by decide +kernel
theorem mD_TG_play_15 : decode mB_TG_play 15 = .ok (.ldc 185, 2) := by decide +kernel
theorem mD_TG_play_17 : decode mB_TG_play 17 = .ok (.invokespecial 174, 3) := by decide +kernel
theorem mD_TG_play_20 : decode mB_TG_play 20 = .ok (.athrow, 1) := by decide +kernel
theorem mD_TG_play_21 : decode mB_TG_play 21 = .ok (.aload_n 0, 1) := by decide +kernel
theorem mD_TG_play_22 : decode mB_TG_play 22 = .ok (.iload_n 2, 1) := by decide +kernel
theorem mD_TG_play_23 : decode mB_TG_play 23 = .ok (.sipush 255, 3) := by decide +kernel
theorem mD_TG_play_26 : decode mB_TG_play 26 = .ok (.invokevirtual 104, 3) := by decide +kernel
theorem mD_TG_play_29 : decode mB_TG_play 29 = .ok (.aload_n 0, 1) := by decide +kernel
theorem mD_TG_play_30 : decode mB_TG_play 30 = .ok (.invokevirtual 79, 3) := by decide +kernel
theorem mD_TG_play_33 : decode mB_TG_play 33 = .ok (.istore_n 3, 1) := by decide +kernel
theorem mD_TG_play_34 : decode mB_TG_play 34 = .ok (.iconst 0, 1) := by decide +kernel
theorem mD_TG_play_35 : decode mB_TG_play 35 = .ok (.istore 4, 2) := by decide +kernel
theorem mD_TG_play_37 : decode mB_TG_play 37 = .ok (.iload 4, 2) := by decide +kernel
theorem mD_TG_play_39 : decode mB_TG_play 39 = .ok (.bipush 8, 2) := by decide +kernel
theorem mD_TG_play_41 : decode mB_TG_play 41 = .ok (.if_icmp .ge 35, 3) := by decide +kernel
theorem mD_TG_play_44 : decode mB_TG_play 44 = .ok (.aload_n 0, 1) := by decide +kernel
theorem mD_TG_play_45 : decode mB_TG_play 45 = .ok (.aload_n 0, 1) := by decide +kernel
theorem mD_TG_play_46 : decode mB_TG_play 46 = .ok (.getfield 55, 3) := by decide +kernel
theorem mD_TG_play_49 : decode mB_TG_play 49 = .ok (.iload 4, 2) := by decide +kernel
theorem mD_TG_play_51 : decode mB_TG_play 51 = .ok (.aaload, 1) := by decide +kernel
theorem mD_TG_play_52 : decode mB_TG_play 52 = .ok (.iload_n 2, 1) := by decide +kernel
theorem mD_TG_play_53 : decode mB_TG_play 53 = .ok (.iload 4, 2) := by decide +kernel
theorem mD_TG_play_55 : decode mB_TG_play 55 = .ok (.ishr, 1) := by decide +kernel
theorem mD_TG_play_56 : decode mB_TG_play 56 = .ok (.iconst 1, 1) := by decide +kernel
theorem mD_TG_play_57 : decode mB_TG_play 57 = .ok (.iand, 1) := by decide +kernel
theorem mD_TG_play_58 : decode mB_TG_play 58 = .ok (.iconst 1, 1) := by decide +kernel
theorem mD_TG_play_59 : decode mB_TG_play 59 = .ok (.if_icmp .ne 7, 3) := by decide +kernel
theorem mD_TG_play_62 : decode mB_TG_play 62 = .ok (.iconst 1, 1) := by decide +kernel
theorem mD_TG_play_63 : decode mB_TG_play 63 = .ok (.goto 4, 3) := by decide +kernel
theorem mD_TG_play_66 : decode mB_TG_play 66 = .ok (.iconst 0, 1) := by decide +kernel
theorem mD_TG_play_67 : decode mB_TG_play 67 = .ok (.invokevirtual 86, 3) := by decide +kernel
theorem mD_TG_play_70 : decode mB_TG_play 70 = .ok (.iinc 4 1, 3) := by decide +kernel
theorem mD_TG_play_73 : decode mB_TG_play 73 = .ok (.goto (-36), 3) := by decide +kernel
theorem mD_TG_play_76 : decode mB_TG_play 76 = .ok (.iconst 0, 1) := by decide +kernel
theorem mD_TG_play_77 : decode mB_TG_play 77 = .ok (.istore 4, 2) := by decide +kernel
theorem mD_TG_play_79 : decode mB_TG_play 79 = .ok (.iload 4, 2) := by decide +kernel
theorem mD_TG_play_81 : decode mB_TG_play 81 = .ok (.iload_n 1, 1) := by decide +kernel
theorem mD_TG_play_82 : decode mB_TG_play 82 = .ok (.bipush 8, 2) := by decide +kernel
theorem mD_TG_play_84 : decode mB_TG_play 84 = .ok (.isub, 1) := by decide +kernel
theorem mD_TG_play_85 : decode mB_TG_play 85 = .ok (.if_icmp .gt 63, 3) := by decide +kernel
theorem mD_TG_play_88 : decode mB_TG_play 88 = .ok (.aload_n 0, 1) := by decide +kernel
theorem mD_TG_play_89 : decode mB_TG_play 89 = .ok (.aload_n 0, 1) := by decide +kernel
theorem mD_TG_play_90 : decode mB_TG_play 90 = .ok (.getfield 49, 3) := by decide +kernel
theorem mD_TG_play_93 : decode mB_TG_play 93 = .ok (.getfield 187, 3) := by decide +kernel
theorem mD_TG_play_96 : decode mB_TG_play 96 = .ok (.iload 4, 2) := by decide +kernel
theorem mD_TG_play_98 : decode mB_TG_play 98 = .ok (.iaload, 1) := by decide +kernel
theorem mD_TG_play_99 : decode mB_TG_play 99 = .ok (.aload_n 0, 1) := by decide +kernel
theorem mD_TG_play_100 : decode mB_TG_play 100 = .ok (.getfield 55, 3) := by decide +kernel
theorem mD_TG_play_103 : decode mB_TG_play 103 = .ok (.aload_n 0, 1) := by decide +kernel
theorem mD_TG_play_104 : decode mB_TG_play 104 = .ok (.getfield 49, 3) := by decide +kernel
theorem mD_TG_play_107 : decode mB_TG_play 107 = .ok (.getfield 190, 3) := by decide +kernel
theorem mD_TG_play_110 : decode mB_TG_play 110 = .ok (.iload 4, 2) := by decide +kernel
theorem mD_TG_play_112 : decode mB_TG_play 112 = .ok (.iaload, 1) := by decide +kernel
theorem mD_TG_play_113 : decode mB_TG_play 113 = .ok (.aaload, 1) := by decide +kernel
theorem mD_TG_play_114 : decode mB_TG_play 114 = .ok (.aload_n 0, 1) := by decide +kernel
theorem mD_TG_play_115 : decode mB_TG_play 115 = .ok (.getfield 55, 3) := by decide +kernel
theorem mD_TG_play_118 : decode mB_TG_play 118 = .ok (.aload_n 0, 1) := by decide +kernel
theorem mD_TG_play_119 : decode mB_TG_play 119 = .ok (.getfield 49, 3) := by decide +kernel
theorem mD_TG_play_122 : decode mB_TG_play 122 = .ok (.getfield 193, 3) := by decide +kernel
theorem mD_TG_play_125 : decode mB_TG_play 125 = .ok (.iload 4, 2) := by decide +kernel
theorem mD_TG_play_127 : decode mB_TG_play 127 = .ok (.iaload, 1) := by decide +kernel
theorem mD_TG_play_128 : decode mB_TG_play 128 = .ok (.aaload, 1) := by decide +kernel
theorem mD_TG_play_129 : decode mB_TG_play 129 = .ok (.aload_n 0, 1) := by decide +kernel
theorem mD_TG_play_130 : decode mB_TG_play 130 = .ok (.getfield 55, 3) := by decide +kernel
theorem mD_TG_play_133 : decode mB_TG_play 133 = .ok (.bipush 8, 2) := by decide +kernel
theorem mD_TG_play_135 : decode mB_TG_play 135 = .ok (.iload 4, 2) := by decide +kernel
theorem mD_TG_play_137 : decode mB_TG_play 137 = .ok (.iadd, 1) := by decide +kernel
theorem mD_TG_play_138 : decode mB_TG_play 138 = .ok (.aaload, 1) := by decide +kernel
theorem mD_TG_play_139 : decode mB_TG_play 139 = .ok (.invokevirtual 139, 3) := by decide +kernel
theorem mD_TG_play_142 : decode mB_TG_play 142 = .ok (.iinc 4 1, 3) := by decide +kernel
theorem mD_TG_play_145 : decode mB_TG_play 145 = .ok (.goto (-66), 3) := by decide +kernel
theorem mD_TG_play_148 : decode mB_TG_play 148 = .ok (.aload_n 0, 1) := by decide +kernel
theorem mD_TG_play_149 : decode mB_TG_play 149 = .ok (.getfield 42, 3) := by decide +kernel
theorem mD_TG_play_152 : decode mB_TG_play 152 = .ok (.iload_n 3, 1) := by decide +kernel
theorem mD_TG_play_153 : decode mB_TG_play 153 = .ok (.invokevirtual 82, 3) := by decide +kernel
theorem mD_TG_play_156 : decode mB_TG_play 156 = .ok (.aload_n 0, 1) := by decide +kernel
theorem mD_TG_play_157 : decode mB_TG_play 157 = .ok (.getfield 55, 3) := by decide +kernel
theorem mD_TG_play_160 : decode mB_TG_play 160 = .ok (.iload_n 1, 1) := by decide +kernel
theorem mD_TG_play_161 : decode mB_TG_play 161 = .ok (.aaload, 1) := by decide +kernel
theorem mD_TG_play_162 : decode mB_TG_play 162 = .ok (.invokevirtual 196, 3) := by decide +kernel
theorem mD_TG_play_165 : decode mB_TG_play 165 = .ok (.iload_n 3, 1) := by decide +kernel
theorem mD_TG_play_166 : decode mB_TG_play 166 = .ok (.ireturn, 1) := by decide +kernel
theorem mD_TG_clear_0 : decode mB_TG_clear 0 = .ok (.aload_n 0, 1) := by decide +kernel
theorem mD_TG_clear_1 : decode mB_TG_clear 1 = .ok (.getfield 49, 3) := by decide +kernel
theorem mD_TG_clear_4 : decode mB_TG_clear 4 = .ok (.invokevirtual 199, 3) := by decide +kernel
theorem mD_TG_clear_7 : decode mB_TG_clear 7 = .ok (.ireturn, 1) := by decide +kernel
theorem mD_TG_count_0 : decode mB_TG_count 0 = .ok (.iload_n 1, 1) := by decide +kernel
theorem mD_TG_count_1 : decode mB_TG_count 1 = .ok (.tableswitch 69 0 4 #[35, 43, 48, 53, 61], 35) := by decide +kernel
theorem mD_TG_count_36 : decode mB_TG_count 36 = .ok (.aload_n 0, 1) := by decide +kernel
theorem mD_TG_count_37 : decode mB_TG_count 37 = .ok (.getfield 42, 3) := by decide +kernel
theorem mD_TG_count_40 : decode mB_TG_count 40 = .ok (.getfield 97, 3) := by decide +kernel
theorem mD_TG_count_43 : decode mB_TG_count 43 = .ok (.ireturn, 1) := by decide +kernel
theorem mD_TG_count_44 : decode mB_TG_count 44 = .ok (.aload_n 0, 1) := by decide +kernel
theorem mD_TG_count_45 : decode mB_TG_count 45 = .ok (.getfield 200, 3) := by decide +kernel
theorem mD_TG_count_48 : decode mB_TG_count 48 = .ok (.ireturn, 1) := by decide +kernel
theorem mD_TG_count_49 : decode mB_TG_count 49 = .ok (.aload_n 0, 1) := by decide +kernel
theorem mD_TG_count_50 : decode mB_TG_count 50 = .ok (.getfield 203, 3) := by decide +kernel
theorem mD_TG_count_53 : decode mB_TG_count 53 = .ok (.ireturn, 1) := by decide +kernel
theorem mD_TG_count_54 : decode mB_TG_count 54 = .ok (.aload_n 0, 1) := by decide +kernel
theorem mD_TG_count_55 : decode mB_TG_count 55 = .ok (.getfield 49, 3) := by decide +kernel
theorem mD_TG_count_58 : decode mB_TG_count 58 = .ok (.getfield 175, 3) := by decide +kernel
theorem mD_TG_count_61 : decode mB_TG_count 61 = .ok (.ireturn, 1) := by decide +kernel
theorem mD_TG_count_62 : decode mB_TG_count 62 = .ok (.aload_n 0, 1) := by decide +kernel
theorem mD_TG_count_63 : decode mB_TG_count 63 = .ok (.getfield 42, 3) := by decide +kernel
theorem mD_TG_count_66 : decode mB_TG_count 66 = .ok (.invokevirtual 206, 3) := by decide +kernel
theorem mD_TG_count_69 : decode mB_TG_count 69 = .ok (.ireturn, 1) := by decide +kernel
theorem mD_TG_count_70 : decode mB_TG_count 70 = .ok (.new 209, 3) := by decide +kernel
theorem mD_TG_count_73 : decode mB_TG_count 73 = .ok (.dup, 1) := by decide +kernel
theorem mD_TG_count_74 : decode mB_TG_count 74 = .ok (.ldc 211, 2) := by decide +kernel
theorem mD_TG_count_76 : decode mB_TG_count 76 = .ok (.invokespecial 213, 3) := by decide +kernel
theorem mD_TG_count_79 : decode mB_TG_count 79 = .ok (.athrow, 1) := by decide +kernel
theorem mD_TG_makeKey_0 : decode mB_TG_makeKey 0 = .ok (.aload_n 0, 1) := by decide +kernel
theorem mD_TG_makeKey_1 : decode mB_TG_makeKey 1 = .ok (.getfield 10, 3) := by decide +kernel
theorem mD_TG_makeKey_4 : decode mB_TG_makeKey 4 = .ok (.iload_n 1, 1) := by decide +kernel
theorem mD_TG_makeKey_5 : decode mB_TG_makeKey 5 = .ok (.invokevirtual 214, 3) := by decide +kernel
theorem mD_TG_makeKey_8 : decode mB_TG_makeKey 8 = .ok (.aload_n 0, 1) := by decide +kernel
theorem mD_TG_makeKey_9 : decode mB_TG_makeKey 9 = .ok (.getfield 19, 3) := by decide +kernel
theorem mD_TG_makeKey_12 : decode mB_TG_makeKey 12 = .ok (.aload_n 0, 1) := by decide +kernel
theorem mD_TG_makeKey_13 : decode mB_TG_makeKey 13 = .ok (.getfield 10, 3) := by decide +kernel
theorem mD_TG_makeKey_16 : decode mB_TG_makeKey 16 = .ok (.invokevirtual 217, 3) := by decide +kernel
theorem mD_TG_makeKey_19 : decode mB_TG_makeKey 19 = .ok (.aload_n 0, 1) := by decide +kernel
theorem mD_TG_makeKey_20 : decode mB_TG_makeKey 20 = .ok (.getfield 26, 3) := by decide +kernel
theorem mD_TG_makeKey_23 : decode mB_TG_makeKey 23 = .ok (.aload_n 0, 1) := by decide +kernel
theorem mD_TG_makeKey_24 : decode mB_TG_makeKey 24 = .ok (.getfield 19, 3) := by decide +kernel
theorem mD_TG_makeKey_27 : decode mB_TG_makeKey 27 = .ok (.aload_n 0, 1) := by decide +kernel
theorem mD_TG_makeKey_28 : decode mB_TG_makeKey 28 = .ok (.getfield 10, 3) := by decide +kernel
theorem mD_TG_makeKey_31 : decode mB_TG_makeKey 31 = .ok (.invokevirtual 221, 3) := by decide +kernel
theorem mD_TG_makeKey_34 : decode mB_TG_makeKey 34 = .ok (.return_, 1) := by decide +kernel
theorem mD_TG_cellOf_0 : decode mB_TG_cellOf 0 = .ok (.aload_n 0, 1) := by decide +kernel
theorem mD_TG_cellOf_1 : decode mB_TG_cellOf 1 = .ok (.getfield 42, 3) := by decide +kernel
theorem mD_TG_cellOf_4 : decode mB_TG_cellOf 4 = .ok (.iload_n 1, 1) := by decide +kernel
theorem mD_TG_cellOf_5 : decode mB_TG_cellOf 5 = .ok (.invokevirtual 224, 3) := by decide +kernel
theorem mD_TG_cellOf_8 : decode mB_TG_cellOf 8 = .ok (.ifCond .ne 13, 3) := by decide +kernel
theorem mD_TG_cellOf_11 : decode mB_TG_cellOf 11 = .ok (.new 170, 3) := by decide +kernel
theorem mD_TG_cellOf_14 : decode mB_TG_cellOf 14 = .ok (.dup, 1) := by decide +kernel
theorem mD_TG_cellOf_15 : decode mB_TG_cellOf 15 = .ok (.ldc 227, 2) := by decide +kernel
theorem mD_TG_cellOf_17 : decode mB_TG_cellOf 17 = .ok (.invokespecial 174, 3) := by decide +kernel
theorem mD_TG_cellOf_20 : decode mB_TG_cellOf 20 = .ok (.athrow, 1) := by decide +kernel
theorem mD_TG_cellOf_21 : decode mB_TG_cellOf 21 = .ok (.aload_n 0, 1) := by decide +kernel
theorem mD_TG_cellOf_22 : decode mB_TG_cellOf 22 = .ok (.getfield 42, 3) := by decide +kernel
theorem mD_TG_cellOf_25 : decode mB_TG_cellOf 25 = .ok (.getfield 229, 3) := by decide +kernel
theorem mD_TG_cellOf_28 : decode mB_TG_cellOf 28 = .ok (.iload_n 1, 1) := by decide +kernel
theorem mD_TG_cellOf_29 : decode mB_TG_cellOf 29 = .ok (.aaload, 1) := by decide +kernel
theorem mD_TG_cellOf_30 : decode mB_TG_cellOf 30 = .ok (.areturn, 1) := by decide +kernel
theorem mD_TG_freeNumber_0 : decode mB_TG_freeNumber 0 = .ok (.aload_n 0, 1) := by decide +kernel
theorem mD_TG_freeNumber_1 : decode mB_TG_freeNumber 1 = .ok (.getfield 42, 3) := by decide +kernel
theorem mD_TG_freeNumber_4 : decode mB_TG_freeNumber 4 = .ok (.invokevirtual 232, 3) := by decide +kernel
theorem mD_TG_freeNumber_7 : decode mB_TG_freeNumber 7 = .ok (.istore_n 1, 1) := by decide +kernel
theorem mD_TG_freeNumber_8 : decode mB_TG_freeNumber 8 = .ok (.iload_n 1, 1) := by decide +kernel
theorem mD_TG_freeNumber_9 : decode mB_TG_freeNumber 9 = .ok (.iconst (-1), 1) := by decide +kernel
theorem mD_TG_freeNumber_10 : decode mB_TG_freeNumber 10 = .ok (.if_icmp .ne 13, 3) := by decide +kernel
theorem mD_TG_freeNumber_13 : decode mB_TG_freeNumber 13 = .ok (.new 144, 3) := by decide +kernel
theorem mD_TG_freeNumber_16 : decode mB_TG_freeNumber 16 = .ok (.dup, 1) := by decide +kernel
theorem mD_TG_freeNumber_17 : decode mB_TG_freeNumber 17 = .ok (.ldc 235, 2) := by decide +kernel
theorem mD_TG_freeNumber_19 : decode mB_TG_freeNumber 19 = .ok (.invokespecial 148, 3) := by decide +kernel
theorem mD_TG_freeNumber_22 : decode mB_TG_freeNumber 22 = .ok (.athrow, 1) := by decide +kernel
theorem mD_TG_freeNumber_23 : decode mB_TG_freeNumber 23 = .ok (.iload_n 1, 1) := by decide +kernel
theorem mD_TG_freeNumber_24 : decode mB_TG_freeNumber 24 = .ok (.ireturn, 1) := by decide +kernel
theorem mD_TG_checkKind_0 : decode mB_TG_checkKind 0 = .ok (.iload_n 1, 1) := by decide +kernel
theorem mD_TG_checkKind_1 : decode mB_TG_checkKind 1 = .ok (.ifCond .lt 9, 3) := by decide +kernel
theorem mD_TG_checkKind_4 : decode mB_TG_checkKind 4 = .ok (.iload_n 1, 1) := by decide +kernel
theorem mD_TG_checkKind_5 : decode mB_TG_checkKind 5 = .ok (.bipush 7, 2) := by decide +kernel
theorem mD_TG_checkKind_7 : decode mB_TG_checkKind 7 = .ok (.if_icmp .le 13, 3) := by decide +kernel
theorem mD_TG_checkKind_10 : decode mB_TG_checkKind 10 = .ok (.new 170, 3) := by decide +kernel
theorem mD_TG_checkKind_13 : decode mB_TG_checkKind 13 = .ok (.dup, 1) := by decide +kernel
theorem mD_TG_checkKind_14 : decode mB_TG_checkKind 14 = .ok (.ldc 237, 2) := by decide +kernel
theorem mD_TG_checkKind_16 : decode mB_TG_checkKind 16 = .ok (.invokespecial 174, 3) := by decide +kernel
theorem mD_TG_checkKind_19 : decode mB_TG_checkKind 19 = .ok (.athrow, 1) := by decide +kernel
theorem mD_TG_checkKind_20 : decode mB_TG_checkKind 20 = .ok (.return_, 1) := by decide +kernel
theorem mD_TG_checkRange_0 : decode mB_TG_checkRange 0 = .ok (.iload_n 1, 1) := by decide +kernel
theorem mD_TG_checkRange_1 : decode mB_TG_checkRange 1 = .ok (.ifCond .lt 8, 3) := by decide +kernel
theorem mD_TG_checkRange_4 : decode mB_TG_checkRange 4 = .ok (.iload_n 1, 1) := by decide +kernel
theorem mD_TG_checkRange_5 : decode mB_TG_checkRange 5 = .ok (.iload_n 2, 1) := by decide +kernel
theorem mD_TG_checkRange_6 : decode mB_TG_checkRange 6 = .ok (.if_icmp .le 13, 3) := by decide +kernel
theorem mD_TG_checkRange_9 : decode mB_TG_checkRange 9 = .ok (.new 209, 3) := by decide +kernel
theorem mD_TG_checkRange_12 : decode mB_TG_checkRange 12 = .ok (.dup, 1) := by decide +kernel
theorem mD_TG_checkRange_13 : decode mB_TG_checkRange 13 = .ok (.ldc 239, 2) := by decide +kernel
theorem mD_TG_checkRange_15 : decode mB_TG_checkRange 15 = .ok (.invokespecial 213, 3) := by decide +kernel
theorem mD_TG_checkRange_18 : decode mB_TG_checkRange 18 = .ok (.athrow, 1) := by decide +kernel
theorem mD_TG_checkRange_19 : decode mB_TG_checkRange 19 = .ok (.return_, 1) := by decide +kernel
theorem mD_TG_checkedBound_0 : decode mB_TG_checkedBound 0 = .ok (.lload_n 1, 1) := by decide +kernel
theorem mD_TG_checkedBound_1 : decode mB_TG_checkedBound 1 = .ok (.ldc2_w 241, 3) := by decide +kernel
theorem mD_TG_checkedBound_4 : decode mB_TG_checkedBound 4 = .ok (.lcmp, 1) := by decide +kernel
theorem mD_TG_checkedBound_5 : decode mB_TG_checkedBound 5 = .ok (.ifCond .lt 13, 3) := by decide +kernel
theorem mD_TG_checkedBound_8 : decode mB_TG_checkedBound 8 = .ok (.new 144, 3) := by decide +kernel
theorem mD_TG_checkedBound_11 : decode mB_TG_checkedBound 11 = .ok (.dup, 1) := by decide +kernel
theorem mD_TG_checkedBound_12 : decode mB_TG_checkedBound 12 = .ok (.ldc 243, 2) := by decide +kernel
theorem mD_TG_checkedBound_14 : decode mB_TG_checkedBound 14 = .ok (.invokespecial 148, 3) := by decide +kernel
theorem mD_TG_checkedBound_17 : decode mB_TG_checkedBound 17 = .ok (.athrow, 1) := by decide +kernel
theorem mD_TG_checkedBound_18 : decode mB_TG_checkedBound 18 = .ok (.lload_n 1, 1) := by decide +kernel
theorem mD_TG_checkedBound_19 : decode mB_TG_checkedBound 19 = .ok (.l2i, 1) := by decide +kernel
theorem mD_TG_checkedBound_20 : decode mB_TG_checkedBound 20 = .ok (.ireturn, 1) := by decide +kernel
theorem mD_TG_refuseIf_0 : decode mB_TG_refuseIf 0 = .ok (.iload_n 1, 1) := by decide +kernel
theorem mD_TG_refuseIf_1 : decode mB_TG_refuseIf 1 = .ok (.ifCond .eq 23, 3) := by decide +kernel
theorem mD_TG_refuseIf_4 : decode mB_TG_refuseIf 4 = .ok (.aload_n 0, 1) := by decide +kernel
theorem mD_TG_refuseIf_5 : decode mB_TG_refuseIf 5 = .ok (.dup, 1) := by decide +kernel
theorem mD_TG_refuseIf_6 : decode mB_TG_refuseIf 6 = .ok (.getfield 203, 3) := by decide +kernel
theorem mD_TG_refuseIf_9 : decode mB_TG_refuseIf 9 = .ok (.iconst 1, 1) := by decide +kernel
theorem mD_TG_refuseIf_10 : decode mB_TG_refuseIf 10 = .ok (.iadd, 1) := by decide +kernel
theorem mD_TG_refuseIf_11 : decode mB_TG_refuseIf 11 = .ok (.putfield 203, 3) := by decide +kernel
theorem mD_TG_refuseIf_14 : decode mB_TG_refuseIf 14 = .ok (.new 144, 3) := by decide +kernel
theorem mD_TG_refuseIf_17 : decode mB_TG_refuseIf 17 = .ok (.dup, 1) := by decide +kernel
theorem mD_TG_refuseIf_18 : decode mB_TG_refuseIf 18 = .ok (.ldc 245, 2) := by decide +kernel
theorem mD_TG_refuseIf_20 : decode mB_TG_refuseIf 20 = .ok (.invokespecial 148, 3) := by decide +kernel
theorem mD_TG_refuseIf_23 : decode mB_TG_refuseIf 23 = .ok (.athrow, 1) := by decide +kernel
theorem mD_TG_refuseIf_24 : decode mB_TG_refuseIf 24 = .ok (.return_, 1) := by decide +kernel
theorem mD_TG_fillNew_0 : decode mB_TG_fillNew 0 = .ok (.aload_n 0, 1) := by decide +kernel
theorem mD_TG_fillNew_1 : decode mB_TG_fillNew 1 = .ok (.getfield 19, 3) := by decide +kernel
theorem mD_TG_fillNew_4 : decode mB_TG_fillNew 4 = .ok (.iload_n 2, 1) := by decide +kernel
theorem mD_TG_fillNew_5 : decode mB_TG_fillNew 5 = .ok (.invokestatic 162, 3) := by decide +kernel
theorem mD_TG_fillNew_8 : decode mB_TG_fillNew 8 = .ok (.aload_n 1, 1) := by decide +kernel
theorem mD_TG_fillNew_9 : decode mB_TG_fillNew 9 = .ok (.getfield 151, 3) := by decide +kernel
theorem mD_TG_fillNew_12 : decode mB_TG_fillNew 12 = .ok (.iconst 5, 1) := by decide +kernel
theorem mD_TG_fillNew_13 : decode mB_TG_fillNew 13 = .ok (.aload_n 0, 1) := by decide +kernel
theorem mD_TG_fillNew_14 : decode mB_TG_fillNew 14 = .ok (.getfield 10, 3) := by decide +kernel
theorem mD_TG_fillNew_17 : decode mB_TG_fillNew 17 = .ok (.invokevirtual 117, 3) := by decide +kernel
theorem mD_TG_fillNew_20 : decode mB_TG_fillNew 20 = .ok (.aload_n 1, 1) := by decide +kernel
theorem mD_TG_fillNew_21 : decode mB_TG_fillNew 21 = .ok (.bipush 16, 2) := by decide +kernel
theorem mD_TG_fillNew_23 : decode mB_TG_fillNew 23 = .ok (.putfield 108, 3) := by decide +kernel
theorem mD_TG_fillNew_26 : decode mB_TG_fillNew 26 = .ok (.aload_n 1, 1) := by decide +kernel
theorem mD_TG_fillNew_27 : decode mB_TG_fillNew 27 = .ok (.iload_n 2, 1) := by decide +kernel
theorem mD_TG_fillNew_28 : decode mB_TG_fillNew 28 = .ok (.putfield 158, 3) := by decide +kernel
theorem mD_TG_fillNew_31 : decode mB_TG_fillNew 31 = .ok (.return_, 1) := by decide +kernel
theorem mD_TG_runGate_0 : decode mB_TG_runGate 0 = .ok (.aload_n 0, 1) := by decide +kernel
theorem mD_TG_runGate_1 : decode mB_TG_runGate 1 = .ok (.getfield 35, 3) := by decide +kernel
theorem mD_TG_runGate_4 : decode mB_TG_runGate 4 = .ok (.iload_n 1, 1) := by decide +kernel
theorem mD_TG_runGate_5 : decode mB_TG_runGate 5 = .ok (.aload_n 2, 1) := by decide +kernel
theorem mD_TG_runGate_6 : decode mB_TG_runGate 6 = .ok (.getfield 151, 3) := by decide +kernel
theorem mD_TG_runGate_9 : decode mB_TG_runGate 9 = .ok (.aload_n 3, 1) := by decide +kernel
theorem mD_TG_runGate_10 : decode mB_TG_runGate 10 = .ok (.getfield 151, 3) := by decide +kernel
theorem mD_TG_runGate_13 : decode mB_TG_runGate 13 = .ok (.aload 4, 2) := by decide +kernel
theorem mD_TG_runGate_15 : decode mB_TG_runGate 15 = .ok (.getfield 151, 3) := by decide +kernel
theorem mD_TG_runGate_18 : decode mB_TG_runGate 18 = .ok (.invokevirtual 247, 3) := by decide +kernel
theorem mD_TG_runGate_21 : decode mB_TG_runGate 21 = .ok (.aload 4, 2) := by decide +kernel
theorem mD_TG_runGate_23 : decode mB_TG_runGate 23 = .ok (.ldc 251, 2) := by decide +kernel
theorem mD_TG_runGate_25 : decode mB_TG_runGate 25 = .ok (.putfield 108, 3) := by decide +kernel
theorem mD_TG_runGate_28 : decode mB_TG_runGate 28 = .ok (.aload 4, 2) := by decide +kernel
theorem mD_TG_runGate_30 : decode mB_TG_runGate 30 = .ok (.iload_n 1, 1) := by decide +kernel
theorem mD_TG_runGate_31 : decode mB_TG_runGate 31 = .ok (.aload_n 2, 1) := by decide +kernel
theorem mD_TG_runGate_32 : decode mB_TG_runGate 32 = .ok (.getfield 158, 3) := by decide +kernel
theorem mD_TG_runGate_35 : decode mB_TG_runGate 35 = .ok (.aload_n 3, 1) := by decide +kernel
theorem mD_TG_runGate_36 : decode mB_TG_runGate 36 = .ok (.getfield 158, 3) := by decide +kernel
theorem mD_TG_runGate_39 : decode mB_TG_runGate 39 = .ok (.invokestatic 252, 3) := by decide +kernel
theorem mD_TG_runGate_42 : decode mB_TG_runGate 42 = .ok (.putfield 158, 3) := by decide +kernel
theorem mD_TG_runGate_45 : decode mB_TG_runGate 45 = .ok (.aload_n 0, 1) := by decide +kernel
theorem mD_TG_runGate_46 : decode mB_TG_runGate 46 = .ok (.dup, 1) := by decide +kernel
theorem mD_TG_runGate_47 : decode mB_TG_runGate 47 = .ok (.getfield 200, 3) := by decide +kernel
theorem mD_TG_runGate_50 : decode mB_TG_runGate 50 = .ok (.iconst 1, 1) := by decide +kernel
theorem mD_TG_runGate_51 : decode mB_TG_runGate 51 = .ok (.iadd, 1) := by decide +kernel
theorem mD_TG_runGate_52 : decode mB_TG_runGate 52 = .ok (.putfield 200, 3) := by decide +kernel
theorem mD_TG_runGate_55 : decode mB_TG_runGate 55 = .ok (.return_, 1) := by decide +kernel
theorem mD_TG_isTooFar_0 : decode mB_TG_isTooFar 0 = .ok (.aload_n 1, 1) := by decide +kernel
theorem mD_TG_isTooFar_1 : decode mB_TG_isTooFar 1 = .ok (.getfield 108, 3) := by decide +kernel
theorem mD_TG_isTooFar_4 : decode mB_TG_isTooFar 4 = .ok (.i2l, 1) := by decide +kernel
theorem mD_TG_isTooFar_5 : decode mB_TG_isTooFar 5 = .ok (.aload_n 2, 1) := by decide +kernel
theorem mD_TG_isTooFar_6 : decode mB_TG_isTooFar 6 = .ok (.getfield 108, 3) := by decide +kernel
theorem mD_TG_isTooFar_9 : decode mB_TG_isTooFar 9 = .ok (.i2l, 1) := by decide +kernel
theorem mD_TG_isTooFar_10 : decode mB_TG_isTooFar 10 = .ok (.ladd, 1) := by decide +kernel
theorem mD_TG_isTooFar_11 : decode mB_TG_isTooFar 11 = .ok (.lstore_n 3, 1) := by decide +kernel
theorem mD_TG_isTooFar_12 : decode mB_TG_isTooFar 12 = .ok (.iload_n 0, 1) := by decide +kernel
theorem mD_TG_isTooFar_13 : decode mB_TG_isTooFar 13 = .ok (.iconst 4, 1) := by decide +kernel
theorem mD_TG_isTooFar_14 : decode mB_TG_isTooFar 14 = .ok (.if_icmp .eq 8, 3) := by decide +kernel
theorem mD_TG_isTooFar_17 : decode mB_TG_isTooFar 17 = .ok (.iload_n 0, 1) := by decide +kernel
theorem mD_TG_isTooFar_18 : decode mB_TG_isTooFar 18 = .ok (.iconst 5, 1) := by decide +kernel
theorem mD_TG_isTooFar_19 : decode mB_TG_isTooFar 19 = .ok (.if_icmp .ne 21, 3) := by decide +kernel
theorem mD_TG_isTooFar_22 : decode mB_TG_isTooFar 22 = .ok (.ldc2_w 256, 3) := by decide +kernel
theorem mD_TG_isTooFar_25 : decode mB_TG_isTooFar 25 = .ok (.lload_n 3, 1) := by decide +kernel
theorem mD_TG_isTooFar_26 : decode mB_TG_isTooFar 26 = .ok (.lmul, 1) := by decide +kernel
theorem mD_TG_isTooFar_27 : decode mB_TG_isTooFar 27 = .ok (.ldc2_w 258, 3) := by decide +kernel
theorem mD_TG_isTooFar_30 : decode mB_TG_isTooFar 30 = .ok (.lcmp, 1) := by decide +kernel
theorem mD_TG_isTooFar_31 : decode mB_TG_isTooFar 31 = .ok (.ifCond .lt 7, 3) := by decide +kernel
theorem mD_TG_isTooFar_34 : decode mB_TG_isTooFar 34 = .ok (.iconst 1, 1) := by decide +kernel
theorem mD_TG_isTooFar_35 : decode mB_TG_isTooFar 35 = .ok (.goto 4, 3) := by decide +kernel
theorem mD_TG_isTooFar_38 : decode mB_TG_isTooFar 38 = .ok (.iconst 0, 1) := by decide +kernel
theorem mD_TG_isTooFar_39 : decode mB_TG_isTooFar 39 = .ok (.ireturn, 1) := by decide +kernel
theorem mD_TG_isTooFar_40 : decode mB_TG_isTooFar 40 = .ok (.lload_n 3, 1) := by decide +kernel
theorem mD_TG_isTooFar_41 : decode mB_TG_isTooFar 41 = .ok (.ldc2_w 260, 3) := by decide +kernel
theorem mD_TG_isTooFar_44 : decode mB_TG_isTooFar 44 = .ok (.lcmp, 1) := by decide +kernel
theorem mD_TG_isTooFar_45 : decode mB_TG_isTooFar 45 = .ok (.ifCond .lt 7, 3) := by decide +kernel
theorem mD_TG_isTooFar_48 : decode mB_TG_isTooFar 48 = .ok (.iconst 1, 1) := by decide +kernel
theorem mD_TG_isTooFar_49 : decode mB_TG_isTooFar 49 = .ok (.goto 4, 3) := by decide +kernel
theorem mD_TG_isTooFar_52 : decode mB_TG_isTooFar 52 = .ok (.iconst 0, 1) := by decide +kernel
theorem mD_TG_isTooFar_53 : decode mB_TG_isTooFar 53 = .ok (.ireturn, 1) := by decide +kernel
theorem mD_TG_placeFor_0 : decode mB_TG_placeFor 0 = .ok (.iload_n 0, 1) := by decide +kernel
theorem mD_TG_placeFor_1 : decode mB_TG_placeFor 1 = .ok (.ifCond .eq 9, 3) := by decide +kernel
theorem mD_TG_placeFor_4 : decode mB_TG_placeFor 4 = .ok (.ldc_w 262, 3) := by decide +kernel
theorem mD_TG_placeFor_7 : decode mB_TG_placeFor 7 = .ok (.goto 6, 3) := by decide +kernel
theorem mD_TG_placeFor_10 : decode mB_TG_placeFor 10 = .ok (.ldc_w 263, 3) := by decide +kernel
theorem mD_TG_placeFor_13 : decode mB_TG_placeFor 13 = .ok (.ireturn, 1) := by decide +kernel
theorem mD_TG_truth_0 : decode mB_TG_truth 0 = .ok (.iload_n 0, 1) := by decide +kernel
theorem mD_TG_truth_1 : decode mB_TG_truth 1 = .ok (.tableswitch 135 0 6 #[43, 57, 71, 85, 99, 110, 121], 43) := by decide +kernel
theorem mD_TG_truth_44 : decode mB_TG_truth 44 = .ok (.iload_n 1, 1) := by decide +kernel
theorem mD_TG_truth_45 : decode mB_TG_truth 45 = .ok (.ifCond .eq 11, 3) := by decide +kernel
theorem mD_TG_truth_48 : decode mB_TG_truth 48 = .ok (.iload_n 2, 1) := by decide +kernel
theorem mD_TG_truth_49 : decode mB_TG_truth 49 = .ok (.ifCond .eq 7, 3) := by decide +kernel
theorem mD_TG_truth_52 : decode mB_TG_truth 52 = .ok (.iconst 1, 1) := by decide +kernel
theorem mD_TG_truth_53 : decode mB_TG_truth 53 = .ok (.goto 4, 3) := by decide +kernel
theorem mD_TG_truth_56 : decode mB_TG_truth 56 = .ok (.iconst 0, 1) := by decide +kernel
theorem mD_TG_truth_57 : decode mB_TG_truth 57 = .ok (.ireturn, 1) := by decide +kernel
theorem mD_TG_truth_58 : decode mB_TG_truth 58 = .ok (.iload_n 1, 1) := by decide +kernel
theorem mD_TG_truth_59 : decode mB_TG_truth 59 = .ok (.ifCond .ne 7, 3) := by decide +kernel
theorem mD_TG_truth_62 : decode mB_TG_truth 62 = .ok (.iload_n 2, 1) := by decide +kernel
theorem mD_TG_truth_63 : decode mB_TG_truth 63 = .ok (.ifCond .eq 7, 3) := by decide +kernel
theorem mD_TG_truth_66 : decode mB_TG_truth 66 = .ok (.iconst 1, 1) := by decide +kernel
theorem mD_TG_truth_67 : decode mB_TG_truth 67 = .ok (.goto 4, 3) := by decide +kernel
theorem mD_TG_truth_70 : decode mB_TG_truth 70 = .ok (.iconst 0, 1) := by decide +kernel
theorem mD_TG_truth_71 : decode mB_TG_truth 71 = .ok (.ireturn, 1) := by decide +kernel
theorem mD_TG_truth_72 : decode mB_TG_truth 72 = .ok (.iload_n 1, 1) := by decide +kernel
theorem mD_TG_truth_73 : decode mB_TG_truth 73 = .ok (.ifCond .eq 7, 3) := by decide +kernel
theorem mD_TG_truth_76 : decode mB_TG_truth 76 = .ok (.iload_n 2, 1) := by decide +kernel
theorem mD_TG_truth_77 : decode mB_TG_truth 77 = .ok (.ifCond .ne 7, 3) := by decide +kernel
theorem mD_TG_truth_80 : decode mB_TG_truth 80 = .ok (.iconst 1, 1) := by decide +kernel
theorem mD_TG_truth_81 : decode mB_TG_truth 81 = .ok (.goto 4, 3) := by decide +kernel
theorem mD_TG_truth_84 : decode mB_TG_truth 84 = .ok (.iconst 0, 1) := by decide +kernel
theorem mD_TG_truth_85 : decode mB_TG_truth 85 = .ok (.ireturn, 1) := by decide +kernel
theorem mD_TG_truth_86 : decode mB_TG_truth 86 = .ok (.iload_n 1, 1) := by decide +kernel
theorem mD_TG_truth_87 : decode mB_TG_truth 87 = .ok (.ifCond .ne 11, 3) := by decide +kernel
theorem mD_TG_truth_90 : decode mB_TG_truth 90 = .ok (.iload_n 2, 1) := by decide +kernel
theorem mD_TG_truth_91 : decode mB_TG_truth 91 = .ok (.ifCond .ne 7, 3) := by decide +kernel
theorem mD_TG_truth_94 : decode mB_TG_truth 94 = .ok (.iconst 1, 1) := by decide +kernel
theorem mD_TG_truth_95 : decode mB_TG_truth 95 = .ok (.goto 4, 3) := by decide +kernel
theorem mD_TG_truth_98 : decode mB_TG_truth 98 = .ok (.iconst 0, 1) := by decide +kernel
theorem mD_TG_truth_99 : decode mB_TG_truth 99 = .ok (.ireturn, 1) := by decide +kernel
theorem mD_TG_truth_100 : decode mB_TG_truth 100 = .ok (.iload_n 1, 1) := by decide +kernel
theorem mD_TG_truth_101 : decode mB_TG_truth 101 = .ok (.iload_n 2, 1) := by decide +kernel
theorem mD_TG_truth_102 : decode mB_TG_truth 102 = .ok (.if_icmp .eq 7, 3) := by decide +kernel
theorem mD_TG_truth_105 : decode mB_TG_truth 105 = .ok (.iconst 1, 1) := by decide +kernel
theorem mD_TG_truth_106 : decode mB_TG_truth 106 = .ok (.goto 4, 3) := by decide +kernel
theorem mD_TG_truth_109 : decode mB_TG_truth 109 = .ok (.iconst 0, 1) := by decide +kernel
theorem mD_TG_truth_110 : decode mB_TG_truth 110 = .ok (.ireturn, 1) := by decide +kernel
theorem mD_TG_truth_111 : decode mB_TG_truth 111 = .ok (.iload_n 1, 1) := by decide +kernel
theorem mD_TG_truth_112 : decode mB_TG_truth 112 = .ok (.iload_n 2, 1) := by decide +kernel
theorem mD_TG_truth_113 : decode mB_TG_truth 113 = .ok (.if_icmp .ne 7, 3) := by decide +kernel
theorem mD_TG_truth_116 : decode mB_TG_truth 116 = .ok (.iconst 1, 1) := by decide +kernel
theorem mD_TG_truth_117 : decode mB_TG_truth 117 = .ok (.goto 4, 3) := by decide +kernel
theorem mD_TG_truth_120 : decode mB_TG_truth 120 = .ok (.iconst 0, 1) := by decide +kernel
theorem mD_TG_truth_121 : decode mB_TG_truth 121 = .ok (.ireturn, 1) := by decide +kernel
theorem mD_TG_truth_122 : decode mB_TG_truth 122 = .ok (.iload_n 1, 1) := by decide +kernel
theorem mD_TG_truth_123 : decode mB_TG_truth 123 = .ok (.ifCond .eq 11, 3) := by decide +kernel
theorem mD_TG_truth_126 : decode mB_TG_truth 126 = .ok (.iload_n 2, 1) := by decide +kernel
theorem mD_TG_truth_127 : decode mB_TG_truth 127 = .ok (.ifCond .ne 7, 3) := by decide +kernel
theorem mD_TG_truth_130 : decode mB_TG_truth 130 = .ok (.iconst 1, 1) := by decide +kernel
theorem mD_TG_truth_131 : decode mB_TG_truth 131 = .ok (.goto 4, 3) := by decide +kernel
theorem mD_TG_truth_134 : decode mB_TG_truth 134 = .ok (.iconst 0, 1) := by decide +kernel
theorem mD_TG_truth_135 : decode mB_TG_truth 135 = .ok (.ireturn, 1) := by decide +kernel
theorem mD_TG_truth_136 : decode mB_TG_truth 136 = .ok (.iload_n 1, 1) := by decide +kernel
theorem mD_TG_truth_137 : decode mB_TG_truth 137 = .ok (.ifCond .ne 7, 3) := by decide +kernel
theorem mD_TG_truth_140 : decode mB_TG_truth 140 = .ok (.iload_n 2, 1) := by decide +kernel
theorem mD_TG_truth_141 : decode mB_TG_truth 141 = .ok (.ifCond .ne 7, 3) := by decide +kernel
theorem mD_TG_truth_144 : decode mB_TG_truth 144 = .ok (.iconst 1, 1) := by decide +kernel
theorem mD_TG_truth_145 : decode mB_TG_truth 145 = .ok (.goto 4, 3) := by decide +kernel
theorem mD_TG_truth_148 : decode mB_TG_truth 148 = .ok (.iconst 0, 1) := by decide +kernel
theorem mD_TG_truth_149 : decode mB_TG_truth 149 = .ok (.ireturn, 1) := by decide +kernel
theorem mD_Mo_init_0 : decode mB_Mo_init 0 = .ok (.aload_n 0, 1) := by decide +kernel
theorem mD_Mo_init_1 : decode mB_Mo_init 1 = .ok (.invokespecial 1, 3) := by decide +kernel
theorem mD_Mo_init_4 : decode mB_Mo_init 4 = .ok (.aload_n 0, 1) := by decide +kernel
theorem mD_Mo_init_5 : decode mB_Mo_init 5 = .ok (.bipush 120, 2) := by decide +kernel
theorem mD_Mo_init_7 : decode mB_Mo_init 7 = .ok (.newarray .boolean, 2) := by decide +kernel
theorem mD_Mo_init_9 : decode mB_Mo_init 9 = .ok (.putfield 7, 3) := by decide +kernel
theorem mD_Mo_init_12 : decode mB_Mo_init 12 = .ok (.aload_n 0, 1) := by decide +kernel
theorem mD_Mo_init_13 : decode mB_Mo_init 13 = .ok (.bipush 120, 2) := by decide +kernel
theorem mD_Mo_init_15 : decode mB_Mo_init 15 = .ok (.newarray .boolean, 2) := by decide +kernel
theorem mD_Mo_init_17 : decode mB_Mo_init 17 = .ok (.putfield 13, 3) := by decide +kernel
theorem mD_Mo_init_20 : decode mB_Mo_init 20 = .ok (.aload_n 0, 1) := by decide +kernel
theorem mD_Mo_init_21 : decode mB_Mo_init 21 = .ok (.bipush 120, 2) := by decide +kernel
theorem mD_Mo_init_23 : decode mB_Mo_init 23 = .ok (.newarray .int, 2) := by decide +kernel
theorem mD_Mo_init_25 : decode mB_Mo_init 25 = .ok (.putfield 16, 3) := by decide +kernel
theorem mD_Mo_init_28 : decode mB_Mo_init 28 = .ok (.aload_n 0, 1) := by decide +kernel
theorem mD_Mo_init_29 : decode mB_Mo_init 29 = .ok (.bipush 24, 2) := by decide +kernel
theorem mD_Mo_init_31 : decode mB_Mo_init 31 = .ok (.newarray .int, 2) := by decide +kernel
theorem mD_Mo_init_33 : decode mB_Mo_init 33 = .ok (.putfield 20, 3) := by decide +kernel
theorem mD_Mo_init_36 : decode mB_Mo_init 36 = .ok (.aload_n 0, 1) := by decide +kernel
theorem mD_Mo_init_37 : decode mB_Mo_init 37 = .ok (.bipush 24, 2) := by decide +kernel
theorem mD_Mo_init_39 : decode mB_Mo_init 39 = .ok (.newarray .int, 2) := by decide +kernel
theorem mD_Mo_init_41 : decode mB_Mo_init 41 = .ok (.putfield 23, 3) := by decide +kernel
theorem mD_Mo_init_44 : decode mB_Mo_init 44 = .ok (.aload_n 0, 1) := by decide +kernel
theorem mD_Mo_init_45 : decode mB_Mo_init 45 = .ok (.bipush 24, 2) := by decide +kernel
theorem mD_Mo_init_47 : decode mB_Mo_init 47 = .ok (.newarray .int, 2) := by decide +kernel
theorem mD_Mo_init_49 : decode mB_Mo_init 49 = .ok (.putfield 26, 3) := by decide +kernel
theorem mD_Mo_init_52 : decode mB_Mo_init 52 = .ok (.aload_n 0, 1) := by decide +kernel
theorem mD_Mo_init_53 : decode mB_Mo_init 53 = .ok (.bipush 32, 2) := by decide +kernel
theorem mD_Mo_init_55 : decode mB_Mo_init 55 = .ok (.newarray .boolean, 2) := by decide +kernel
theorem mD_Mo_init_57 : decode mB_Mo_init 57 = .ok (.putfield 29, 3) := by decide +kernel
theorem mD_Mo_init_60 : decode mB_Mo_init 60 = .ok (.return_, 1) := by decide +kernel
theorem mD_Mo_thrown_0 : decode mB_Mo_thrown 0 = .ok (.aload_n 0, 1) := by decide +kernel
theorem mD_Mo_thrown_1 : decode mB_Mo_thrown 1 = .ok (.getfield 32, 3) := by decide +kernel
theorem mD_Mo_thrown_4 : decode mB_Mo_thrown 4 = .ok (.ireturn, 1) := by decide +kernel
theorem mD_Mo_goes_0 : decode mB_Mo_goes 0 = .ok (.aload_n 0, 1) := by decide +kernel
theorem mD_Mo_goes_1 : decode mB_Mo_goes 1 = .ok (.iload_n 1, 1) := by decide +kernel
theorem mD_Mo_goes_2 : decode mB_Mo_goes 2 = .ok (.ifCond .ne 7, 3) := by decide +kernel
theorem mD_Mo_goes_5 : decode mB_Mo_goes 5 = .ok (.iconst 1, 1) := by decide +kernel
theorem mD_Mo_goes_6 : decode mB_Mo_goes 6 = .ok (.goto 20, 3) := by decide +kernel
theorem mD_Mo_goes_9 : decode mB_Mo_goes 9 = .ok (.iload_n 2, 1) := by decide +kernel
theorem mD_Mo_goes_10 : decode mB_Mo_goes 10 = .ok (.ifCond .ne 7, 3) := by decide +kernel
theorem mD_Mo_goes_13 : decode mB_Mo_goes 13 = .ok (.iconst 2, 1) := by decide +kernel
theorem mD_Mo_goes_14 : decode mB_Mo_goes 14 = .ok (.goto 12, 3) := by decide +kernel
theorem mD_Mo_goes_17 : decode mB_Mo_goes 17 = .ok (.iload_n 3, 1) := by decide +kernel
theorem mD_Mo_goes_18 : decode mB_Mo_goes 18 = .ok (.ifCond .ne 7, 3) := by decide +kernel
theorem mD_Mo_goes_21 : decode mB_Mo_goes 21 = .ok (.iconst 3, 1) := by decide +kernel
theorem mD_Mo_goes_22 : decode mB_Mo_goes 22 = .ok (.goto 4, 3) := by decide +kernel
theorem mD_Mo_goes_25 : decode mB_Mo_goes 25 = .ok (.iconst 0, 1) := by decide +kernel
theorem mD_Mo_goes_26 : decode mB_Mo_goes 26 = .ok (.putfield 32, 3) := by decide +kernel
theorem mD_Mo_goes_29 : decode mB_Mo_goes 29 = .ok (.aload_n 0, 1) := by decide +kernel
theorem mD_Mo_goes_30 : decode mB_Mo_goes 30 = .ok (.getfield 32, 3) := by decide +kernel
theorem mD_Mo_goes_33 : decode mB_Mo_goes 33 = .ok (.ifCond .ne 7, 3) := by decide +kernel
theorem mD_Mo_goes_36 : decode mB_Mo_goes 36 = .ok (.iconst 1, 1) := by decide +kernel
theorem mD_Mo_goes_37 : decode mB_Mo_goes 37 = .ok (.goto 4, 3) := by decide +kernel
theorem mD_Mo_goes_40 : decode mB_Mo_goes 40 = .ok (.iconst 0, 1) := by decide +kernel
theorem mD_Mo_goes_41 : decode mB_Mo_goes 41 = .ok (.ireturn, 1) := by decide +kernel
theorem mD_Mo_isBit_0 : decode mB_Mo_isBit 0 = .ok (.iload_n 1, 1) := by decide +kernel
theorem mD_Mo_isBit_1 : decode mB_Mo_isBit 1 = .ok (.ifCond .lt 22, 3) := by decide +kernel
theorem mD_Mo_isBit_4 : decode mB_Mo_isBit 4 = .ok (.iload_n 1, 1) := by decide +kernel
theorem mD_Mo_isBit_5 : decode mB_Mo_isBit 5 = .ok (.bipush 120, 2) := by decide +kernel
theorem mD_Mo_isBit_7 : decode mB_Mo_isBit 7 = .ok (.if_icmp .ge 16, 3) := by decide +kernel
theorem mD_Mo_isBit_10 : decode mB_Mo_isBit 10 = .ok (.aload_n 0, 1) := by decide +kernel
theorem mD_Mo_isBit_11 : decode mB_Mo_isBit 11 = .ok (.getfield 7, 3) := by decide +kernel
theorem mD_Mo_isBit_14 : decode mB_Mo_isBit 14 = .ok (.iload_n 1, 1) := by decide +kernel
theorem mD_Mo_isBit_15 : decode mB_Mo_isBit 15 = .ok (.baload, 1) := by decide +kernel
theorem mD_Mo_isBit_16 : decode mB_Mo_isBit 16 = .ok (.ifCond .eq 7, 3) := by decide +kernel
theorem mD_Mo_isBit_19 : decode mB_Mo_isBit 19 = .ok (.iconst 1, 1) := by decide +kernel
theorem mD_Mo_isBit_20 : decode mB_Mo_isBit 20 = .ok (.goto 4, 3) := by decide +kernel
theorem mD_Mo_isBit_23 : decode mB_Mo_isBit 23 = .ok (.iconst 0, 1) := by decide +kernel
theorem mD_Mo_isBit_24 : decode mB_Mo_isBit 24 = .ok (.ireturn, 1) := by decide +kernel
theorem mD_Mo_many_0 : decode mB_Mo_many 0 = .ok (.iconst 0, 1) := by decide +kernel
theorem mD_Mo_many_1 : decode mB_Mo_many 1 = .ok (.istore_n 1, 1) := by decide +kernel
theorem mD_Mo_many_2 : decode mB_Mo_many 2 = .ok (.iconst 0, 1) := by decide +kernel
theorem mD_Mo_many_3 : decode mB_Mo_many 3 = .ok (.istore_n 2, 1) := by decide +kernel
theorem mD_Mo_many_4 : decode mB_Mo_many 4 = .ok (.iload_n 2, 1) := by decide +kernel
theorem mD_Mo_many_5 : decode mB_Mo_many 5 = .ok (.bipush 120, 2) := by decide +kernel
theorem mD_Mo_many_7 : decode mB_Mo_many 7 = .ok (.if_icmp .ge 26, 3) := by decide +kernel
theorem mD_Mo_many_10 : decode mB_Mo_many 10 = .ok (.aload_n 0, 1) := by decide +kernel
theorem mD_Mo_many_11 : decode mB_Mo_many 11 = .ok (.getfield 7, 3) := by decide +kernel
theorem mD_Mo_many_14 : decode mB_Mo_many 14 = .ok (.iload_n 2, 1) := by decide +kernel
theorem mD_Mo_many_15 : decode mB_Mo_many 15 = .ok (.baload, 1) := by decide +kernel
theorem mD_Mo_many_16 : decode mB_Mo_many 16 = .ok (.ifCond .eq 9, 3) := by decide +kernel
theorem mD_Mo_many_19 : decode mB_Mo_many 19 = .ok (.iload_n 1, 1) := by decide +kernel
theorem mD_Mo_many_20 : decode mB_Mo_many 20 = .ok (.iconst 1, 1) := by decide +kernel
theorem mD_Mo_many_21 : decode mB_Mo_many 21 = .ok (.iadd, 1) := by decide +kernel
theorem mD_Mo_many_22 : decode mB_Mo_many 22 = .ok (.goto 4, 3) := by decide +kernel
theorem mD_Mo_many_25 : decode mB_Mo_many 25 = .ok (.iload_n 1, 1) := by decide +kernel
theorem mD_Mo_many_26 : decode mB_Mo_many 26 = .ok (.istore_n 1, 1) := by decide +kernel
theorem mD_Mo_many_27 : decode mB_Mo_many 27 = .ok (.iinc 2 1, 3) := by decide +kernel
theorem mD_Mo_many_30 : decode mB_Mo_many 30 = .ok (.goto (-26), 3) := by decide +kernel
theorem mD_Mo_many_33 : decode mB_Mo_many 33 = .ok (.iload_n 1, 1) := by decide +kernel
theorem mD_Mo_many_34 : decode mB_Mo_many 34 = .ok (.ireturn, 1) := by decide +kernel
theorem mD_Mo_made_0 : decode mB_Mo_made 0 = .ok (.iconst 0, 1) := by decide +kernel
theorem mD_Mo_made_1 : decode mB_Mo_made 1 = .ok (.istore_n 3, 1) := by decide +kernel
theorem mD_Mo_made_2 : decode mB_Mo_made 2 = .ok (.aload_n 0, 1) := by decide +kernel
theorem mD_Mo_made_3 : decode mB_Mo_made 3 = .ok (.getfield 7, 3) := by decide +kernel
theorem mD_Mo_made_6 : decode mB_Mo_made 6 = .ok (.iload_n 3, 1) := by decide +kernel
theorem mD_Mo_made_7 : decode mB_Mo_made 7 = .ok (.baload, 1) := by decide +kernel
theorem mD_Mo_made_8 : decode mB_Mo_made 8 = .ok (.ifCond .eq 9, 3) := by decide +kernel
theorem mD_Mo_made_11 : decode mB_Mo_made 11 = .ok (.iinc 3 1, 3) := by decide +kernel
theorem mD_Mo_made_14 : decode mB_Mo_made 14 = .ok (.goto (-12), 3) := by decide +kernel
theorem mD_Mo_made_17 : decode mB_Mo_made 17 = .ok (.aload_n 0, 1) := by decide +kernel
theorem mD_Mo_made_18 : decode mB_Mo_made 18 = .ok (.getfield 7, 3) := by decide +kernel
theorem mD_Mo_made_21 : decode mB_Mo_made 21 = .ok (.iload_n 3, 1) := by decide +kernel
theorem mD_Mo_made_22 : decode mB_Mo_made 22 = .ok (.iconst 1, 1) := by decide +kernel
theorem mD_Mo_made_23 : decode mB_Mo_made 23 = .ok (.bastore, 1) := by decide +kernel
theorem mD_Mo_made_24 : decode mB_Mo_made 24 = .ok (.aload_n 0, 1) := by decide +kernel
theorem mD_Mo_made_25 : decode mB_Mo_made 25 = .ok (.getfield 13, 3) := by decide +kernel
theorem mD_Mo_made_28 : decode mB_Mo_made 28 = .ok (.iload_n 3, 1) := by decide +kernel
theorem mD_Mo_made_29 : decode mB_Mo_made 29 = .ok (.iload_n 1, 1) := by decide +kernel
theorem mD_Mo_made_30 : decode mB_Mo_made 30 = .ok (.bastore, 1) := by decide +kernel
theorem mD_Mo_made_31 : decode mB_Mo_made 31 = .ok (.aload_n 0, 1) := by decide +kernel
theorem mD_Mo_made_32 : decode mB_Mo_made 32 = .ok (.getfield 16, 3) := by decide +kernel
theorem mD_Mo_made_35 : decode mB_Mo_made 35 = .ok (.iload_n 3, 1) := by decide +kernel
theorem mD_Mo_made_36 : decode mB_Mo_made 36 = .ok (.iload_n 2, 1) := by decide +kernel
theorem mD_Mo_made_37 : decode mB_Mo_made 37 = .ok (.iastore, 1) := by decide +kernel
theorem mD_Mo_made_38 : decode mB_Mo_made 38 = .ok (.iload_n 3, 1) := by decide +kernel
theorem mD_Mo_made_39 : decode mB_Mo_made 39 = .ok (.ireturn, 1) := by decide +kernel
theorem mD_Mo_key_0 : decode mB_Mo_key 0 = .ok (.aload_n 0, 1) := by decide +kernel
theorem mD_Mo_key_1 : decode mB_Mo_key 1 = .ok (.iconst 0, 1) := by decide +kernel
theorem mD_Mo_key_2 : decode mB_Mo_key 2 = .ok (.putfield 32, 3) := by decide +kernel
theorem mD_Mo_key_5 : decode mB_Mo_key 5 = .ok (.aload_n 0, 1) := by decide +kernel
theorem mD_Mo_key_6 : decode mB_Mo_key 6 = .ok (.invokevirtual 36, 3) := by decide +kernel
theorem mD_Mo_key_9 : decode mB_Mo_key 9 = .ok (.istore_n 2, 1) := by decide +kernel
theorem mD_Mo_key_10 : decode mB_Mo_key 10 = .ok (.iconst 0, 1) := by decide +kernel
theorem mD_Mo_key_11 : decode mB_Mo_key 11 = .ok (.istore_n 3, 1) := by decide +kernel
theorem mD_Mo_key_12 : decode mB_Mo_key 12 = .ok (.iload_n 3, 1) := by decide +kernel
theorem mD_Mo_key_13 : decode mB_Mo_key 13 = .ok (.bipush 120, 2) := by decide +kernel
theorem mD_Mo_key_15 : decode mB_Mo_key 15 = .ok (.if_icmp .ge 16, 3) := by decide +kernel
theorem mD_Mo_key_18 : decode mB_Mo_key 18 = .ok (.aload_n 0, 1) := by decide +kernel
theorem mD_Mo_key_19 : decode mB_Mo_key 19 = .ok (.getfield 7, 3) := by decide +kernel
theorem mD_Mo_key_22 : decode mB_Mo_key 22 = .ok (.iload_n 3, 1) := by decide +kernel
theorem mD_Mo_key_23 : decode mB_Mo_key 23 = .ok (.iconst 0, 1) := by decide +kernel
theorem mD_Mo_key_24 : decode mB_Mo_key 24 = .ok (.bastore, 1) := by decide +kernel
theorem mD_Mo_key_25 : decode mB_Mo_key 25 = .ok (.iinc 3 1, 3) := by decide +kernel
theorem mD_Mo_key_28 : decode mB_Mo_key 28 = .ok (.goto (-16), 3) := by decide +kernel
theorem mD_Mo_key_31 : decode mB_Mo_key 31 = .ok (.iload_n 2, 1) := by decide +kernel
theorem mD_Mo_key_32 : decode mB_Mo_key 32 = .ok (.ireturn, 1) := by decide +kernel
theorem mD_Mo_bit_0 : decode mB_Mo_bit 0 = .ok (.aload_n 0, 1) := by decide +kernel
theorem mD_Mo_bit_1 : decode mB_Mo_bit 1 = .ok (.aload_n 0, 1) := by decide +kernel
theorem mD_Mo_bit_2 : decode mB_Mo_bit 2 = .ok (.invokevirtual 36, 3) := by decide +kernel
theorem mD_Mo_bit_5 : decode mB_Mo_bit 5 = .ok (.bipush 120, 2) := by decide +kernel
theorem mD_Mo_bit_7 : decode mB_Mo_bit 7 = .ok (.if_icmp .ge 7, 3) := by decide +kernel
theorem mD_Mo_bit_10 : decode mB_Mo_bit 10 = .ok (.iconst 1, 1) := by decide +kernel
theorem mD_Mo_bit_11 : decode mB_Mo_bit 11 = .ok (.goto 4, 3) := by decide +kernel
theorem mD_Mo_bit_14 : decode mB_Mo_bit 14 = .ok (.iconst 0, 1) := by decide +kernel
theorem mD_Mo_bit_15 : decode mB_Mo_bit 15 = .ok (.iconst 1, 1) := by decide +kernel
theorem mD_Mo_bit_16 : decode mB_Mo_bit 16 = .ok (.iconst 1, 1) := by decide +kernel
theorem mD_Mo_bit_17 : decode mB_Mo_bit 17 = .ok (.invokevirtual 40, 3) := by decide +kernel
theorem mD_Mo_bit_20 : decode mB_Mo_bit 20 = .ok (.ifCond .eq 13, 3) := by decide +kernel
theorem mD_Mo_bit_23 : decode mB_Mo_bit 23 = .ok (.aload_n 0, 1) := by decide +kernel
theorem mD_Mo_bit_24 : decode mB_Mo_bit 24 = .ok (.iload_n 1, 1) := by decide +kernel
theorem mD_Mo_bit_25 : decode mB_Mo_bit 25 = .ok (.bipush 16, 2) := by decide +kernel
theorem mD_Mo_bit_27 : decode mB_Mo_bit 27 = .ok (.invokevirtual 44, 3) := by decide +kernel
theorem mD_Mo_bit_30 : decode mB_Mo_bit 30 = .ok (.goto 4, 3) := by decide +kernel
theorem mD_Mo_bit_33 : decode mB_Mo_bit 33 = .ok (.iconst 0, 1) := by decide +kernel
theorem mD_Mo_bit_34 : decode mB_Mo_bit 34 = .ok (.ireturn, 1) := by decide +kernel
theorem mD_Mo_drop_0 : decode mB_Mo_drop 0 = .ok (.aload_n 0, 1) := by decide +kernel
theorem mD_Mo_drop_1 : decode mB_Mo_drop 1 = .ok (.aload_n 0, 1) := by decide +kernel
theorem mD_Mo_drop_2 : decode mB_Mo_drop 2 = .ok (.iload_n 1, 1) := by decide +kernel
theorem mD_Mo_drop_3 : decode mB_Mo_drop 3 = .ok (.invokevirtual 48, 3) := by decide +kernel
theorem mD_Mo_drop_6 : decode mB_Mo_drop 6 = .ok (.iconst 1, 1) := by decide +kernel
theorem mD_Mo_drop_7 : decode mB_Mo_drop 7 = .ok (.iconst 1, 1) := by decide +kernel
theorem mD_Mo_drop_8 : decode mB_Mo_drop 8 = .ok (.invokevirtual 40, 3) := by decide +kernel
theorem mD_Mo_drop_11 : decode mB_Mo_drop 11 = .ok (.ifCond .ne 5, 3) := by decide +kernel
theorem mD_Mo_drop_14 : decode mB_Mo_drop 14 = .ok (.iconst 0, 1) := by decide +kernel
theorem mD_Mo_drop_15 : decode mB_Mo_drop 15 = .ok (.ireturn, 1) := by decide +kernel
theorem mD_Mo_drop_16 : decode mB_Mo_drop 16 = .ok (.aload_n 0, 1) := by decide +kernel
theorem mD_Mo_drop_17 : decode mB_Mo_drop 17 = .ok (.getfield 7, 3) := by decide +kernel
theorem mD_Mo_drop_20 : decode mB_Mo_drop 20 = .ok (.iload_n 1, 1) := by decide +kernel
theorem mD_Mo_drop_21 : decode mB_Mo_drop 21 = .ok (.iconst 0, 1) := by decide +kernel
theorem mD_Mo_drop_22 : decode mB_Mo_drop 22 = .ok (.bastore, 1) := by decide +kernel
theorem mD_Mo_drop_23 : decode mB_Mo_drop 23 = .ok (.aload_n 0, 1) := by decide +kernel
theorem mD_Mo_drop_24 : decode mB_Mo_drop 24 = .ok (.invokevirtual 36, 3) := by decide +kernel
theorem mD_Mo_drop_27 : decode mB_Mo_drop 27 = .ok (.ireturn, 1) := by decide +kernel
theorem mD_Mo_not_0 : decode mB_Mo_not 0 = .ok (.aload_n 0, 1) := by decide +kernel
theorem mD_Mo_not_1 : decode mB_Mo_not 1 = .ok (.aload_n 0, 1) := by decide +kernel
theorem mD_Mo_not_2 : decode mB_Mo_not 2 = .ok (.iload_n 1, 1) := by decide +kernel
theorem mD_Mo_not_3 : decode mB_Mo_not 3 = .ok (.invokevirtual 48, 3) := by decide +kernel
theorem mD_Mo_not_6 : decode mB_Mo_not 6 = .ok (.aload_n 0, 1) := by decide +kernel
theorem mD_Mo_not_7 : decode mB_Mo_not 7 = .ok (.invokevirtual 36, 3) := by decide +kernel
theorem mD_Mo_not_10 : decode mB_Mo_not 10 = .ok (.bipush 120, 2) := by decide +kernel
theorem mD_Mo_not_12 : decode mB_Mo_not 12 = .ok (.if_icmp .ge 7, 3) := by decide +kernel
theorem mD_Mo_not_15 : decode mB_Mo_not 15 = .ok (.iconst 1, 1) := by decide +kernel
theorem mD_Mo_not_16 : decode mB_Mo_not 16 = .ok (.goto 4, 3) := by decide +kernel
theorem mD_Mo_not_19 : decode mB_Mo_not 19 = .ok (.iconst 0, 1) := by decide +kernel
theorem mD_Mo_not_20 : decode mB_Mo_not 20 = .ok (.iconst 1, 1) := by decide +kernel
theorem mD_Mo_not_21 : decode mB_Mo_not 21 = .ok (.invokevirtual 40, 3) := by decide +kernel
theorem mD_Mo_not_24 : decode mB_Mo_not 24 = .ok (.ifCond .eq 30, 3) := by decide +kernel
theorem mD_Mo_not_27 : decode mB_Mo_not 27 = .ok (.aload_n 0, 1) := by decide +kernel
theorem mD_Mo_not_28 : decode mB_Mo_not 28 = .ok (.aload_n 0, 1) := by decide +kernel
theorem mD_Mo_not_29 : decode mB_Mo_not 29 = .ok (.getfield 13, 3) := by decide +kernel
theorem mD_Mo_not_32 : decode mB_Mo_not 32 = .ok (.iload_n 1, 1) := by decide +kernel
theorem mD_Mo_not_33 : decode mB_Mo_not 33 = .ok (.baload, 1) := by decide +kernel
theorem mD_Mo_not_34 : decode mB_Mo_not 34 = .ok (.ifCond .ne 7, 3) := by decide +kernel
theorem mD_Mo_not_37 : decode mB_Mo_not 37 = .ok (.iconst 1, 1) := by decide +kernel
theorem mD_Mo_not_38 : decode mB_Mo_not 38 = .ok (.goto 4, 3) := by decide +kernel
theorem mD_Mo_not_41 : decode mB_Mo_not 41 = .ok (.iconst 0, 1) := by decide +kernel
theorem mD_Mo_not_42 : decode mB_Mo_not 42 = .ok (.aload_n 0, 1) := by decide +kernel
theorem mD_Mo_not_43 : decode mB_Mo_not 43 = .ok (.getfield 16, 3) := by decide +kernel
theorem mD_Mo_not_46 : decode mB_Mo_not 46 = .ok (.iload_n 1, 1) := by decide +kernel
theorem mD_Mo_not_47 : decode mB_Mo_not 47 = .ok (.iaload, 1) := by decide +kernel
theorem mD_Mo_not_48 : decode mB_Mo_not 48 = .ok (.invokevirtual 44, 3) := by decide +kernel
theorem mD_Mo_not_51 : decode mB_Mo_not 51 = .ok (.goto 4, 3) := by decide +kernel
theorem mD_Mo_not_54 : decode mB_Mo_not 54 = .ok (.iconst 0, 1) := by decide +kernel
theorem mD_Mo_not_55 : decode mB_Mo_not 55 = .ok (.ireturn, 1) := by decide +kernel
theorem mD_Mo_bounded_0 : decode mB_Mo_bounded 0 = .ok (.aload_n 0, 1) := by decide +kernel
theorem mD_Mo_bounded_1 : decode mB_Mo_bounded 1 = .ok (.getfield 16, 3) := by decide +kernel
theorem mD_Mo_bounded_4 : decode mB_Mo_bounded 4 = .ok (.iload_n 1, 1) := by decide +kernel
theorem mD_Mo_bounded_5 : decode mB_Mo_bounded 5 = .ok (.lload_n 2, 1) := by decide +kernel
theorem mD_Mo_bounded_6 : decode mB_Mo_bounded 6 = .ok (.l2i, 1) := by decide +kernel
theorem mD_Mo_bounded_7 : decode mB_Mo_bounded 7 = .ok (.iastore, 1) := by decide +kernel
theorem mD_Mo_bounded_8 : decode mB_Mo_bounded 8 = .ok (.aload_n 0, 1) := by decide +kernel
theorem mD_Mo_bounded_9 : decode mB_Mo_bounded 9 = .ok (.getfield 16, 3) := by decide +kernel
theorem mD_Mo_bounded_12 : decode mB_Mo_bounded 12 = .ok (.iload_n 1, 1) := by decide +kernel
theorem mD_Mo_bounded_13 : decode mB_Mo_bounded 13 = .ok (.iaload, 1) := by decide +kernel
theorem mD_Mo_bounded_14 : decode mB_Mo_bounded 14 = .ok (.ireturn, 1) := by decide +kernel
theorem mD_Mo_blur_0 : decode mB_Mo_blur 0 = .ok (.aload_n 0, 1) := by decide +kernel
theorem mD_Mo_blur_1 : decode mB_Mo_blur 1 = .ok (.iload_n 1, 1) := by decide +kernel
theorem mD_Mo_blur_2 : decode mB_Mo_blur 2 = .ok (.invokevirtual 48, 3) := by decide +kernel
theorem mD_Mo_blur_5 : decode mB_Mo_blur 5 = .ok (.istore_n 3, 1) := by decide +kernel
theorem mD_Mo_blur_6 : decode mB_Mo_blur 6 = .ok (.iload_n 3, 1) := by decide +kernel
theorem mD_Mo_blur_7 : decode mB_Mo_blur 7 = .ok (.ifCond .eq 20, 3) := by decide +kernel
theorem mD_Mo_blur_10 : decode mB_Mo_blur 10 = .ok (.aload_n 0, 1) := by decide +kernel
theorem mD_Mo_blur_11 : decode mB_Mo_blur 11 = .ok (.getfield 16, 3) := by decide +kernel
theorem mD_Mo_blur_14 : decode mB_Mo_blur 14 = .ok (.iload_n 1, 1) := by decide +kernel
theorem mD_Mo_blur_15 : decode mB_Mo_blur 15 = .ok (.iaload, 1) := by decide +kernel
theorem mD_Mo_blur_16 : decode mB_Mo_blur 16 = .ok (.i2l, 1) := by decide +kernel
theorem mD_Mo_blur_17 : decode mB_Mo_blur 17 = .ok (.ldc2_w 52, 3) := by decide +kernel
theorem mD_Mo_blur_20 : decode mB_Mo_blur 20 = .ok (.iload_n 2, 1) := by decide +kernel
theorem mD_Mo_blur_21 : decode mB_Mo_blur 21 = .ok (.i2l, 1) := by decide +kernel
theorem mD_Mo_blur_22 : decode mB_Mo_blur 22 = .ok (.lmul, 1) := by decide +kernel
theorem mD_Mo_blur_23 : decode mB_Mo_blur 23 = .ok (.ladd, 1) := by decide +kernel
theorem mD_Mo_blur_24 : decode mB_Mo_blur 24 = .ok (.goto 4, 3) := by decide +kernel
theorem mD_Mo_blur_27 : decode mB_Mo_blur 27 = .ok (.lconst 0, 1) := by decide +kernel
theorem mD_Mo_blur_28 : decode mB_Mo_blur 28 = .ok (.lstore 4, 2) := by decide +kernel
theorem mD_Mo_blur_30 : decode mB_Mo_blur 30 = .ok (.aload_n 0, 1) := by decide +kernel
theorem mD_Mo_blur_31 : decode mB_Mo_blur 31 = .ok (.iload_n 3, 1) := by decide +kernel
theorem mD_Mo_blur_32 : decode mB_Mo_blur 32 = .ok (.iload_n 2, 1) := by decide +kernel
theorem mD_Mo_blur_33 : decode mB_Mo_blur 33 = .ok (.ifCond .lt 14, 3) := by decide +kernel
theorem mD_Mo_blur_36 : decode mB_Mo_blur 36 = .ok (.iload_n 2, 1) := by decide +kernel
theorem mD_Mo_blur_37 : decode mB_Mo_blur 37 = .ok (.sipush 1000, 3) := by decide +kernel
theorem mD_Mo_blur_40 : decode mB_Mo_blur 40 = .ok (.if_icmp .gt 7, 3) := by decide +kernel
theorem mD_Mo_blur_43 : decode mB_Mo_blur 43 = .ok (.iconst 1, 1) := by decide +kernel
theorem mD_Mo_blur_44 : decode mB_Mo_blur 44 = .ok (.goto 4, 3) := by decide +kernel
theorem mD_Mo_blur_47 : decode mB_Mo_blur 47 = .ok (.iconst 0, 1) := by decide +kernel
theorem mD_Mo_blur_48 : decode mB_Mo_blur 48 = .ok (.lload 4, 2) := by decide +kernel
theorem mD_Mo_blur_50 : decode mB_Mo_blur 50 = .ok (.ldc2_w 54, 3) := by decide +kernel
theorem mD_Mo_blur_53 : decode mB_Mo_blur 53 = .ok (.lcmp, 1) := by decide +kernel
theorem mD_Mo_blur_54 : decode mB_Mo_blur 54 = .ok (.ifCond .ge 7, 3) := by decide +kernel
theorem mD_Mo_blur_57 : decode mB_Mo_blur 57 = .ok (.iconst 1, 1) := by decide +kernel
theorem mD_Mo_blur_58 : decode mB_Mo_blur 58 = .ok (.goto 4, 3) := by decide +kernel
theorem mD_Mo_blur_61 : decode mB_Mo_blur 61 = .ok (.iconst 0, 1) := by decide +kernel
theorem mD_Mo_blur_62 : decode mB_Mo_blur 62 = .ok (.invokevirtual 40, 3) := by decide +kernel
theorem mD_Mo_blur_65 : decode mB_Mo_blur 65 = .ok (.ifCond .eq 13, 3) := by decide +kernel
theorem mD_Mo_blur_68 : decode mB_Mo_blur 68 = .ok (.aload_n 0, 1) := by decide +kernel
theorem mD_Mo_blur_69 : decode mB_Mo_blur 69 = .ok (.iload_n 1, 1) := by decide +kernel
theorem mD_Mo_blur_70 : decode mB_Mo_blur 70 = .ok (.lload 4, 2) := by decide +kernel
theorem mD_Mo_blur_72 : decode mB_Mo_blur 72 = .ok (.invokevirtual 56, 3) := by decide +kernel
theorem mD_Mo_blur_75 : decode mB_Mo_blur 75 = .ok (.goto 4, 3) := by decide +kernel
theorem mD_Mo_blur_78 : decode mB_Mo_blur 78 = .ok (.iconst 0, 1) := by decide +kernel
theorem mD_Mo_blur_79 : decode mB_Mo_blur 79 = .ok (.ireturn, 1) := by decide +kernel
