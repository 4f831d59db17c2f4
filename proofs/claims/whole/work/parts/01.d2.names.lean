theorem dX0_init_0 : decode cX0_init 0 = .ok (.aload_n 0, 1) := by decide +kernel
theorem dX0_init_1 : decode cX0_init 1 = .ok (.invokespecial 5, 3) := by decide +kernel
theorem dX0_init_4 : decode cX0_init 4 = .ok (.aload_n 0, 1) := by decide +kernel
theorem dX0_init_5 : decode cX0_init 5 = .ok (.sipush 2048, 3) := by decide +kernel
theorem dX0_init_8 : decode cX0_init 8 = .ok (.newarray .int, 2) := by decide +kernel
theorem dX0_init_10 : decode cX0_init 10 = .ok (.putfield 11, 3) := by decide +kernel
theorem dX0_init_13 : decode cX0_init 13 = .ok (.aload_n 0, 1) := by decide +kernel
theorem dX0_init_14 : decode cX0_init 14 = .ok (.sipush 256, 3) := by decide +kernel
theorem dX0_init_17 : decode cX0_init 17 = .ok (.newarray .int, 2) := by decide +kernel
theorem dX0_init_19 : decode cX0_init 19 = .ok (.putfield 15, 3) := by decide +kernel
theorem dX0_init_22 : decode cX0_init 22 = .ok (.aload_n 0, 1) := by decide +kernel
theorem dX0_init_23 : decode cX0_init 23 = .ok (.sipush 256, 3) := by decide +kernel
theorem dX0_init_26 : decode cX0_init 26 = .ok (.newarray .int, 2) := by decide +kernel
theorem dX0_init_28 : decode cX0_init 28 = .ok (.putfield 18, 3) := by decide +kernel
theorem dX0_init_31 : decode cX0_init 31 = .ok (.aload_n 0, 1) := by decide +kernel
theorem dX0_init_32 : decode cX0_init 32 = .ok (.sipush 256, 3) := by decide +kernel
theorem dX0_init_35 : decode cX0_init 35 = .ok (.newarray .int, 2) := by decide +kernel
theorem dX0_init_37 : decode cX0_init 37 = .ok (.putfield 21, 3) := by decide +kernel
theorem dX0_init_40 : decode cX0_init 40 = .ok (.aload_n 0, 1) := by decide +kernel
theorem dX0_init_41 : decode cX0_init 41 = .ok (.sipush 256, 3) := by decide +kernel
theorem dX0_init_44 : decode cX0_init 44 = .ok (.newarray .int, 2) := by decide +kernel
theorem dX0_init_46 : decode cX0_init 46 = .ok (.putfield 24, 3) := by decide +kernel
theorem dX0_init_49 : decode cX0_init 49 = .ok (.aload_n 0, 1) := by decide +kernel
theorem dX0_init_50 : decode cX0_init 50 = .ok (.sipush 512, 3) := by decide +kernel
theorem dX0_init_53 : decode cX0_init 53 = .ok (.newarray .int, 2) := by decide +kernel
theorem dX0_init_55 : decode cX0_init 55 = .ok (.putfield 27, 3) := by decide +kernel
theorem dX0_init_58 : decode cX0_init 58 = .ok (.aload_n 0, 1) := by decide +kernel
theorem dX0_init_59 : decode cX0_init 59 = .ok (.sipush 512, 3) := by decide +kernel
theorem dX0_init_62 : decode cX0_init 62 = .ok (.newarray .int, 2) := by decide +kernel
theorem dX0_init_64 : decode cX0_init 64 = .ok (.putfield 30, 3) := by decide +kernel
theorem dX0_init_67 : decode cX0_init 67 = .ok (.aload_n 0, 1) := by decide +kernel
theorem dX0_init_68 : decode cX0_init 68 = .ok (.bipush 100, 2) := by decide +kernel
theorem dX0_init_70 : decode cX0_init 70 = .ok (.putfield 33, 3) := by decide +kernel
theorem dX0_init_73 : decode cX0_init 73 = .ok (.return_, 1) := by decide +kernel
theorem dX0_has_0 : decode cX0_has 0 = .ok (.aload_n 0, 1) := by decide +kernel
theorem dX0_has_1 : decode cX0_has 1 = .ok (.getfield 24, 3) := by decide +kernel
theorem dX0_has_4 : decode cX0_has 4 = .ok (.iload_n 1, 1) := by decide +kernel
theorem dX0_has_5 : decode cX0_has 5 = .ok (.iaload, 1) := by decide +kernel
theorem dX0_has_6 : decode cX0_has 6 = .ok (.ifCond .eq 7, 3) := by decide +kernel
theorem dX0_has_9 : decode cX0_has 9 = .ok (.iconst 1, 1) := by decide +kernel
theorem dX0_has_10 : decode cX0_has 10 = .ok (.goto 4, 3) := by decide +kernel
theorem dX0_has_13 : decode cX0_has 13 = .ok (.iconst 0, 1) := by decide +kernel
theorem dX0_has_14 : decode cX0_has 14 = .ok (.ireturn, 1) := by decide +kernel
theorem dX0_wordAt_0 : decode cX0_wordAt 0 = .ok (.aload_n 0, 1) := by decide +kernel
theorem dX0_wordAt_1 : decode cX0_wordAt 1 = .ok (.getfield 11, 3) := by decide +kernel
theorem dX0_wordAt_4 : decode cX0_wordAt 4 = .ok (.iload_n 1, 1) := by decide +kernel
theorem dX0_wordAt_5 : decode cX0_wordAt 5 = .ok (.bipush 8, 2) := by decide +kernel
theorem dX0_wordAt_7 : decode cX0_wordAt 7 = .ok (.imul, 1) := by decide +kernel
theorem dX0_wordAt_8 : decode cX0_wordAt 8 = .ok (.iload_n 2, 1) := by decide +kernel
theorem dX0_wordAt_9 : decode cX0_wordAt 9 = .ok (.iadd, 1) := by decide +kernel
theorem dX0_wordAt_10 : decode cX0_wordAt 10 = .ok (.iaload, 1) := by decide +kernel
theorem dX0_wordAt_11 : decode cX0_wordAt 11 = .ok (.ireturn, 1) := by decide +kernel
set_option maxRecDepth 20000 in
theorem ggX0_translate_X0_decodeBlock : GoodIn wsX0_translate wsX0_decodeBlock := goodIn_r _ [14, 15, 2, 16, 17, 18, 19, 20, 21, 22, 23, 24, 25, 26, 27, 28, 29, 30, 31, 32, 33, 34, 35, 94, 95, 96, 97, 98, 99, 100, 101, 102, 103, 104, 105, 106] (by decide +kernel) (by decide +kernel)
set_option maxRecDepth 20000 in
theorem gX0_translate_X0_decodeBlock : GoodIn wsX0_translate (wsV RX0 37 RX0 yX0_decodeBlock wsX0_decodeBlock) := goodIn_app (goodIn_of _ (by decide +kernel)) ggX0_translate_X0_decodeBlock
set_option maxRecDepth 20000 in
theorem ggX0_translate_X0_markDead : GoodIn wsX0_translate wsX0_markDead := goodIn_r _ [39, 2, 15, 40, 41, 42, 13, 43, 24, 25, 19, 26, 44, 45, 46, 47, 48, 49, 50, 51, 52, 53, 94, 95, 96, 97, 98, 99, 100, 101, 102, 103, 104, 105, 106] (by decide +kernel) (by decide +kernel)
set_option maxRecDepth 20000 in
theorem gX0_translate_X0_markDead : GoodIn wsX0_translate (wsV RX0 41 RX0 yX0_markDead wsX0_markDead) := goodIn_app (goodIn_of _ (by decide +kernel)) ggX0_translate_X0_markDead
set_option maxRecDepth 20000 in
theorem ggX0_translate_X0_sizeOf : GoodIn wsX0_translate wsX0_sizeOf := goodIn_r _ [57, 2, 58, 59, 60, 13, 61, 40, 41, 42, 43, 15, 24, 25, 19, 26, 62, 34, 35, 63, 64, 65, 66, 67, 45, 46, 68, 69, 70, 71, 72, 73, 50, 74, 75, 76, 94, 95, 96, 97, 98, 99, 100, 101, 102, 103, 104, 105, 106] (by decide +kernel) (by decide +kernel)
set_option maxRecDepth 20000 in
theorem gX0_translate_X0_sizeOf : GoodIn wsX0_translate (wsV RX0 45 RX0 yX0_sizeOf wsX0_sizeOf) := goodIn_app (goodIn_of _ (by decide +kernel)) ggX0_translate_X0_sizeOf
set_option maxRecDepth 20000 in
theorem ggX0_translate_X0_empty : GoodIn wsX0_translate wsX0_empty := goodIn_r _ [80, 8, 9, 4, 81, 82, 83, 84, 94, 95, 96, 97, 98, 99, 100, 101, 102, 103, 104, 105, 106] (by decide +kernel) (by decide +kernel)
set_option maxRecDepth 20000 in
theorem gX0_translate_X0_empty : GoodIn wsX0_translate (wsV RX0 51 RX0 yX0_empty wsX0_empty) := goodIn_app (goodIn_of _ (by decide +kernel)) ggX0_translate_X0_empty
set_option maxRecDepth 20000 in
theorem ggX0_translate_X0_layExits : GoodIn wsX0_translate wsX0_layExits := goodIn_r _ [88, 2, 89, 16, 90, 40, 41, 42, 13, 43, 15, 24, 25, 19, 26, 62, 34, 35, 27, 28, 29, 91, 92, 93, 94, 95, 96, 97, 98, 99, 100, 101, 102, 103, 104, 105, 106] (by decide +kernel) (by decide +kernel)
set_option maxRecDepth 20000 in
theorem gX0_translate_X0_layExits : GoodIn wsX0_translate (wsV RX0 66 RX0 yX0_layExits wsX0_layExits) := goodIn_app (goodIn_of _ (by decide +kernel)) ggX0_translate_X0_layExits
theorem dX0_translate_0 : decode cX0_translate 0 = .ok (.aload_n 0, 1) := by decide +kernel
theorem dX0_translate_1 : decode cX0_translate 1 = .ok (.aload_n 1, 1) := by decide +kernel
theorem dX0_translate_2 : decode cX0_translate 2 = .ok (.iload_n 2, 1) := by decide +kernel
theorem dX0_translate_3 : decode cX0_translate 3 = .ok (.invokevirtual 37, 3) := by decide +kernel
theorem dX0_translate_6 : decode cX0_translate 6 = .ok (.aload_n 0, 1) := by decide +kernel
theorem dX0_translate_7 : decode cX0_translate 7 = .ok (.iload_n 2, 1) := by decide +kernel
theorem dX0_translate_8 : decode cX0_translate 8 = .ok (.invokevirtual 41, 3) := by decide +kernel
theorem dX0_translate_11 : decode cX0_translate 11 = .ok (.istore_n 3, 1) := by decide +kernel
theorem dX0_translate_12 : decode cX0_translate 12 = .ok (.aload_n 0, 1) := by decide +kernel
theorem dX0_translate_13 : decode cX0_translate 13 = .ok (.getfield 21, 3) := by decide +kernel
theorem dX0_translate_16 : decode cX0_translate 16 = .ok (.iload_n 2, 1) := by decide +kernel
theorem dX0_translate_17 : decode cX0_translate 17 = .ok (.aload_n 0, 1) := by decide +kernel
theorem dX0_translate_18 : decode cX0_translate 18 = .ok (.iload_n 2, 1) := by decide +kernel
theorem dX0_translate_19 : decode cX0_translate 19 = .ok (.invokevirtual 45, 3) := by decide +kernel
theorem dX0_translate_22 : decode cX0_translate 22 = .ok (.iastore, 1) := by decide +kernel
theorem dX0_translate_23 : decode cX0_translate 23 = .ok (.aload_n 0, 1) := by decide +kernel
theorem dX0_translate_24 : decode cX0_translate 24 = .ok (.getfield 15, 3) := by decide +kernel
theorem dX0_translate_27 : decode cX0_translate 27 = .ok (.iload_n 2, 1) := by decide +kernel
theorem dX0_translate_28 : decode cX0_translate 28 = .ok (.iaload, 1) := by decide +kernel
theorem dX0_translate_29 : decode cX0_translate 29 = .ok (.ifCond .eq 16, 3) := by decide +kernel
theorem dX0_translate_32 : decode cX0_translate 32 = .ok (.aload_n 0, 1) := by decide +kernel
theorem dX0_translate_33 : decode cX0_translate 33 = .ok (.getfield 21, 3) := by decide +kernel
theorem dX0_translate_36 : decode cX0_translate 36 = .ok (.iload_n 2, 1) := by decide +kernel
theorem dX0_translate_37 : decode cX0_translate 37 = .ok (.iaload, 1) := by decide +kernel
theorem dX0_translate_38 : decode cX0_translate 38 = .ok (.aload_n 0, 1) := by decide +kernel
theorem dX0_translate_39 : decode cX0_translate 39 = .ok (.getfield 33, 3) := by decide +kernel
theorem dX0_translate_42 : decode cX0_translate 42 = .ok (.if_icmp .le 5, 3) := by decide +kernel
theorem dX0_translate_45 : decode cX0_translate 45 = .ok (.iconst 0, 1) := by decide +kernel
theorem dX0_translate_46 : decode cX0_translate 46 = .ok (.ireturn, 1) := by decide +kernel
theorem dX0_translate_47 : decode cX0_translate 47 = .ok (.aload_n 0, 1) := by decide +kernel
theorem dX0_translate_48 : decode cX0_translate 48 = .ok (.getfield 48, 3) := by decide +kernel
theorem dX0_translate_51 : decode cX0_translate 51 = .ok (.aload_n 0, 1) := by decide +kernel
theorem dX0_translate_52 : decode cX0_translate 52 = .ok (.getfield 21, 3) := by decide +kernel
theorem dX0_translate_55 : decode cX0_translate 55 = .ok (.iload_n 2, 1) := by decide +kernel
theorem dX0_translate_56 : decode cX0_translate 56 = .ok (.iaload, 1) := by decide +kernel
theorem dX0_translate_57 : decode cX0_translate 57 = .ok (.iadd, 1) := by decide +kernel
theorem dX0_translate_58 : decode cX0_translate 58 = .ok (.aload_n 0, 1) := by decide +kernel
theorem dX0_translate_59 : decode cX0_translate 59 = .ok (.getfield 33, 3) := by decide +kernel
theorem dX0_translate_62 : decode cX0_translate 62 = .ok (.if_icmp .le 17, 3) := by decide +kernel
theorem dX0_translate_65 : decode cX0_translate 65 = .ok (.aload_n 0, 1) := by decide +kernel
theorem dX0_translate_66 : decode cX0_translate 66 = .ok (.invokevirtual 51, 3) := by decide +kernel
theorem dX0_translate_69 : decode cX0_translate 69 = .ok (.aload_n 0, 1) := by decide +kernel
theorem dX0_translate_70 : decode cX0_translate 70 = .ok (.dup, 1) := by decide +kernel
theorem dX0_translate_71 : decode cX0_translate 71 = .ok (.getfield 54, 3) := by decide +kernel
theorem dX0_translate_74 : decode cX0_translate 74 = .ok (.iconst 1, 1) := by decide +kernel
theorem dX0_translate_75 : decode cX0_translate 75 = .ok (.iadd, 1) := by decide +kernel
theorem dX0_translate_76 : decode cX0_translate 76 = .ok (.putfield 54, 3) := by decide +kernel
theorem dX0_translate_79 : decode cX0_translate 79 = .ok (.aload_n 0, 1) := by decide +kernel
theorem dX0_translate_80 : decode cX0_translate 80 = .ok (.dup, 1) := by decide +kernel
theorem dX0_translate_81 : decode cX0_translate 81 = .ok (.getfield 57, 3) := by decide +kernel
theorem dX0_translate_84 : decode cX0_translate 84 = .ok (.iconst 1, 1) := by decide +kernel
theorem dX0_translate_85 : decode cX0_translate 85 = .ok (.iadd, 1) := by decide +kernel
theorem dX0_translate_86 : decode cX0_translate 86 = .ok (.putfield 57, 3) := by decide +kernel
theorem dX0_translate_89 : decode cX0_translate 89 = .ok (.aload_n 0, 1) := by decide +kernel
theorem dX0_translate_90 : decode cX0_translate 90 = .ok (.dup, 1) := by decide +kernel
theorem dX0_translate_91 : decode cX0_translate 91 = .ok (.getfield 60, 3) := by decide +kernel
theorem dX0_translate_94 : decode cX0_translate 94 = .ok (.iload_n 3, 1) := by decide +kernel
theorem dX0_translate_95 : decode cX0_translate 95 = .ok (.iadd, 1) := by decide +kernel
theorem dX0_translate_96 : decode cX0_translate 96 = .ok (.putfield 60, 3) := by decide +kernel
theorem dX0_translate_99 : decode cX0_translate 99 = .ok (.aload_n 0, 1) := by decide +kernel
theorem dX0_translate_100 : decode cX0_translate 100 = .ok (.getfield 24, 3) := by decide +kernel
theorem dX0_translate_103 : decode cX0_translate 103 = .ok (.iload_n 2, 1) := by decide +kernel
theorem dX0_translate_104 : decode cX0_translate 104 = .ok (.aload_n 0, 1) := by decide +kernel
theorem dX0_translate_105 : decode cX0_translate 105 = .ok (.getfield 57, 3) := by decide +kernel
theorem dX0_translate_108 : decode cX0_translate 108 = .ok (.iastore, 1) := by decide +kernel
theorem dX0_translate_109 : decode cX0_translate 109 = .ok (.aload_n 0, 1) := by decide +kernel
theorem dX0_translate_110 : decode cX0_translate 110 = .ok (.dup, 1) := by decide +kernel
theorem dX0_translate_111 : decode cX0_translate 111 = .ok (.getfield 63, 3) := by decide +kernel
theorem dX0_translate_114 : decode cX0_translate 114 = .ok (.iconst 1, 1) := by decide +kernel
theorem dX0_translate_115 : decode cX0_translate 115 = .ok (.iadd, 1) := by decide +kernel
theorem dX0_translate_116 : decode cX0_translate 116 = .ok (.putfield 63, 3) := by decide +kernel
theorem dX0_translate_119 : decode cX0_translate 119 = .ok (.aload_n 0, 1) := by decide +kernel
theorem dX0_translate_120 : decode cX0_translate 120 = .ok (.dup, 1) := by decide +kernel
theorem dX0_translate_121 : decode cX0_translate 121 = .ok (.getfield 48, 3) := by decide +kernel
theorem dX0_translate_124 : decode cX0_translate 124 = .ok (.aload_n 0, 1) := by decide +kernel
theorem dX0_translate_125 : decode cX0_translate 125 = .ok (.getfield 21, 3) := by decide +kernel
theorem dX0_translate_128 : decode cX0_translate 128 = .ok (.iload_n 2, 1) := by decide +kernel
theorem dX0_translate_129 : decode cX0_translate 129 = .ok (.iaload, 1) := by decide +kernel
theorem dX0_translate_130 : decode cX0_translate 130 = .ok (.iadd, 1) := by decide +kernel
theorem dX0_translate_131 : decode cX0_translate 131 = .ok (.putfield 48, 3) := by decide +kernel
theorem dX0_translate_134 : decode cX0_translate 134 = .ok (.aload_n 0, 1) := by decide +kernel
theorem dX0_translate_135 : decode cX0_translate 135 = .ok (.iload_n 2, 1) := by decide +kernel
theorem dX0_translate_136 : decode cX0_translate 136 = .ok (.invokevirtual 66, 3) := by decide +kernel
theorem dX0_translate_139 : decode cX0_translate 139 = .ok (.iconst 1, 1) := by decide +kernel
theorem dX0_translate_140 : decode cX0_translate 140 = .ok (.ireturn, 1) := by decide +kernel
set_option maxRecDepth 20000 in
theorem ggX0_decodeBlock_X1_decode : GoodIn wsX0_decodeBlock wsX1_decode := goodIn_r _ [7, 8, 9, 6, 10] (by decide +kernel) (by decide +kernel)
set_option maxRecDepth 20000 in
theorem gX0_decodeBlock_X1_decode : GoodIn wsX0_decodeBlock (va_wsS RX0 70 yX1_decode wsX1_decode) := goodIn_app (goodIn_of _ (by decide +kernel)) ggX0_decodeBlock_X1_decode
set_option maxRecDepth 20000 in
theorem ggX0_decodeBlock_X1_kind : GoodIn wsX0_decodeBlock wsX1_kind := goodIn_r _ [13] (by decide +kernel) (by decide +kernel)
set_option maxRecDepth 20000 in
theorem gX0_decodeBlock_X1_kind : GoodIn wsX0_decodeBlock (va_wsS RX0 76 yX1_kind wsX1_kind) := goodIn_app (goodIn_of _ (by decide +kernel)) ggX0_decodeBlock_X1_kind
set_option maxRecDepth 20000 in
theorem ggX0_decodeBlock_X1_bytes : GoodIn wsX0_decodeBlock wsX1_bytes := goodIn_r _ [16] (by decide +kernel) (by decide +kernel)
set_option maxRecDepth 20000 in
theorem gX0_decodeBlock_X1_bytes : GoodIn wsX0_decodeBlock (va_wsS RX0 79 yX1_bytes wsX1_bytes) := goodIn_app (goodIn_of _ (by decide +kernel)) ggX0_decodeBlock_X1_bytes
set_option maxRecDepth 20000 in
theorem ggX0_decodeBlock_X1_endsBlock : GoodIn wsX0_decodeBlock wsX1_endsBlock := goodIn_r _ [19, 20, 21, 6, 22] (by decide +kernel) (by decide +kernel)
set_option maxRecDepth 20000 in
theorem gX0_decodeBlock_X1_endsBlock : GoodIn wsX0_decodeBlock (va_wsS RX0 82 yX1_endsBlock wsX1_endsBlock) := goodIn_app (goodIn_of _ (by decide +kernel)) ggX0_decodeBlock_X1_endsBlock
theorem dX0_decodeBlock_0 : decode cX0_decodeBlock 0 = .ok (.iload_n 2, 1) := by decide +kernel
theorem dX0_decodeBlock_1 : decode cX0_decodeBlock 1 = .ok (.istore_n 3, 1) := by decide +kernel
theorem dX0_decodeBlock_2 : decode cX0_decodeBlock 2 = .ok (.iconst 0, 1) := by decide +kernel
theorem dX0_decodeBlock_3 : decode cX0_decodeBlock 3 = .ok (.istore 4, 2) := by decide +kernel
theorem dX0_decodeBlock_5 : decode cX0_decodeBlock 5 = .ok (.iconst 0, 1) := by decide +kernel
theorem dX0_decodeBlock_6 : decode cX0_decodeBlock 6 = .ok (.istore 5, 2) := by decide +kernel
theorem dX0_decodeBlock_8 : decode cX0_decodeBlock 8 = .ok (.iload 5, 2) := by decide +kernel
theorem dX0_decodeBlock_10 : decode cX0_decodeBlock 10 = .ok (.bipush 8, 2) := by decide +kernel
theorem dX0_decodeBlock_12 : decode cX0_decodeBlock 12 = .ok (.if_icmp .ge 71, 3) := by decide +kernel
theorem dX0_decodeBlock_15 : decode cX0_decodeBlock 15 = .ok (.aload_n 1, 1) := by decide +kernel
theorem dX0_decodeBlock_16 : decode cX0_decodeBlock 16 = .ok (.iload_n 3, 1) := by decide +kernel
theorem dX0_decodeBlock_17 : decode cX0_decodeBlock 17 = .ok (.invokestatic 70, 3) := by decide +kernel
theorem dX0_decodeBlock_20 : decode cX0_decodeBlock 20 = .ok (.istore 6, 2) := by decide +kernel
theorem dX0_decodeBlock_22 : decode cX0_decodeBlock 22 = .ok (.iload 6, 2) := by decide +kernel
theorem dX0_decodeBlock_24 : decode cX0_decodeBlock 24 = .ok (.invokestatic 76, 3) := by decide +kernel
theorem dX0_decodeBlock_27 : decode cX0_decodeBlock 27 = .ok (.istore 7, 2) := by decide +kernel
theorem dX0_decodeBlock_29 : decode cX0_decodeBlock 29 = .ok (.iload 7, 2) := by decide +kernel
theorem dX0_decodeBlock_31 : decode cX0_decodeBlock 31 = .ok (.ifCond .ne 6, 3) := by decide +kernel
theorem dX0_decodeBlock_34 : decode cX0_decodeBlock 34 = .ok (.goto 49, 3) := by decide +kernel
theorem dX0_decodeBlock_37 : decode cX0_decodeBlock 37 = .ok (.aload_n 0, 1) := by decide +kernel
theorem dX0_decodeBlock_38 : decode cX0_decodeBlock 38 = .ok (.getfield 11, 3) := by decide +kernel
theorem dX0_decodeBlock_41 : decode cX0_decodeBlock 41 = .ok (.iload_n 2, 1) := by decide +kernel
theorem dX0_decodeBlock_42 : decode cX0_decodeBlock 42 = .ok (.bipush 8, 2) := by decide +kernel
theorem dX0_decodeBlock_44 : decode cX0_decodeBlock 44 = .ok (.imul, 1) := by decide +kernel
theorem dX0_decodeBlock_45 : decode cX0_decodeBlock 45 = .ok (.iload 5, 2) := by decide +kernel
theorem dX0_decodeBlock_47 : decode cX0_decodeBlock 47 = .ok (.iadd, 1) := by decide +kernel
theorem dX0_decodeBlock_48 : decode cX0_decodeBlock 48 = .ok (.iload 6, 2) := by decide +kernel
theorem dX0_decodeBlock_50 : decode cX0_decodeBlock 50 = .ok (.iastore, 1) := by decide +kernel
theorem dX0_decodeBlock_51 : decode cX0_decodeBlock 51 = .ok (.iinc 4 1, 3) := by decide +kernel
theorem dX0_decodeBlock_54 : decode cX0_decodeBlock 54 = .ok (.iload_n 3, 1) := by decide +kernel
theorem dX0_decodeBlock_55 : decode cX0_decodeBlock 55 = .ok (.iload 7, 2) := by decide +kernel
theorem dX0_decodeBlock_57 : decode cX0_decodeBlock 57 = .ok (.invokestatic 79, 3) := by decide +kernel
theorem dX0_decodeBlock_60 : decode cX0_decodeBlock 60 = .ok (.iadd, 1) := by decide +kernel
theorem dX0_decodeBlock_61 : decode cX0_decodeBlock 61 = .ok (.sipush 255, 3) := by decide +kernel
theorem dX0_decodeBlock_64 : decode cX0_decodeBlock 64 = .ok (.iand, 1) := by decide +kernel
theorem dX0_decodeBlock_65 : decode cX0_decodeBlock 65 = .ok (.istore_n 3, 1) := by decide +kernel
theorem dX0_decodeBlock_66 : decode cX0_decodeBlock 66 = .ok (.iload 7, 2) := by decide +kernel
theorem dX0_decodeBlock_68 : decode cX0_decodeBlock 68 = .ok (.invokestatic 82, 3) := by decide +kernel
theorem dX0_decodeBlock_71 : decode cX0_decodeBlock 71 = .ok (.ifCond .eq 6, 3) := by decide +kernel
theorem dX0_decodeBlock_74 : decode cX0_decodeBlock 74 = .ok (.goto 9, 3) := by decide +kernel
theorem dX0_decodeBlock_77 : decode cX0_decodeBlock 77 = .ok (.iinc 5 1, 3) := by decide +kernel
theorem dX0_decodeBlock_80 : decode cX0_decodeBlock 80 = .ok (.goto (-72), 3) := by decide +kernel
theorem dX0_decodeBlock_83 : decode cX0_decodeBlock 83 = .ok (.aload_n 0, 1) := by decide +kernel
theorem dX0_decodeBlock_84 : decode cX0_decodeBlock 84 = .ok (.getfield 15, 3) := by decide +kernel
theorem dX0_decodeBlock_87 : decode cX0_decodeBlock 87 = .ok (.iload_n 2, 1) := by decide +kernel
theorem dX0_decodeBlock_88 : decode cX0_decodeBlock 88 = .ok (.iload 4, 2) := by decide +kernel
theorem dX0_decodeBlock_90 : decode cX0_decodeBlock 90 = .ok (.iastore, 1) := by decide +kernel
theorem dX0_decodeBlock_91 : decode cX0_decodeBlock 91 = .ok (.aload_n 0, 1) := by decide +kernel
theorem dX0_decodeBlock_92 : decode cX0_decodeBlock 92 = .ok (.getfield 18, 3) := by decide +kernel
theorem dX0_decodeBlock_95 : decode cX0_decodeBlock 95 = .ok (.iload_n 2, 1) := by decide +kernel
theorem dX0_decodeBlock_96 : decode cX0_decodeBlock 96 = .ok (.iload_n 3, 1) := by decide +kernel
theorem dX0_decodeBlock_97 : decode cX0_decodeBlock 97 = .ok (.iastore, 1) := by decide +kernel
theorem dX0_decodeBlock_98 : decode cX0_decodeBlock 98 = .ok (.return_, 1) := by decide +kernel
set_option maxRecDepth 20000 in
theorem ggX0_markDead_X0_wordAt : GoodIn wsX0_markDead wsX0_wordAt := goodIn_r _ [7, 2, 22, 23, 24, 25, 26, 27, 28, 29, 30, 31, 32, 33, 34] (by decide +kernel) (by decide +kernel)
set_option maxRecDepth 20000 in
theorem gX0_markDead_X0_wordAt : GoodIn wsX0_markDead (wsV RX0 86 RX0 yX0_wordAt wsX0_wordAt) := goodIn_app (goodIn_of _ (by decide +kernel)) ggX0_markDead_X0_wordAt
set_option maxRecDepth 20000 in
theorem ggX0_markDead_X1_kind : GoodIn wsX0_markDead wsX1_kind := goodIn_r _ [11] (by decide +kernel) (by decide +kernel)
set_option maxRecDepth 20000 in
theorem gX0_markDead_X1_kind : GoodIn wsX0_markDead (va_wsS RX0 76 yX1_kind wsX1_kind) := goodIn_app (goodIn_of _ (by decide +kernel)) ggX0_markDead_X1_kind
set_option maxRecDepth 20000 in
theorem ggX0_markDead_X1_makesFlags : GoodIn wsX0_markDead wsX1_makesFlags := goodIn_r _ [14] (by decide +kernel) (by decide +kernel)
set_option maxRecDepth 20000 in
theorem gX0_markDead_X1_makesFlags : GoodIn wsX0_markDead (va_wsS RX0 90 yX1_makesFlags wsX1_makesFlags) := goodIn_app (goodIn_of _ (by decide +kernel)) ggX0_markDead_X1_makesFlags
set_option maxRecDepth 20000 in
theorem ggX0_markDead_X1_asDead : GoodIn wsX0_markDead wsX1_asDead := goodIn_r _ [17, 18] (by decide +kernel) (by decide +kernel)
set_option maxRecDepth 20000 in
theorem gX0_markDead_X1_asDead : GoodIn wsX0_markDead (va_wsS RX0 93 yX1_asDead wsX1_asDead) := goodIn_app (goodIn_of _ (by decide +kernel)) ggX0_markDead_X1_asDead
set_option maxRecDepth 20000 in
theorem ggX0_markDead_X1_needsFlags : GoodIn wsX0_markDead wsX1_needsFlags := goodIn_r _ [21] (by decide +kernel) (by decide +kernel)
set_option maxRecDepth 20000 in
theorem gX0_markDead_X1_needsFlags : GoodIn wsX0_markDead (va_wsS RX0 96 yX1_needsFlags wsX1_needsFlags) := goodIn_app (goodIn_of _ (by decide +kernel)) ggX0_markDead_X1_needsFlags
theorem dX0_markDead_0 : decode cX0_markDead 0 = .ok (.iconst 0, 1) := by decide +kernel
theorem dX0_markDead_1 : decode cX0_markDead 1 = .ok (.istore_n 2, 1) := by decide +kernel
theorem dX0_markDead_2 : decode cX0_markDead 2 = .ok (.iconst 0, 1) := by decide +kernel
theorem dX0_markDead_3 : decode cX0_markDead 3 = .ok (.istore_n 3, 1) := by decide +kernel
theorem dX0_markDead_4 : decode cX0_markDead 4 = .ok (.aload_n 0, 1) := by decide +kernel
theorem dX0_markDead_5 : decode cX0_markDead 5 = .ok (.getfield 15, 3) := by decide +kernel
theorem dX0_markDead_8 : decode cX0_markDead 8 = .ok (.iload_n 1, 1) := by decide +kernel
theorem dX0_markDead_9 : decode cX0_markDead 9 = .ok (.iaload, 1) := by decide +kernel
theorem dX0_markDead_10 : decode cX0_markDead 10 = .ok (.iconst 1, 1) := by decide +kernel
theorem dX0_markDead_11 : decode cX0_markDead 11 = .ok (.isub, 1) := by decide +kernel
theorem dX0_markDead_12 : decode cX0_markDead 12 = .ok (.istore 4, 2) := by decide +kernel
theorem dX0_markDead_14 : decode cX0_markDead 14 = .ok (.iload 4, 2) := by decide +kernel
theorem dX0_markDead_16 : decode cX0_markDead 16 = .ok (.ifCond .lt 84, 3) := by decide +kernel
theorem dX0_markDead_19 : decode cX0_markDead 19 = .ok (.aload_n 0, 1) := by decide +kernel
theorem dX0_markDead_20 : decode cX0_markDead 20 = .ok (.iload_n 1, 1) := by decide +kernel
theorem dX0_markDead_21 : decode cX0_markDead 21 = .ok (.iload 4, 2) := by decide +kernel
theorem dX0_markDead_23 : decode cX0_markDead 23 = .ok (.invokevirtual 86, 3) := by decide +kernel
theorem dX0_markDead_26 : decode cX0_markDead 26 = .ok (.istore 5, 2) := by decide +kernel
theorem dX0_markDead_28 : decode cX0_markDead 28 = .ok (.iload 5, 2) := by decide +kernel
theorem dX0_markDead_30 : decode cX0_markDead 30 = .ok (.invokestatic 76, 3) := by decide +kernel
theorem dX0_markDead_33 : decode cX0_markDead 33 = .ok (.istore 6, 2) := by decide +kernel
theorem dX0_markDead_35 : decode cX0_markDead 35 = .ok (.iload 6, 2) := by decide +kernel
theorem dX0_markDead_37 : decode cX0_markDead 37 = .ok (.invokestatic 90, 3) := by decide +kernel
theorem dX0_markDead_40 : decode cX0_markDead 40 = .ok (.istore 7, 2) := by decide +kernel
theorem dX0_markDead_42 : decode cX0_markDead 42 = .ok (.iload 7, 2) := by decide +kernel
theorem dX0_markDead_44 : decode cX0_markDead 44 = .ok (.ifCond .eq 27, 3) := by decide +kernel
theorem dX0_markDead_47 : decode cX0_markDead 47 = .ok (.iload_n 3, 1) := by decide +kernel
theorem dX0_markDead_48 : decode cX0_markDead 48 = .ok (.ifCond .eq 23, 3) := by decide +kernel
theorem dX0_markDead_51 : decode cX0_markDead 51 = .ok (.aload_n 0, 1) := by decide +kernel
theorem dX0_markDead_52 : decode cX0_markDead 52 = .ok (.getfield 11, 3) := by decide +kernel
theorem dX0_markDead_55 : decode cX0_markDead 55 = .ok (.iload_n 1, 1) := by decide +kernel
theorem dX0_markDead_56 : decode cX0_markDead 56 = .ok (.bipush 8, 2) := by decide +kernel
theorem dX0_markDead_58 : decode cX0_markDead 58 = .ok (.imul, 1) := by decide +kernel
theorem dX0_markDead_59 : decode cX0_markDead 59 = .ok (.iload 4, 2) := by decide +kernel
theorem dX0_markDead_61 : decode cX0_markDead 61 = .ok (.iadd, 1) := by decide +kernel
theorem dX0_markDead_62 : decode cX0_markDead 62 = .ok (.iload 5, 2) := by decide +kernel
theorem dX0_markDead_64 : decode cX0_markDead 64 = .ok (.invokestatic 93, 3) := by decide +kernel
theorem dX0_markDead_67 : decode cX0_markDead 67 = .ok (.iastore, 1) := by decide +kernel
theorem dX0_markDead_68 : decode cX0_markDead 68 = .ok (.iinc 2 1, 3) := by decide +kernel
theorem dX0_markDead_71 : decode cX0_markDead 71 = .ok (.iload 6, 2) := by decide +kernel
theorem dX0_markDead_73 : decode cX0_markDead 73 = .ok (.invokestatic 96, 3) := by decide +kernel
theorem dX0_markDead_76 : decode cX0_markDead 76 = .ok (.ifCond .ne 16, 3) := by decide +kernel
theorem dX0_markDead_79 : decode cX0_markDead 79 = .ok (.iload 7, 2) := by decide +kernel
theorem dX0_markDead_81 : decode cX0_markDead 81 = .ok (.ifCond .ne 7, 3) := by decide +kernel
theorem dX0_markDead_84 : decode cX0_markDead 84 = .ok (.iload_n 3, 1) := by decide +kernel
theorem dX0_markDead_85 : decode cX0_markDead 85 = .ok (.ifCond .eq 7, 3) := by decide +kernel
theorem dX0_markDead_88 : decode cX0_markDead 88 = .ok (.iconst 1, 1) := by decide +kernel
theorem dX0_markDead_89 : decode cX0_markDead 89 = .ok (.goto 4, 3) := by decide +kernel
theorem dX0_markDead_92 : decode cX0_markDead 92 = .ok (.iconst 0, 1) := by decide +kernel
theorem dX0_markDead_93 : decode cX0_markDead 93 = .ok (.istore_n 3, 1) := by decide +kernel
theorem dX0_markDead_94 : decode cX0_markDead 94 = .ok (.iinc 4 (-1), 3) := by decide +kernel
theorem dX0_markDead_97 : decode cX0_markDead 97 = .ok (.goto (-83), 3) := by decide +kernel
theorem dX0_markDead_100 : decode cX0_markDead 100 = .ok (.iload_n 2, 1) := by decide +kernel
theorem dX0_markDead_101 : decode cX0_markDead 101 = .ok (.ireturn, 1) := by decide +kernel
set_option maxRecDepth 20000 in
theorem ggX0_sizeOf_X0_lastKind : GoodIn wsX0_sizeOf wsX0_lastKind := goodIn_r _ [6, 1, 7, 8, 9, 5, 10, 11, 12, 13, 14, 15, 36, 37, 38, 39, 40, 41, 42, 43, 44, 45, 46, 47, 48] (by decide +kernel) (by decide +kernel)
set_option maxRecDepth 20000 in
theorem gX0_sizeOf_X0_lastKind : GoodIn wsX0_sizeOf (wsV RX0 99 RX0 yX0_lastKind wsX0_lastKind) := goodIn_app (goodIn_of _ (by decide +kernel)) ggX0_sizeOf_X0_lastKind
set_option maxRecDepth 20000 in
theorem ggX0_sizeOf_X1_leavesByItself : GoodIn wsX0_sizeOf wsX1_leavesByItself := goodIn_r _ [18] (by decide +kernel) (by decide +kernel)
set_option maxRecDepth 20000 in
theorem gX0_sizeOf_X1_leavesByItself : GoodIn wsX0_sizeOf (va_wsS RX0 102 yX1_leavesByItself wsX1_leavesByItself) := goodIn_app (goodIn_of _ (by decide +kernel)) ggX0_sizeOf_X1_leavesByItself
set_option maxRecDepth 20000 in
theorem ggX0_sizeOf_X0_wordAt : GoodIn wsX0_sizeOf wsX0_wordAt := goodIn_r _ [10, 11, 36, 37, 38, 39, 40, 41, 42, 43, 44, 45, 46, 47, 48] (by decide +kernel) (by decide +kernel)
set_option maxRecDepth 20000 in
theorem gX0_sizeOf_X0_wordAt : GoodIn wsX0_sizeOf (wsV RX0 86 RX0 yX0_wordAt wsX0_wordAt) := goodIn_app (goodIn_of _ (by decide +kernel)) ggX0_sizeOf_X0_wordAt
set_option maxRecDepth 20000 in
theorem ggX0_sizeOf_X1_size : GoodIn wsX0_sizeOf wsX1_size := goodIn_r _ [21, 22, 13, 14, 15, 23, 24, 25, 26, 27, 28, 29, 30, 31, 32, 33, 34, 35] (by decide +kernel) (by decide +kernel)
set_option maxRecDepth 20000 in
theorem gX0_sizeOf_X1_size : GoodIn wsX0_sizeOf (va_wsS RX0 105 yX1_size wsX1_size) := goodIn_app (goodIn_of _ (by decide +kernel)) ggX0_sizeOf_X1_size
theorem dX0_sizeOf_0 : decode cX0_sizeOf 0 = .ok (.aload_n 0, 1) := by decide +kernel
theorem dX0_sizeOf_1 : decode cX0_sizeOf 1 = .ok (.iload_n 1, 1) := by decide +kernel
theorem dX0_sizeOf_2 : decode cX0_sizeOf 2 = .ok (.invokevirtual 99, 3) := by decide +kernel
theorem dX0_sizeOf_5 : decode cX0_sizeOf 5 = .ok (.invokestatic 102, 3) := by decide +kernel
theorem dX0_sizeOf_8 : decode cX0_sizeOf 8 = .ok (.ifCond .eq 7, 3) := by decide +kernel
theorem dX0_sizeOf_11 : decode cX0_sizeOf 11 = .ok (.iconst 0, 1) := by decide +kernel
theorem dX0_sizeOf_12 : decode cX0_sizeOf 12 = .ok (.goto 4, 3) := by decide +kernel
theorem dX0_sizeOf_15 : decode cX0_sizeOf 15 = .ok (.iconst 1, 1) := by decide +kernel
theorem dX0_sizeOf_16 : decode cX0_sizeOf 16 = .ok (.istore_n 2, 1) := by decide +kernel
theorem dX0_sizeOf_17 : decode cX0_sizeOf 17 = .ok (.iconst 0, 1) := by decide +kernel
theorem dX0_sizeOf_18 : decode cX0_sizeOf 18 = .ok (.istore_n 3, 1) := by decide +kernel
theorem dX0_sizeOf_19 : decode cX0_sizeOf 19 = .ok (.iload_n 3, 1) := by decide +kernel
theorem dX0_sizeOf_20 : decode cX0_sizeOf 20 = .ok (.aload_n 0, 1) := by decide +kernel
theorem dX0_sizeOf_21 : decode cX0_sizeOf 21 = .ok (.getfield 15, 3) := by decide +kernel
theorem dX0_sizeOf_24 : decode cX0_sizeOf 24 = .ok (.iload_n 1, 1) := by decide +kernel
theorem dX0_sizeOf_25 : decode cX0_sizeOf 25 = .ok (.iaload, 1) := by decide +kernel
theorem dX0_sizeOf_26 : decode cX0_sizeOf 26 = .ok (.if_icmp .ge 21, 3) := by decide +kernel
theorem dX0_sizeOf_29 : decode cX0_sizeOf 29 = .ok (.iload_n 2, 1) := by decide +kernel
theorem dX0_sizeOf_30 : decode cX0_sizeOf 30 = .ok (.aload_n 0, 1) := by decide +kernel
theorem dX0_sizeOf_31 : decode cX0_sizeOf 31 = .ok (.iload_n 1, 1) := by decide +kernel
theorem dX0_sizeOf_32 : decode cX0_sizeOf 32 = .ok (.iload_n 3, 1) := by decide +kernel
theorem dX0_sizeOf_33 : decode cX0_sizeOf 33 = .ok (.invokevirtual 86, 3) := by decide +kernel
theorem dX0_sizeOf_36 : decode cX0_sizeOf 36 = .ok (.invokestatic 105, 3) := by decide +kernel
theorem dX0_sizeOf_39 : decode cX0_sizeOf 39 = .ok (.iadd, 1) := by decide +kernel
theorem dX0_sizeOf_40 : decode cX0_sizeOf 40 = .ok (.istore_n 2, 1) := by decide +kernel
theorem dX0_sizeOf_41 : decode cX0_sizeOf 41 = .ok (.iinc 3 1, 3) := by decide +kernel
theorem dX0_sizeOf_44 : decode cX0_sizeOf 44 = .ok (.goto (-25), 3) := by decide +kernel
theorem dX0_sizeOf_47 : decode cX0_sizeOf 47 = .ok (.iload_n 2, 1) := by decide +kernel
theorem dX0_sizeOf_48 : decode cX0_sizeOf 48 = .ok (.ireturn, 1) := by decide +kernel
set_option maxRecDepth 20000 in
theorem ggX0_lastKind_X0_wordAt : GoodIn wsX0_lastKind wsX0_wordAt := goodIn_r _ [6, 7, 12, 13, 14, 15, 16, 17, 18, 19, 20, 21, 22, 23, 24] (by decide +kernel) (by decide +kernel)
set_option maxRecDepth 20000 in
theorem gX0_lastKind_X0_wordAt : GoodIn wsX0_lastKind (wsV RX0 86 RX0 yX0_wordAt wsX0_wordAt) := goodIn_app (goodIn_of _ (by decide +kernel)) ggX0_lastKind_X0_wordAt
set_option maxRecDepth 20000 in
theorem ggX0_lastKind_X1_kind : GoodIn wsX0_lastKind wsX1_kind := goodIn_r _ [11] (by decide +kernel) (by decide +kernel)
set_option maxRecDepth 20000 in
theorem gX0_lastKind_X1_kind : GoodIn wsX0_lastKind (va_wsS RX0 76 yX1_kind wsX1_kind) := goodIn_app (goodIn_of _ (by decide +kernel)) ggX0_lastKind_X1_kind
theorem dX0_lastKind_0 : decode cX0_lastKind 0 = .ok (.aload_n 0, 1) := by decide +kernel
theorem dX0_lastKind_1 : decode cX0_lastKind 1 = .ok (.getfield 15, 3) := by decide +kernel
theorem dX0_lastKind_4 : decode cX0_lastKind 4 = .ok (.iload_n 1, 1) := by decide +kernel
theorem dX0_lastKind_5 : decode cX0_lastKind 5 = .ok (.iaload, 1) := by decide +kernel
theorem dX0_lastKind_6 : decode cX0_lastKind 6 = .ok (.ifCond .ne 7, 3) := by decide +kernel
theorem dX0_lastKind_9 : decode cX0_lastKind 9 = .ok (.iconst 0, 1) := by decide +kernel
theorem dX0_lastKind_10 : decode cX0_lastKind 10 = .ok (.goto 19, 3) := by decide +kernel
theorem dX0_lastKind_13 : decode cX0_lastKind 13 = .ok (.aload_n 0, 1) := by decide +kernel
theorem dX0_lastKind_14 : decode cX0_lastKind 14 = .ok (.iload_n 1, 1) := by decide +kernel
theorem dX0_lastKind_15 : decode cX0_lastKind 15 = .ok (.aload_n 0, 1) := by decide +kernel
theorem dX0_lastKind_16 : decode cX0_lastKind 16 = .ok (.getfield 15, 3) := by decide +kernel
theorem dX0_lastKind_19 : decode cX0_lastKind 19 = .ok (.iload_n 1, 1) := by decide +kernel
theorem dX0_lastKind_20 : decode cX0_lastKind 20 = .ok (.iaload, 1) := by decide +kernel
theorem dX0_lastKind_21 : decode cX0_lastKind 21 = .ok (.iconst 1, 1) := by decide +kernel
theorem dX0_lastKind_22 : decode cX0_lastKind 22 = .ok (.isub, 1) := by decide +kernel
theorem dX0_lastKind_23 : decode cX0_lastKind 23 = .ok (.invokevirtual 86, 3) := by decide +kernel
theorem dX0_lastKind_26 : decode cX0_lastKind 26 = .ok (.invokestatic 76, 3) := by decide +kernel
theorem dX0_lastKind_29 : decode cX0_lastKind 29 = .ok (.ireturn, 1) := by decide +kernel
set_option maxRecDepth 20000 in
theorem ggX0_layExits_X0_wordAt : GoodIn wsX0_layExits wsX0_wordAt := goodIn_r _ [9, 10, 24, 25, 26, 27, 28, 29, 30, 31, 32, 33, 34, 35, 36] (by decide +kernel) (by decide +kernel)
set_option maxRecDepth 20000 in
theorem gX0_layExits_X0_wordAt : GoodIn wsX0_layExits (wsV RX0 86 RX0 yX0_wordAt wsX0_wordAt) := goodIn_app (goodIn_of _ (by decide +kernel)) ggX0_layExits_X0_wordAt
set_option maxRecDepth 20000 in
theorem ggX0_layExits_X1_kind : GoodIn wsX0_layExits wsX1_kind := goodIn_r _ [14] (by decide +kernel) (by decide +kernel)
set_option maxRecDepth 20000 in
theorem gX0_layExits_X1_kind : GoodIn wsX0_layExits (va_wsS RX0 76 yX1_kind wsX1_kind) := goodIn_app (goodIn_of _ (by decide +kernel)) ggX0_layExits_X1_kind
set_option maxRecDepth 20000 in
theorem ggX0_layExits_X1_leavesByItself : GoodIn wsX0_layExits wsX1_leavesByItself := goodIn_r _ [17] (by decide +kernel) (by decide +kernel)
set_option maxRecDepth 20000 in
theorem gX0_layExits_X1_leavesByItself : GoodIn wsX0_layExits (va_wsS RX0 102 yX1_leavesByItself wsX1_leavesByItself) := goodIn_app (goodIn_of _ (by decide +kernel)) ggX0_layExits_X1_leavesByItself
set_option maxRecDepth 20000 in
theorem ggX0_layExits_X1_bytes : GoodIn wsX0_layExits wsX1_bytes := goodIn_r _ [20] (by decide +kernel) (by decide +kernel)
set_option maxRecDepth 20000 in
theorem gX0_layExits_X1_bytes : GoodIn wsX0_layExits (va_wsS RX0 79 yX1_bytes wsX1_bytes) := goodIn_app (goodIn_of _ (by decide +kernel)) ggX0_layExits_X1_bytes
set_option maxRecDepth 20000 in
theorem ggX0_layExits_X1_n : GoodIn wsX0_layExits wsX1_n := goodIn_r _ [23] (by decide +kernel) (by decide +kernel)
set_option maxRecDepth 20000 in
theorem gX0_layExits_X1_n : GoodIn wsX0_layExits (va_wsS RX0 107 yX1_n wsX1_n) := goodIn_app (goodIn_of _ (by decide +kernel)) ggX0_layExits_X1_n
theorem dX0_layExits_0 : decode cX0_layExits 0 = .ok (.aload_n 0, 1) := by decide +kernel
theorem dX0_layExits_1 : decode cX0_layExits 1 = .ok (.iload_n 1, 1) := by decide +kernel
theorem dX0_layExits_2 : decode cX0_layExits 2 = .ok (.aload_n 0, 1) := by decide +kernel
theorem dX0_layExits_3 : decode cX0_layExits 3 = .ok (.getfield 15, 3) := by decide +kernel
theorem dX0_layExits_6 : decode cX0_layExits 6 = .ok (.iload_n 1, 1) := by decide +kernel
theorem dX0_layExits_7 : decode cX0_layExits 7 = .ok (.iaload, 1) := by decide +kernel
theorem dX0_layExits_8 : decode cX0_layExits 8 = .ok (.iconst 1, 1) := by decide +kernel
theorem dX0_layExits_9 : decode cX0_layExits 9 = .ok (.isub, 1) := by decide +kernel
theorem dX0_layExits_10 : decode cX0_layExits 10 = .ok (.invokevirtual 86, 3) := by decide +kernel
theorem dX0_layExits_13 : decode cX0_layExits 13 = .ok (.istore_n 2, 1) := by decide +kernel
theorem dX0_layExits_14 : decode cX0_layExits 14 = .ok (.iload_n 2, 1) := by decide +kernel
theorem dX0_layExits_15 : decode cX0_layExits 15 = .ok (.invokestatic 76, 3) := by decide +kernel
theorem dX0_layExits_18 : decode cX0_layExits 18 = .ok (.istore_n 3, 1) := by decide +kernel
theorem dX0_layExits_19 : decode cX0_layExits 19 = .ok (.iload_n 3, 1) := by decide +kernel
theorem dX0_layExits_20 : decode cX0_layExits 20 = .ok (.invokestatic 102, 3) := by decide +kernel
theorem dX0_layExits_23 : decode cX0_layExits 23 = .ok (.ifCond .eq 15, 3) := by decide +kernel
theorem dX0_layExits_26 : decode cX0_layExits 26 = .ok (.iload_n 3, 1) := by decide +kernel
theorem dX0_layExits_27 : decode cX0_layExits 27 = .ok (.invokestatic 79, 3) := by decide +kernel
theorem dX0_layExits_30 : decode cX0_layExits 30 = .ok (.iconst 2, 1) := by decide +kernel
theorem dX0_layExits_31 : decode cX0_layExits 31 = .ok (.if_icmp .ne 7, 3) := by decide +kernel
theorem dX0_layExits_34 : decode cX0_layExits 34 = .ok (.iconst 1, 1) := by decide +kernel
theorem dX0_layExits_35 : decode cX0_layExits 35 = .ok (.goto 4, 3) := by decide +kernel
theorem dX0_layExits_38 : decode cX0_layExits 38 = .ok (.iconst 0, 1) := by decide +kernel
theorem dX0_layExits_39 : decode cX0_layExits 39 = .ok (.istore 4, 2) := by decide +kernel
theorem dX0_layExits_41 : decode cX0_layExits 41 = .ok (.iload_n 3, 1) := by decide +kernel
theorem dX0_layExits_42 : decode cX0_layExits 42 = .ok (.bipush 24, 2) := by decide +kernel
theorem dX0_layExits_44 : decode cX0_layExits 44 = .ok (.if_icmp .eq 16, 3) := by decide +kernel
theorem dX0_layExits_47 : decode cX0_layExits 47 = .ok (.iload_n 3, 1) := by decide +kernel
theorem dX0_layExits_48 : decode cX0_layExits 48 = .ok (.bipush 29, 2) := by decide +kernel
theorem dX0_layExits_50 : decode cX0_layExits 50 = .ok (.if_icmp .eq 10, 3) := by decide +kernel
theorem dX0_layExits_53 : decode cX0_layExits 53 = .ok (.iload_n 3, 1) := by decide +kernel
theorem dX0_layExits_54 : decode cX0_layExits 54 = .ok (.invokestatic 102, 3) := by decide +kernel
theorem dX0_layExits_57 : decode cX0_layExits 57 = .ok (.ifCond .ne 7, 3) := by decide +kernel
theorem dX0_layExits_60 : decode cX0_layExits 60 = .ok (.iconst 1, 1) := by decide +kernel
theorem dX0_layExits_61 : decode cX0_layExits 61 = .ok (.goto 4, 3) := by decide +kernel
theorem dX0_layExits_64 : decode cX0_layExits 64 = .ok (.iconst 0, 1) := by decide +kernel
theorem dX0_layExits_65 : decode cX0_layExits 65 = .ok (.istore 5, 2) := by decide +kernel
theorem dX0_layExits_67 : decode cX0_layExits 67 = .ok (.aload_n 0, 1) := by decide +kernel
theorem dX0_layExits_68 : decode cX0_layExits 68 = .ok (.getfield 27, 3) := by decide +kernel
theorem dX0_layExits_71 : decode cX0_layExits 71 = .ok (.iconst 2, 1) := by decide +kernel
theorem dX0_layExits_72 : decode cX0_layExits 72 = .ok (.iload_n 1, 1) := by decide +kernel
theorem dX0_layExits_73 : decode cX0_layExits 73 = .ok (.imul, 1) := by decide +kernel
theorem dX0_layExits_74 : decode cX0_layExits 74 = .ok (.iload 4, 2) := by decide +kernel
theorem dX0_layExits_76 : decode cX0_layExits 76 = .ok (.ifCond .eq 10, 3) := by decide +kernel
theorem dX0_layExits_79 : decode cX0_layExits 79 = .ok (.iload_n 2, 1) := by decide +kernel
theorem dX0_layExits_80 : decode cX0_layExits 80 = .ok (.invokestatic 107, 3) := by decide +kernel
theorem dX0_layExits_83 : decode cX0_layExits 83 = .ok (.goto 4, 3) := by decide +kernel
theorem dX0_layExits_86 : decode cX0_layExits 86 = .ok (.iconst (-1), 1) := by decide +kernel
theorem dX0_layExits_87 : decode cX0_layExits 87 = .ok (.iastore, 1) := by decide +kernel
theorem dX0_layExits_88 : decode cX0_layExits 88 = .ok (.aload_n 0, 1) := by decide +kernel
theorem dX0_layExits_89 : decode cX0_layExits 89 = .ok (.getfield 27, 3) := by decide +kernel
theorem dX0_layExits_92 : decode cX0_layExits 92 = .ok (.iconst 2, 1) := by decide +kernel
theorem dX0_layExits_93 : decode cX0_layExits 93 = .ok (.iload_n 1, 1) := by decide +kernel
theorem dX0_layExits_94 : decode cX0_layExits 94 = .ok (.imul, 1) := by decide +kernel
theorem dX0_layExits_95 : decode cX0_layExits 95 = .ok (.iconst 1, 1) := by decide +kernel
theorem dX0_layExits_96 : decode cX0_layExits 96 = .ok (.iadd, 1) := by decide +kernel
theorem dX0_layExits_97 : decode cX0_layExits 97 = .ok (.iload 5, 2) := by decide +kernel
theorem dX0_layExits_99 : decode cX0_layExits 99 = .ok (.ifCond .eq 12, 3) := by decide +kernel
theorem dX0_layExits_102 : decode cX0_layExits 102 = .ok (.aload_n 0, 1) := by decide +kernel
theorem dX0_layExits_103 : decode cX0_layExits 103 = .ok (.getfield 18, 3) := by decide +kernel
theorem dX0_layExits_106 : decode cX0_layExits 106 = .ok (.iload_n 1, 1) := by decide +kernel
theorem dX0_layExits_107 : decode cX0_layExits 107 = .ok (.iaload, 1) := by decide +kernel
theorem dX0_layExits_108 : decode cX0_layExits 108 = .ok (.goto 4, 3) := by decide +kernel
theorem dX0_layExits_111 : decode cX0_layExits 111 = .ok (.iconst (-1), 1) := by decide +kernel
theorem dX0_layExits_112 : decode cX0_layExits 112 = .ok (.iastore, 1) := by decide +kernel
theorem dX0_layExits_113 : decode cX0_layExits 113 = .ok (.aload_n 0, 1) := by decide +kernel
theorem dX0_layExits_114 : decode cX0_layExits 114 = .ok (.getfield 30, 3) := by decide +kernel
theorem dX0_layExits_117 : decode cX0_layExits 117 = .ok (.iconst 2, 1) := by decide +kernel
theorem dX0_layExits_118 : decode cX0_layExits 118 = .ok (.iload_n 1, 1) := by decide +kernel
theorem dX0_layExits_119 : decode cX0_layExits 119 = .ok (.imul, 1) := by decide +kernel
theorem dX0_layExits_120 : decode cX0_layExits 120 = .ok (.iconst 0, 1) := by decide +kernel
theorem dX0_layExits_121 : decode cX0_layExits 121 = .ok (.iastore, 1) := by decide +kernel
theorem dX0_layExits_122 : decode cX0_layExits 122 = .ok (.aload_n 0, 1) := by decide +kernel
theorem dX0_layExits_123 : decode cX0_layExits 123 = .ok (.getfield 30, 3) := by decide +kernel
theorem dX0_layExits_126 : decode cX0_layExits 126 = .ok (.iconst 2, 1) := by decide +kernel
theorem dX0_layExits_127 : decode cX0_layExits 127 = .ok (.iload_n 1, 1) := by decide +kernel
theorem dX0_layExits_128 : decode cX0_layExits 128 = .ok (.imul, 1) := by decide +kernel
theorem dX0_layExits_129 : decode cX0_layExits 129 = .ok (.iconst 1, 1) := by decide +kernel
theorem dX0_layExits_130 : decode cX0_layExits 130 = .ok (.iadd, 1) := by decide +kernel
theorem dX0_layExits_131 : decode cX0_layExits 131 = .ok (.iconst 0, 1) := by decide +kernel
theorem dX0_layExits_132 : decode cX0_layExits 132 = .ok (.iastore, 1) := by decide +kernel
theorem dX0_layExits_133 : decode cX0_layExits 133 = .ok (.return_, 1) := by decide +kernel
theorem dX0_exitTo_0 : decode cX0_exitTo 0 = .ok (.aload_n 0, 1) := by decide +kernel
theorem dX0_exitTo_1 : decode cX0_exitTo 1 = .ok (.getfield 27, 3) := by decide +kernel
theorem dX0_exitTo_4 : decode cX0_exitTo 4 = .ok (.iconst 2, 1) := by decide +kernel
theorem dX0_exitTo_5 : decode cX0_exitTo 5 = .ok (.iload_n 1, 1) := by decide +kernel
theorem dX0_exitTo_6 : decode cX0_exitTo 6 = .ok (.imul, 1) := by decide +kernel
theorem dX0_exitTo_7 : decode cX0_exitTo 7 = .ok (.iaload, 1) := by decide +kernel
theorem dX0_exitTo_8 : decode cX0_exitTo 8 = .ok (.iload_n 2, 1) := by decide +kernel
theorem dX0_exitTo_9 : decode cX0_exitTo 9 = .ok (.if_icmp .ne 7, 3) := by decide +kernel
theorem dX0_exitTo_12 : decode cX0_exitTo 12 = .ok (.iconst 2, 1) := by decide +kernel
theorem dX0_exitTo_13 : decode cX0_exitTo 13 = .ok (.iload_n 1, 1) := by decide +kernel
theorem dX0_exitTo_14 : decode cX0_exitTo 14 = .ok (.imul, 1) := by decide +kernel
theorem dX0_exitTo_15 : decode cX0_exitTo 15 = .ok (.ireturn, 1) := by decide +kernel
theorem dX0_exitTo_16 : decode cX0_exitTo 16 = .ok (.aload_n 0, 1) := by decide +kernel
theorem dX0_exitTo_17 : decode cX0_exitTo 17 = .ok (.getfield 27, 3) := by decide +kernel
theorem dX0_exitTo_20 : decode cX0_exitTo 20 = .ok (.iconst 2, 1) := by decide +kernel
theorem dX0_exitTo_21 : decode cX0_exitTo 21 = .ok (.iload_n 1, 1) := by decide +kernel
theorem dX0_exitTo_22 : decode cX0_exitTo 22 = .ok (.imul, 1) := by decide +kernel
theorem dX0_exitTo_23 : decode cX0_exitTo 23 = .ok (.iconst 1, 1) := by decide +kernel
theorem dX0_exitTo_24 : decode cX0_exitTo 24 = .ok (.iadd, 1) := by decide +kernel
theorem dX0_exitTo_25 : decode cX0_exitTo 25 = .ok (.iaload, 1) := by decide +kernel
theorem dX0_exitTo_26 : decode cX0_exitTo 26 = .ok (.iload_n 2, 1) := by decide +kernel
theorem dX0_exitTo_27 : decode cX0_exitTo 27 = .ok (.if_icmp .ne 11, 3) := by decide +kernel
theorem dX0_exitTo_30 : decode cX0_exitTo 30 = .ok (.iconst 2, 1) := by decide +kernel
theorem dX0_exitTo_31 : decode cX0_exitTo 31 = .ok (.iload_n 1, 1) := by decide +kernel
theorem dX0_exitTo_32 : decode cX0_exitTo 32 = .ok (.imul, 1) := by decide +kernel
theorem dX0_exitTo_33 : decode cX0_exitTo 33 = .ok (.iconst 1, 1) := by decide +kernel
theorem dX0_exitTo_34 : decode cX0_exitTo 34 = .ok (.iadd, 1) := by decide +kernel
theorem dX0_exitTo_35 : decode cX0_exitTo 35 = .ok (.goto 4, 3) := by decide +kernel
theorem dX0_exitTo_38 : decode cX0_exitTo 38 = .ok (.iconst (-1), 1) := by decide +kernel
theorem dX0_exitTo_39 : decode cX0_exitTo 39 = .ok (.ireturn, 1) := by decide +kernel
set_option maxRecDepth 20000 in
theorem ggX0_isLinked_X0_has : GoodIn wsX0_isLinked wsX0_has := goodIn_r _ [7, 2, 8, 9, 10, 11, 12, 13, 14, 15, 16, 17, 18, 19, 20] (by decide +kernel) (by decide +kernel)
set_option maxRecDepth 20000 in
theorem gX0_isLinked_X0_has : GoodIn wsX0_isLinked (wsV RX0 110 RX0 yX0_has wsX0_has) := goodIn_app (goodIn_of _ (by decide +kernel)) ggX0_isLinked_X0_has
theorem dX0_isLinked_0 : decode cX0_isLinked 0 = .ok (.iload_n 1, 1) := by decide +kernel
theorem dX0_isLinked_1 : decode cX0_isLinked 1 = .ok (.iconst (-1), 1) := by decide +kernel
theorem dX0_isLinked_2 : decode cX0_isLinked 2 = .ok (.if_icmp .eq 30, 3) := by decide +kernel
theorem dX0_isLinked_5 : decode cX0_isLinked 5 = .ok (.aload_n 0, 1) := by decide +kernel
theorem dX0_isLinked_6 : decode cX0_isLinked 6 = .ok (.iload_n 2, 1) := by decide +kernel
theorem dX0_isLinked_7 : decode cX0_isLinked 7 = .ok (.invokevirtual 110, 3) := by decide +kernel
theorem dX0_isLinked_10 : decode cX0_isLinked 10 = .ok (.ifCond .eq 22, 3) := by decide +kernel
theorem dX0_isLinked_13 : decode cX0_isLinked 13 = .ok (.aload_n 0, 1) := by decide +kernel
theorem dX0_isLinked_14 : decode cX0_isLinked 14 = .ok (.getfield 30, 3) := by decide +kernel
theorem dX0_isLinked_17 : decode cX0_isLinked 17 = .ok (.iload_n 1, 1) := by decide +kernel
theorem dX0_isLinked_18 : decode cX0_isLinked 18 = .ok (.iaload, 1) := by decide +kernel
theorem dX0_isLinked_19 : decode cX0_isLinked 19 = .ok (.aload_n 0, 1) := by decide +kernel
theorem dX0_isLinked_20 : decode cX0_isLinked 20 = .ok (.getfield 24, 3) := by decide +kernel
theorem dX0_isLinked_23 : decode cX0_isLinked 23 = .ok (.iload_n 2, 1) := by decide +kernel
theorem dX0_isLinked_24 : decode cX0_isLinked 24 = .ok (.iaload, 1) := by decide +kernel
theorem dX0_isLinked_25 : decode cX0_isLinked 25 = .ok (.if_icmp .ne 7, 3) := by decide +kernel
theorem dX0_isLinked_28 : decode cX0_isLinked 28 = .ok (.iconst 1, 1) := by decide +kernel
theorem dX0_isLinked_29 : decode cX0_isLinked 29 = .ok (.goto 4, 3) := by decide +kernel
theorem dX0_isLinked_32 : decode cX0_isLinked 32 = .ok (.iconst 0, 1) := by decide +kernel
theorem dX0_isLinked_33 : decode cX0_isLinked 33 = .ok (.ireturn, 1) := by decide +kernel
set_option maxRecDepth 20000 in
theorem ggX0_link_X0_has : GoodIn wsX0_link wsX0_has := goodIn_r _ [7, 2, 8, 9, 10, 11, 12, 13, 14, 15, 16, 17, 18, 19, 20] (by decide +kernel) (by decide +kernel)
set_option maxRecDepth 20000 in
theorem gX0_link_X0_has : GoodIn wsX0_link (wsV RX0 110 RX0 yX0_has wsX0_has) := goodIn_app (goodIn_of _ (by decide +kernel)) ggX0_link_X0_has
theorem dX0_link_0 : decode cX0_link 0 = .ok (.iload_n 1, 1) := by decide +kernel
theorem dX0_link_1 : decode cX0_link 1 = .ok (.iconst (-1), 1) := by decide +kernel
theorem dX0_link_2 : decode cX0_link 2 = .ok (.if_icmp .eq 25, 3) := by decide +kernel
theorem dX0_link_5 : decode cX0_link 5 = .ok (.aload_n 0, 1) := by decide +kernel
theorem dX0_link_6 : decode cX0_link 6 = .ok (.iload_n 1, 1) := by decide +kernel
theorem dX0_link_7 : decode cX0_link 7 = .ok (.iconst 2, 1) := by decide +kernel
theorem dX0_link_8 : decode cX0_link 8 = .ok (.idiv, 1) := by decide +kernel
theorem dX0_link_9 : decode cX0_link 9 = .ok (.invokevirtual 110, 3) := by decide +kernel
theorem dX0_link_12 : decode cX0_link 12 = .ok (.ifCond .eq 15, 3) := by decide +kernel
theorem dX0_link_15 : decode cX0_link 15 = .ok (.aload_n 0, 1) := by decide +kernel
theorem dX0_link_16 : decode cX0_link 16 = .ok (.getfield 30, 3) := by decide +kernel
theorem dX0_link_19 : decode cX0_link 19 = .ok (.iload_n 1, 1) := by decide +kernel
theorem dX0_link_20 : decode cX0_link 20 = .ok (.aload_n 0, 1) := by decide +kernel
theorem dX0_link_21 : decode cX0_link 21 = .ok (.getfield 24, 3) := by decide +kernel
theorem dX0_link_24 : decode cX0_link 24 = .ok (.iload_n 2, 1) := by decide +kernel
theorem dX0_link_25 : decode cX0_link 25 = .ok (.iaload, 1) := by decide +kernel
theorem dX0_link_26 : decode cX0_link 26 = .ok (.iastore, 1) := by decide +kernel
theorem dX0_link_27 : decode cX0_link 27 = .ok (.return_, 1) := by decide +kernel
set_option maxRecDepth 20000 in
theorem ggX0_dropPage_X0_has : GoodIn wsX0_dropPage wsX0_has := goodIn_r _ [9, 2, 15, 16, 17, 18, 19, 20, 21, 22, 23, 24, 25, 26, 27] (by decide +kernel) (by decide +kernel)
set_option maxRecDepth 20000 in
theorem gX0_dropPage_X0_has : GoodIn wsX0_dropPage (wsV RX0 110 RX0 yX0_has wsX0_has) := goodIn_app (goodIn_of _ (by decide +kernel)) ggX0_dropPage_X0_has
set_option maxRecDepth 20000 in
theorem ggX0_dropPage_X0_reaches : GoodIn wsX0_dropPage wsX0_reaches := goodIn_r _ [13, 14, 15, 16, 17, 18, 19, 20, 21, 22, 23, 24, 25, 26, 27] (by decide +kernel) (by decide +kernel)
set_option maxRecDepth 20000 in
theorem gX0_dropPage_X0_reaches : GoodIn wsX0_dropPage (wsV RX0 113 RX0 yX0_reaches wsX0_reaches) := goodIn_app (goodIn_of _ (by decide +kernel)) ggX0_dropPage_X0_reaches
theorem dX0_dropPage_0 : decode cX0_dropPage 0 = .ok (.aload_n 0, 1) := by decide +kernel
theorem dX0_dropPage_1 : decode cX0_dropPage 1 = .ok (.getfield 63, 3) := by decide +kernel
theorem dX0_dropPage_4 : decode cX0_dropPage 4 = .ok (.istore_n 2, 1) := by decide +kernel
theorem dX0_dropPage_5 : decode cX0_dropPage 5 = .ok (.iload_n 1, 1) := by decide +kernel
theorem dX0_dropPage_6 : decode cX0_dropPage 6 = .ok (.bipush 32, 2) := by decide +kernel
theorem dX0_dropPage_8 : decode cX0_dropPage 8 = .ok (.imul, 1) := by decide +kernel
theorem dX0_dropPage_9 : decode cX0_dropPage 9 = .ok (.bipush 15, 2) := by decide +kernel
theorem dX0_dropPage_11 : decode cX0_dropPage 11 = .ok (.isub, 1) := by decide +kernel
theorem dX0_dropPage_12 : decode cX0_dropPage 12 = .ok (.istore_n 3, 1) := by decide +kernel
theorem dX0_dropPage_13 : decode cX0_dropPage 13 = .ok (.iconst 0, 1) := by decide +kernel
theorem dX0_dropPage_14 : decode cX0_dropPage 14 = .ok (.istore 4, 2) := by decide +kernel
theorem dX0_dropPage_16 : decode cX0_dropPage 16 = .ok (.iload 4, 2) := by decide +kernel
theorem dX0_dropPage_18 : decode cX0_dropPage 18 = .ok (.bipush 47, 2) := by decide +kernel
theorem dX0_dropPage_20 : decode cX0_dropPage 20 = .ok (.if_icmp .ge 72, 3) := by decide +kernel
theorem dX0_dropPage_23 : decode cX0_dropPage 23 = .ok (.iload_n 3, 1) := by decide +kernel
theorem dX0_dropPage_24 : decode cX0_dropPage 24 = .ok (.iload 4, 2) := by decide +kernel
theorem dX0_dropPage_26 : decode cX0_dropPage 26 = .ok (.iadd, 1) := by decide +kernel
theorem dX0_dropPage_27 : decode cX0_dropPage 27 = .ok (.sipush 255, 3) := by decide +kernel
theorem dX0_dropPage_30 : decode cX0_dropPage 30 = .ok (.iand, 1) := by decide +kernel
theorem dX0_dropPage_31 : decode cX0_dropPage 31 = .ok (.istore 5, 2) := by decide +kernel
theorem dX0_dropPage_33 : decode cX0_dropPage 33 = .ok (.aload_n 0, 1) := by decide +kernel
theorem dX0_dropPage_34 : decode cX0_dropPage 34 = .ok (.iload 5, 2) := by decide +kernel
theorem dX0_dropPage_36 : decode cX0_dropPage 36 = .ok (.invokevirtual 110, 3) := by decide +kernel
theorem dX0_dropPage_39 : decode cX0_dropPage 39 = .ok (.ifCond .eq 47, 3) := by decide +kernel
theorem dX0_dropPage_42 : decode cX0_dropPage 42 = .ok (.aload_n 0, 1) := by decide +kernel
theorem dX0_dropPage_43 : decode cX0_dropPage 43 = .ok (.iload 5, 2) := by decide +kernel
theorem dX0_dropPage_45 : decode cX0_dropPage 45 = .ok (.iload_n 1, 1) := by decide +kernel
theorem dX0_dropPage_46 : decode cX0_dropPage 46 = .ok (.invokevirtual 113, 3) := by decide +kernel
theorem dX0_dropPage_49 : decode cX0_dropPage 49 = .ok (.ifCond .eq 37, 3) := by decide +kernel
theorem dX0_dropPage_52 : decode cX0_dropPage 52 = .ok (.aload_n 0, 1) := by decide +kernel
theorem dX0_dropPage_53 : decode cX0_dropPage 53 = .ok (.getfield 24, 3) := by decide +kernel
theorem dX0_dropPage_56 : decode cX0_dropPage 56 = .ok (.iload 5, 2) := by decide +kernel
theorem dX0_dropPage_58 : decode cX0_dropPage 58 = .ok (.iconst 0, 1) := by decide +kernel
theorem dX0_dropPage_59 : decode cX0_dropPage 59 = .ok (.iastore, 1) := by decide +kernel
theorem dX0_dropPage_60 : decode cX0_dropPage 60 = .ok (.aload_n 0, 1) := by decide +kernel
theorem dX0_dropPage_61 : decode cX0_dropPage 61 = .ok (.dup, 1) := by decide +kernel
theorem dX0_dropPage_62 : decode cX0_dropPage 62 = .ok (.getfield 63, 3) := by decide +kernel
theorem dX0_dropPage_65 : decode cX0_dropPage 65 = .ok (.iconst 1, 1) := by decide +kernel
theorem dX0_dropPage_66 : decode cX0_dropPage 66 = .ok (.isub, 1) := by decide +kernel
theorem dX0_dropPage_67 : decode cX0_dropPage 67 = .ok (.putfield 63, 3) := by decide +kernel
theorem dX0_dropPage_70 : decode cX0_dropPage 70 = .ok (.aload_n 0, 1) := by decide +kernel
theorem dX0_dropPage_71 : decode cX0_dropPage 71 = .ok (.dup, 1) := by decide +kernel
theorem dX0_dropPage_72 : decode cX0_dropPage 72 = .ok (.getfield 48, 3) := by decide +kernel
theorem dX0_dropPage_75 : decode cX0_dropPage 75 = .ok (.aload_n 0, 1) := by decide +kernel
theorem dX0_dropPage_76 : decode cX0_dropPage 76 = .ok (.getfield 21, 3) := by decide +kernel
theorem dX0_dropPage_79 : decode cX0_dropPage 79 = .ok (.iload 5, 2) := by decide +kernel
theorem dX0_dropPage_81 : decode cX0_dropPage 81 = .ok (.iaload, 1) := by decide +kernel
theorem dX0_dropPage_82 : decode cX0_dropPage 82 = .ok (.isub, 1) := by decide +kernel
theorem dX0_dropPage_83 : decode cX0_dropPage 83 = .ok (.putfield 48, 3) := by decide +kernel
theorem dX0_dropPage_86 : decode cX0_dropPage 86 = .ok (.iinc 4 1, 3) := by decide +kernel
theorem dX0_dropPage_89 : decode cX0_dropPage 89 = .ok (.goto (-73), 3) := by decide +kernel
theorem dX0_dropPage_92 : decode cX0_dropPage 92 = .ok (.iload_n 2, 1) := by decide +kernel
theorem dX0_dropPage_93 : decode cX0_dropPage 93 = .ok (.aload_n 0, 1) := by decide +kernel
theorem dX0_dropPage_94 : decode cX0_dropPage 94 = .ok (.getfield 63, 3) := by decide +kernel
theorem dX0_dropPage_97 : decode cX0_dropPage 97 = .ok (.isub, 1) := by decide +kernel
theorem dX0_dropPage_98 : decode cX0_dropPage 98 = .ok (.ireturn, 1) := by decide +kernel
theorem dX0_reaches_0 : decode cX0_reaches 0 = .ok (.aload_n 0, 1) := by decide +kernel
theorem dX0_reaches_1 : decode cX0_reaches 1 = .ok (.getfield 18, 3) := by decide +kernel
theorem dX0_reaches_4 : decode cX0_reaches 4 = .ok (.iload_n 1, 1) := by decide +kernel
theorem dX0_reaches_5 : decode cX0_reaches 5 = .ok (.iaload, 1) := by decide +kernel
theorem dX0_reaches_6 : decode cX0_reaches 6 = .ok (.iconst 1, 1) := by decide +kernel
theorem dX0_reaches_7 : decode cX0_reaches 7 = .ok (.isub, 1) := by decide +kernel
theorem dX0_reaches_8 : decode cX0_reaches 8 = .ok (.sipush 255, 3) := by decide +kernel
theorem dX0_reaches_11 : decode cX0_reaches 11 = .ok (.iand, 1) := by decide +kernel
theorem dX0_reaches_12 : decode cX0_reaches 12 = .ok (.istore_n 3, 1) := by decide +kernel
theorem dX0_reaches_13 : decode cX0_reaches 13 = .ok (.iload_n 1, 1) := by decide +kernel
theorem dX0_reaches_14 : decode cX0_reaches 14 = .ok (.bipush 32, 2) := by decide +kernel
theorem dX0_reaches_16 : decode cX0_reaches 16 = .ok (.idiv, 1) := by decide +kernel
theorem dX0_reaches_17 : decode cX0_reaches 17 = .ok (.iload_n 2, 1) := by decide +kernel
theorem dX0_reaches_18 : decode cX0_reaches 18 = .ok (.if_icmp .eq 11, 3) := by decide +kernel
theorem dX0_reaches_21 : decode cX0_reaches 21 = .ok (.iload_n 3, 1) := by decide +kernel
theorem dX0_reaches_22 : decode cX0_reaches 22 = .ok (.bipush 32, 2) := by decide +kernel
theorem dX0_reaches_24 : decode cX0_reaches 24 = .ok (.idiv, 1) := by decide +kernel
theorem dX0_reaches_25 : decode cX0_reaches 25 = .ok (.iload_n 2, 1) := by decide +kernel
theorem dX0_reaches_26 : decode cX0_reaches 26 = .ok (.if_icmp .ne 7, 3) := by decide +kernel
theorem dX0_reaches_29 : decode cX0_reaches 29 = .ok (.iconst 1, 1) := by decide +kernel
theorem dX0_reaches_30 : decode cX0_reaches 30 = .ok (.goto 4, 3) := by decide +kernel
theorem dX0_reaches_33 : decode cX0_reaches 33 = .ok (.iconst 0, 1) := by decide +kernel
theorem dX0_reaches_34 : decode cX0_reaches 34 = .ok (.ireturn, 1) := by decide +kernel
set_option maxRecDepth 20000 in
theorem ggX0_empty_J7_fill_53178 : GoodIn wsX0_empty wsJ7_fill_53178 := goodIn_r _ [7] (by decide +kernel) (by decide +kernel)
set_option maxRecDepth 20000 in
theorem gX0_empty_J7_fill_53178 : GoodIn wsX0_empty (va_wsS RX0 117 yJ7_fill_53178 wsJ7_fill_53178) := goodIn_app (goodIn_of _ (by decide +kernel)) ggX0_empty_J7_fill_53178
theorem dX0_empty_0 : decode cX0_empty 0 = .ok (.aload_n 0, 1) := by decide +kernel
theorem dX0_empty_1 : decode cX0_empty 1 = .ok (.getfield 24, 3) := by decide +kernel
theorem dX0_empty_4 : decode cX0_empty 4 = .ok (.iconst 0, 1) := by decide +kernel
theorem dX0_empty_5 : decode cX0_empty 5 = .ok (.invokestatic 117, 3) := by decide +kernel
theorem dX0_empty_8 : decode cX0_empty 8 = .ok (.aload_n 0, 1) := by decide +kernel
theorem dX0_empty_9 : decode cX0_empty 9 = .ok (.iconst 0, 1) := by decide +kernel
theorem dX0_empty_10 : decode cX0_empty 10 = .ok (.putfield 63, 3) := by decide +kernel
theorem dX0_empty_13 : decode cX0_empty 13 = .ok (.aload_n 0, 1) := by decide +kernel
theorem dX0_empty_14 : decode cX0_empty 14 = .ok (.iconst 0, 1) := by decide +kernel
theorem dX0_empty_15 : decode cX0_empty 15 = .ok (.putfield 48, 3) := by decide +kernel
theorem dX0_empty_18 : decode cX0_empty 18 = .ok (.return_, 1) := by decide +kernel
set_option maxRecDepth 20000 in
theorem ggX1_decode_X1_kindOf : GoodIn wsX1_decode wsX1_kindOf := goodIn_r _ [4] (by decide +kernel) (by decide +kernel)
set_option maxRecDepth 20000 in
theorem gX1_decode_X1_kindOf : GoodIn wsX1_decode (va_wsS RX1 7 yX1_kindOf wsX1_kindOf) := goodIn_app (goodIn_of _ (by decide +kernel)) ggX1_decode_X1_kindOf
theorem dX1_decode_0 : decode cX1_decode 0 = .ok (.aload_n 0, 1) := by decide +kernel
theorem dX1_decode_1 : decode cX1_decode 1 = .ok (.iload_n 1, 1) := by decide +kernel
theorem dX1_decode_2 : decode cX1_decode 2 = .ok (.sipush 255, 3) := by decide +kernel
theorem dX1_decode_5 : decode cX1_decode 5 = .ok (.iand, 1) := by decide +kernel
theorem dX1_decode_6 : decode cX1_decode 6 = .ok (.iaload, 1) := by decide +kernel
theorem dX1_decode_7 : decode cX1_decode 7 = .ok (.istore_n 2, 1) := by decide +kernel
theorem dX1_decode_8 : decode cX1_decode 8 = .ok (.aload_n 0, 1) := by decide +kernel
theorem dX1_decode_9 : decode cX1_decode 9 = .ok (.iload_n 1, 1) := by decide +kernel
theorem dX1_decode_10 : decode cX1_decode 10 = .ok (.iconst 1, 1) := by decide +kernel
theorem dX1_decode_11 : decode cX1_decode 11 = .ok (.iadd, 1) := by decide +kernel
theorem dX1_decode_12 : decode cX1_decode 12 = .ok (.sipush 255, 3) := by decide +kernel
theorem dX1_decode_15 : decode cX1_decode 15 = .ok (.iand, 1) := by decide +kernel
theorem dX1_decode_16 : decode cX1_decode 16 = .ok (.iaload, 1) := by decide +kernel
theorem dX1_decode_17 : decode cX1_decode 17 = .ok (.istore_n 3, 1) := by decide +kernel
theorem dX1_decode_18 : decode cX1_decode 18 = .ok (.iload_n 2, 1) := by decide +kernel
theorem dX1_decode_19 : decode cX1_decode 19 = .ok (.invokestatic 7, 3) := by decide +kernel
theorem dX1_decode_22 : decode cX1_decode 22 = .ok (.bipush 12, 2) := by decide +kernel
theorem dX1_decode_24 : decode cX1_decode 24 = .ok (.ishl, 1) := by decide +kernel
theorem dX1_decode_25 : decode cX1_decode 25 = .ok (.iload_n 2, 1) := by decide +kernel
theorem dX1_decode_26 : decode cX1_decode 26 = .ok (.bipush 15, 2) := by decide +kernel
theorem dX1_decode_28 : decode cX1_decode 28 = .ok (.iand, 1) := by decide +kernel
theorem dX1_decode_29 : decode cX1_decode 29 = .ok (.bipush 8, 2) := by decide +kernel
theorem dX1_decode_31 : decode cX1_decode 31 = .ok (.ishl, 1) := by decide +kernel
theorem dX1_decode_32 : decode cX1_decode 32 = .ok (.ior, 1) := by decide +kernel
theorem dX1_decode_33 : decode cX1_decode 33 = .ok (.iload_n 3, 1) := by decide +kernel
theorem dX1_decode_34 : decode cX1_decode 34 = .ok (.ior, 1) := by decide +kernel
theorem dX1_decode_35 : decode cX1_decode 35 = .ok (.ireturn, 1) := by decide +kernel
theorem dX1_kindOf_0 : decode cX1_kindOf 0 = .ok (.iload_n 0, 1) := by decide +kernel
theorem dX1_kindOf_1 : decode cX1_kindOf 1 = .ok (.iconst 4, 1) := by decide +kernel
theorem dX1_kindOf_2 : decode cX1_kindOf 2 = .ok (.ishr, 1) := by decide +kernel
theorem dX1_kindOf_3 : decode cX1_kindOf 3 = .ok (.istore_n 1, 1) := by decide +kernel
theorem dX1_kindOf_4 : decode cX1_kindOf 4 = .ok (.iload_n 0, 1) := by decide +kernel
theorem dX1_kindOf_5 : decode cX1_kindOf 5 = .ok (.bipush 15, 2) := by decide +kernel
theorem dX1_kindOf_7 : decode cX1_kindOf 7 = .ok (.iand, 1) := by decide +kernel
theorem dX1_kindOf_8 : decode cX1_kindOf 8 = .ok (.istore_n 2, 1) := by decide +kernel
theorem dX1_kindOf_9 : decode cX1_kindOf 9 = .ok (.iload_n 0, 1) := by decide +kernel
theorem dX1_kindOf_10 : decode cX1_kindOf 10 = .ok (.iconst 3, 1) := by decide +kernel
theorem dX1_kindOf_11 : decode cX1_kindOf 11 = .ok (.iand, 1) := by decide +kernel
theorem dX1_kindOf_12 : decode cX1_kindOf 12 = .ok (.istore_n 3, 1) := by decide +kernel
theorem dX1_kindOf_13 : decode cX1_kindOf 13 = .ok (.iload_n 1, 1) := by decide +kernel
theorem dX1_kindOf_14 : decode cX1_kindOf 14 = .ok (.tableswitch 182 0 15 #[78, 182, 182, 182, 182, 182, 182, 182, 91, 96, 101, 104, 107, 129, 150, 171], 78) := by decide +kernel
theorem dX1_kindOf_92 : decode cX1_kindOf 92 = .ok (.iload_n 2, 1) := by decide +kernel
theorem dX1_kindOf_93 : decode cX1_kindOf 93 = .ok (.iconst 4, 1) := by decide +kernel
theorem dX1_kindOf_94 : decode cX1_kindOf 94 = .ok (.if_icmp .gt 9, 3) := by decide +kernel
theorem dX1_kindOf_97 : decode cX1_kindOf 97 = .ok (.iconst 1, 1) := by decide +kernel
theorem dX1_kindOf_98 : decode cX1_kindOf 98 = .ok (.iload_n 2, 1) := by decide +kernel
theorem dX1_kindOf_99 : decode cX1_kindOf 99 = .ok (.iadd, 1) := by decide +kernel
theorem dX1_kindOf_100 : decode cX1_kindOf 100 = .ok (.goto 4, 3) := by decide +kernel
theorem dX1_kindOf_103 : decode cX1_kindOf 103 = .ok (.iconst 0, 1) := by decide +kernel
theorem dX1_kindOf_104 : decode cX1_kindOf 104 = .ok (.ireturn, 1) := by decide +kernel
theorem dX1_kindOf_105 : decode cX1_kindOf 105 = .ok (.bipush 13, 2) := by decide +kernel
theorem dX1_kindOf_107 : decode cX1_kindOf 107 = .ok (.iload_n 3, 1) := by decide +kernel
theorem dX1_kindOf_108 : decode cX1_kindOf 108 = .ok (.iadd, 1) := by decide +kernel
theorem dX1_kindOf_109 : decode cX1_kindOf 109 = .ok (.ireturn, 1) := by decide +kernel
theorem dX1_kindOf_110 : decode cX1_kindOf 110 = .ok (.bipush 17, 2) := by decide +kernel
theorem dX1_kindOf_112 : decode cX1_kindOf 112 = .ok (.iload_n 3, 1) := by decide +kernel
theorem dX1_kindOf_113 : decode cX1_kindOf 113 = .ok (.iadd, 1) := by decide +kernel
theorem dX1_kindOf_114 : decode cX1_kindOf 114 = .ok (.ireturn, 1) := by decide +kernel
theorem dX1_kindOf_115 : decode cX1_kindOf 115 = .ok (.bipush 21, 2) := by decide +kernel
theorem dX1_kindOf_117 : decode cX1_kindOf 117 = .ok (.ireturn, 1) := by decide +kernel
theorem dX1_kindOf_118 : decode cX1_kindOf 118 = .ok (.bipush 22, 2) := by decide +kernel
theorem dX1_kindOf_120 : decode cX1_kindOf 120 = .ok (.ireturn, 1) := by decide +kernel
theorem dX1_kindOf_121 : decode cX1_kindOf 121 = .ok (.iload_n 2, 1) := by decide +kernel
theorem dX1_kindOf_122 : decode cX1_kindOf 122 = .ok (.ifCond .ne 8, 3) := by decide +kernel
theorem dX1_kindOf_125 : decode cX1_kindOf 125 = .ok (.bipush 23, 2) := by decide +kernel
theorem dX1_kindOf_127 : decode cX1_kindOf 127 = .ok (.goto 15, 3) := by decide +kernel
theorem dX1_kindOf_130 : decode cX1_kindOf 130 = .ok (.iload_n 2, 1) := by decide +kernel
theorem dX1_kindOf_131 : decode cX1_kindOf 131 = .ok (.bipush 6, 2) := by decide +kernel
theorem dX1_kindOf_133 : decode cX1_kindOf 133 = .ok (.if_icmp .gt 8, 3) := by decide +kernel
theorem dX1_kindOf_136 : decode cX1_kindOf 136 = .ok (.bipush 24, 2) := by decide +kernel
theorem dX1_kindOf_138 : decode cX1_kindOf 138 = .ok (.goto 4, 3) := by decide +kernel
theorem dX1_kindOf_141 : decode cX1_kindOf 141 = .ok (.iconst 0, 1) := by decide +kernel
theorem dX1_kindOf_142 : decode cX1_kindOf 142 = .ok (.ireturn, 1) := by decide +kernel
