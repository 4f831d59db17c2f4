theorem dX1_kindOf_143 : decode cX1_kindOf 143 = .ok (.iload_n 2, 1) := by decide +kernel
theorem dX1_kindOf_144 : decode cX1_kindOf 144 = .ok (.ifCond .ne 8, 3) := by decide +kernel
theorem dX1_kindOf_147 : decode cX1_kindOf 147 = .ok (.bipush 25, 2) := by decide +kernel
theorem dX1_kindOf_149 : decode cX1_kindOf 149 = .ok (.goto 14, 3) := by decide +kernel
theorem dX1_kindOf_152 : decode cX1_kindOf 152 = .ok (.iload_n 2, 1) := by decide +kernel
theorem dX1_kindOf_153 : decode cX1_kindOf 153 = .ok (.iconst 1, 1) := by decide +kernel
theorem dX1_kindOf_154 : decode cX1_kindOf 154 = .ok (.if_icmp .ne 8, 3) := by decide +kernel
theorem dX1_kindOf_157 : decode cX1_kindOf 157 = .ok (.bipush 26, 2) := by decide +kernel
theorem dX1_kindOf_159 : decode cX1_kindOf 159 = .ok (.goto 4, 3) := by decide +kernel
theorem dX1_kindOf_162 : decode cX1_kindOf 162 = .ok (.iconst 0, 1) := by decide +kernel
theorem dX1_kindOf_163 : decode cX1_kindOf 163 = .ok (.ireturn, 1) := by decide +kernel
theorem dX1_kindOf_164 : decode cX1_kindOf 164 = .ok (.iload_n 3, 1) := by decide +kernel
theorem dX1_kindOf_165 : decode cX1_kindOf 165 = .ok (.ifCond .ne 8, 3) := by decide +kernel
theorem dX1_kindOf_168 : decode cX1_kindOf 168 = .ok (.bipush 27, 2) := by decide +kernel
theorem dX1_kindOf_170 : decode cX1_kindOf 170 = .ok (.goto 14, 3) := by decide +kernel
theorem dX1_kindOf_173 : decode cX1_kindOf 173 = .ok (.iload_n 3, 1) := by decide +kernel
theorem dX1_kindOf_174 : decode cX1_kindOf 174 = .ok (.iconst 1, 1) := by decide +kernel
theorem dX1_kindOf_175 : decode cX1_kindOf 175 = .ok (.if_icmp .ne 8, 3) := by decide +kernel
theorem dX1_kindOf_178 : decode cX1_kindOf 178 = .ok (.bipush 28, 2) := by decide +kernel
theorem dX1_kindOf_180 : decode cX1_kindOf 180 = .ok (.goto 4, 3) := by decide +kernel
theorem dX1_kindOf_183 : decode cX1_kindOf 183 = .ok (.iconst 0, 1) := by decide +kernel
theorem dX1_kindOf_184 : decode cX1_kindOf 184 = .ok (.ireturn, 1) := by decide +kernel
theorem dX1_kindOf_185 : decode cX1_kindOf 185 = .ok (.iload_n 3, 1) := by decide +kernel
theorem dX1_kindOf_186 : decode cX1_kindOf 186 = .ok (.ifCond .ne 8, 3) := by decide +kernel
theorem dX1_kindOf_189 : decode cX1_kindOf 189 = .ok (.bipush 29, 2) := by decide +kernel
theorem dX1_kindOf_191 : decode cX1_kindOf 191 = .ok (.goto 4, 3) := by decide +kernel
theorem dX1_kindOf_194 : decode cX1_kindOf 194 = .ok (.iconst 0, 1) := by decide +kernel
theorem dX1_kindOf_195 : decode cX1_kindOf 195 = .ok (.ireturn, 1) := by decide +kernel
theorem dX1_kindOf_196 : decode cX1_kindOf 196 = .ok (.bipush 6, 2) := by decide +kernel
theorem dX1_kindOf_198 : decode cX1_kindOf 198 = .ok (.iload_n 1, 1) := by decide +kernel
theorem dX1_kindOf_199 : decode cX1_kindOf 199 = .ok (.iadd, 1) := by decide +kernel
theorem dX1_kindOf_200 : decode cX1_kindOf 200 = .ok (.iconst 1, 1) := by decide +kernel
theorem dX1_kindOf_201 : decode cX1_kindOf 201 = .ok (.isub, 1) := by decide +kernel
theorem dX1_kindOf_202 : decode cX1_kindOf 202 = .ok (.ireturn, 1) := by decide +kernel
theorem dX1_kind_0 : decode cX1_kind 0 = .ok (.iload_n 0, 1) := by decide +kernel
theorem dX1_kind_1 : decode cX1_kind 1 = .ok (.bipush 12, 2) := by decide +kernel
theorem dX1_kind_3 : decode cX1_kind 3 = .ok (.ishr, 1) := by decide +kernel
theorem dX1_kind_4 : decode cX1_kind 4 = .ok (.bipush 31, 2) := by decide +kernel
theorem dX1_kind_6 : decode cX1_kind 6 = .ok (.iand, 1) := by decide +kernel
theorem dX1_kind_7 : decode cX1_kind 7 = .ok (.ireturn, 1) := by decide +kernel
theorem dX1_w_0 : decode cX1_w 0 = .ok (.iload_n 0, 1) := by decide +kernel
theorem dX1_w_1 : decode cX1_w 1 = .ok (.bipush 8, 2) := by decide +kernel
theorem dX1_w_3 : decode cX1_w 3 = .ok (.ishr, 1) := by decide +kernel
theorem dX1_w_4 : decode cX1_w 4 = .ok (.bipush 15, 2) := by decide +kernel
theorem dX1_w_6 : decode cX1_w 6 = .ok (.iand, 1) := by decide +kernel
theorem dX1_w_7 : decode cX1_w 7 = .ok (.ireturn, 1) := by decide +kernel
theorem dX1_d_0 : decode cX1_d 0 = .ok (.iload_n 0, 1) := by decide +kernel
theorem dX1_d_1 : decode cX1_d 1 = .ok (.bipush 10, 2) := by decide +kernel
theorem dX1_d_3 : decode cX1_d 3 = .ok (.ishr, 1) := by decide +kernel
theorem dX1_d_4 : decode cX1_d 4 = .ok (.iconst 3, 1) := by decide +kernel
theorem dX1_d_5 : decode cX1_d 5 = .ok (.iand, 1) := by decide +kernel
theorem dX1_d_6 : decode cX1_d 6 = .ok (.ireturn, 1) := by decide +kernel
theorem dX1_s_0 : decode cX1_s 0 = .ok (.iload_n 0, 1) := by decide +kernel
theorem dX1_s_1 : decode cX1_s 1 = .ok (.bipush 8, 2) := by decide +kernel
theorem dX1_s_3 : decode cX1_s 3 = .ok (.ishr, 1) := by decide +kernel
theorem dX1_s_4 : decode cX1_s 4 = .ok (.iconst 3, 1) := by decide +kernel
theorem dX1_s_5 : decode cX1_s 5 = .ok (.iand, 1) := by decide +kernel
theorem dX1_s_6 : decode cX1_s 6 = .ok (.ireturn, 1) := by decide +kernel
theorem dX1_n_0 : decode cX1_n 0 = .ok (.iload_n 0, 1) := by decide +kernel
theorem dX1_n_1 : decode cX1_n 1 = .ok (.sipush 255, 3) := by decide +kernel
theorem dX1_n_4 : decode cX1_n 4 = .ok (.iand, 1) := by decide +kernel
theorem dX1_n_5 : decode cX1_n 5 = .ok (.ireturn, 1) := by decide +kernel
theorem dX1_isDead_0 : decode cX1_isDead 0 = .ok (.iload_n 0, 1) := by decide +kernel
theorem dX1_isDead_1 : decode cX1_isDead 1 = .ok (.ldc 13, 2) := by decide +kernel
theorem dX1_isDead_3 : decode cX1_isDead 3 = .ok (.iand, 1) := by decide +kernel
theorem dX1_isDead_4 : decode cX1_isDead 4 = .ok (.ifCond .eq 7, 3) := by decide +kernel
theorem dX1_isDead_7 : decode cX1_isDead 7 = .ok (.iconst 1, 1) := by decide +kernel
theorem dX1_isDead_8 : decode cX1_isDead 8 = .ok (.goto 4, 3) := by decide +kernel
theorem dX1_isDead_11 : decode cX1_isDead 11 = .ok (.iconst 0, 1) := by decide +kernel
theorem dX1_isDead_12 : decode cX1_isDead 12 = .ok (.ireturn, 1) := by decide +kernel
theorem dX1_asDead_0 : decode cX1_asDead 0 = .ok (.iload_n 0, 1) := by decide +kernel
theorem dX1_asDead_1 : decode cX1_asDead 1 = .ok (.ldc 13, 2) := by decide +kernel
theorem dX1_asDead_3 : decode cX1_asDead 3 = .ok (.ior, 1) := by decide +kernel
theorem dX1_asDead_4 : decode cX1_asDead 4 = .ok (.ireturn, 1) := by decide +kernel
theorem dX1_bytes_0 : decode cX1_bytes 0 = .ok (.iload_n 0, 1) := by decide +kernel
theorem dX1_bytes_1 : decode cX1_bytes 1 = .ok (.tableswitch 69 17 29 #[67, 67, 67, 67, 67, 67, 67, 67, 67, 69, 69, 69, 67], 67) := by decide +kernel
theorem dX1_bytes_68 : decode cX1_bytes 68 = .ok (.iconst 2, 1) := by decide +kernel
theorem dX1_bytes_69 : decode cX1_bytes 69 = .ok (.ireturn, 1) := by decide +kernel
theorem dX1_bytes_70 : decode cX1_bytes 70 = .ok (.iconst 1, 1) := by decide +kernel
theorem dX1_bytes_71 : decode cX1_bytes 71 = .ok (.ireturn, 1) := by decide +kernel
set_option maxRecDepth 100000 in
theorem ggX1_endsBlock_X1_leavesByItself : GoodIn wsX1_endsBlock wsX1_leavesByItself := goodIn_r _ [4] rfl (by decide +kernel)
set_option maxRecDepth 100000 in
theorem gX1_endsBlock_X1_leavesByItself : GoodIn wsX1_endsBlock (va_wsS RX1 14 yX1_leavesByItself wsX1_leavesByItself) := goodIn_app (goodIn_of _ (by decide +kernel)) ggX1_endsBlock_X1_leavesByItself
theorem dX1_endsBlock_0 : decode cX1_endsBlock 0 = .ok (.iload_n 0, 1) := by decide +kernel
theorem dX1_endsBlock_1 : decode cX1_endsBlock 1 = .ok (.iconst 4, 1) := by decide +kernel
theorem dX1_endsBlock_2 : decode cX1_endsBlock 2 = .ok (.if_icmp .eq 10, 3) := by decide +kernel
theorem dX1_endsBlock_5 : decode cX1_endsBlock 5 = .ok (.iload_n 0, 1) := by decide +kernel
theorem dX1_endsBlock_6 : decode cX1_endsBlock 6 = .ok (.invokestatic 14, 3) := by decide +kernel
theorem dX1_endsBlock_9 : decode cX1_endsBlock 9 = .ok (.ifCond .eq 7, 3) := by decide +kernel
theorem dX1_endsBlock_12 : decode cX1_endsBlock 12 = .ok (.iconst 1, 1) := by decide +kernel
theorem dX1_endsBlock_13 : decode cX1_endsBlock 13 = .ok (.goto 4, 3) := by decide +kernel
theorem dX1_endsBlock_16 : decode cX1_endsBlock 16 = .ok (.iconst 0, 1) := by decide +kernel
theorem dX1_endsBlock_17 : decode cX1_endsBlock 17 = .ok (.ireturn, 1) := by decide +kernel
theorem dX1_leavesByItself_0 : decode cX1_leavesByItself 0 = .ok (.iload_n 0, 1) := by decide +kernel
theorem dX1_leavesByItself_1 : decode cX1_leavesByItself 1 = .ok (.lookupswitch 61 #[(1, 59), (23, 59), (24, 59), (25, 59), (26, 59), (29, 59)], 59) := by decide +kernel
theorem dX1_leavesByItself_60 : decode cX1_leavesByItself 60 = .ok (.iconst 1, 1) := by decide +kernel
theorem dX1_leavesByItself_61 : decode cX1_leavesByItself 61 = .ok (.ireturn, 1) := by decide +kernel
theorem dX1_leavesByItself_62 : decode cX1_leavesByItself 62 = .ok (.iconst 0, 1) := by decide +kernel
theorem dX1_leavesByItself_63 : decode cX1_leavesByItself 63 = .ok (.ireturn, 1) := by decide +kernel
theorem dX1_makesFlags_0 : decode cX1_makesFlags 0 = .ok (.iload_n 0, 1) := by decide +kernel
theorem dX1_makesFlags_1 : decode cX1_makesFlags 1 = .ok (.bipush 7, 2) := by decide +kernel
theorem dX1_makesFlags_3 : decode cX1_makesFlags 3 = .ok (.if_icmp .lt 9, 3) := by decide +kernel
theorem dX1_makesFlags_6 : decode cX1_makesFlags 6 = .ok (.iload_n 0, 1) := by decide +kernel
theorem dX1_makesFlags_7 : decode cX1_makesFlags 7 = .ok (.bipush 16, 2) := by decide +kernel
theorem dX1_makesFlags_9 : decode cX1_makesFlags 9 = .ok (.if_icmp .le 15, 3) := by decide +kernel
theorem dX1_makesFlags_12 : decode cX1_makesFlags 12 = .ok (.iload_n 0, 1) := by decide +kernel
theorem dX1_makesFlags_13 : decode cX1_makesFlags 13 = .ok (.bipush 18, 2) := by decide +kernel
theorem dX1_makesFlags_15 : decode cX1_makesFlags 15 = .ok (.if_icmp .lt 13, 3) := by decide +kernel
theorem dX1_makesFlags_18 : decode cX1_makesFlags 18 = .ok (.iload_n 0, 1) := by decide +kernel
theorem dX1_makesFlags_19 : decode cX1_makesFlags 19 = .ok (.bipush 20, 2) := by decide +kernel
theorem dX1_makesFlags_21 : decode cX1_makesFlags 21 = .ok (.if_icmp .gt 7, 3) := by decide +kernel
theorem dX1_makesFlags_24 : decode cX1_makesFlags 24 = .ok (.iconst 1, 1) := by decide +kernel
theorem dX1_makesFlags_25 : decode cX1_makesFlags 25 = .ok (.goto 4, 3) := by decide +kernel
theorem dX1_makesFlags_28 : decode cX1_makesFlags 28 = .ok (.iconst 0, 1) := by decide +kernel
theorem dX1_makesFlags_29 : decode cX1_makesFlags 29 = .ok (.ireturn, 1) := by decide +kernel
theorem dX1_onlyCompares_0 : decode cX1_onlyCompares 0 = .ok (.iload_n 0, 1) := by decide +kernel
theorem dX1_onlyCompares_1 : decode cX1_onlyCompares 1 = .ok (.bipush 10, 2) := by decide +kernel
theorem dX1_onlyCompares_3 : decode cX1_onlyCompares 3 = .ok (.if_icmp .eq 9, 3) := by decide +kernel
theorem dX1_onlyCompares_6 : decode cX1_onlyCompares 6 = .ok (.iload_n 0, 1) := by decide +kernel
theorem dX1_onlyCompares_7 : decode cX1_onlyCompares 7 = .ok (.bipush 19, 2) := by decide +kernel
theorem dX1_onlyCompares_9 : decode cX1_onlyCompares 9 = .ok (.if_icmp .ne 7, 3) := by decide +kernel
theorem dX1_onlyCompares_12 : decode cX1_onlyCompares 12 = .ok (.iconst 1, 1) := by decide +kernel
theorem dX1_onlyCompares_13 : decode cX1_onlyCompares 13 = .ok (.goto 4, 3) := by decide +kernel
theorem dX1_onlyCompares_16 : decode cX1_onlyCompares 16 = .ok (.iconst 0, 1) := by decide +kernel
theorem dX1_onlyCompares_17 : decode cX1_onlyCompares 17 = .ok (.ireturn, 1) := by decide +kernel
theorem dX1_needsFlags_0 : decode cX1_needsFlags 0 = .ok (.iload_n 0, 1) := by decide +kernel
theorem dX1_needsFlags_1 : decode cX1_needsFlags 1 = .ok (.tableswitch 97 8 27 #[95, 97, 97, 97, 97, 97, 97, 95, 95, 97, 97, 97, 97, 97, 95, 97, 95, 95, 97, 95], 95) := by decide +kernel
theorem dX1_needsFlags_96 : decode cX1_needsFlags 96 = .ok (.iconst 1, 1) := by decide +kernel
theorem dX1_needsFlags_97 : decode cX1_needsFlags 97 = .ok (.ireturn, 1) := by decide +kernel
theorem dX1_needsFlags_98 : decode cX1_needsFlags 98 = .ok (.iconst 0, 1) := by decide +kernel
theorem dX1_needsFlags_99 : decode cX1_needsFlags 99 = .ok (.ireturn, 1) := by decide +kernel
set_option maxRecDepth 100000 in
theorem ggX1_size_X1_kind : GoodIn wsX1_size wsX1_kind := goodIn_r _ [4] rfl (by decide +kernel)
set_option maxRecDepth 100000 in
theorem gX1_size_X1_kind : GoodIn wsX1_size (va_wsS RX1 18 yX1_kind wsX1_kind) := goodIn_app (goodIn_of _ (by decide +kernel)) ggX1_size_X1_kind
set_option maxRecDepth 100000 in
theorem ggX1_size_X1_makesFlags : GoodIn wsX1_size wsX1_makesFlags := goodIn_r _ [7] rfl (by decide +kernel)
set_option maxRecDepth 100000 in
theorem gX1_size_X1_makesFlags : GoodIn wsX1_size (va_wsS RX1 21 yX1_makesFlags wsX1_makesFlags) := goodIn_app (goodIn_of _ (by decide +kernel)) ggX1_size_X1_makesFlags
set_option maxRecDepth 100000 in
theorem ggX1_size_X1_sizeWithoutFlags : GoodIn wsX1_size wsX1_sizeWithoutFlags := goodIn_r _ [10] rfl (by decide +kernel)
set_option maxRecDepth 100000 in
theorem gX1_size_X1_sizeWithoutFlags : GoodIn wsX1_size (va_wsS RX1 24 yX1_sizeWithoutFlags wsX1_sizeWithoutFlags) := goodIn_app (goodIn_of _ (by decide +kernel)) ggX1_size_X1_sizeWithoutFlags
set_option maxRecDepth 100000 in
theorem ggX1_size_X1_isDead : GoodIn wsX1_size wsX1_isDead := goodIn_r _ [13, 14] rfl (by decide +kernel)
set_option maxRecDepth 100000 in
theorem gX1_size_X1_isDead : GoodIn wsX1_size (va_wsS RX1 27 yX1_isDead wsX1_isDead) := goodIn_app (goodIn_of _ (by decide +kernel)) ggX1_size_X1_isDead
set_option maxRecDepth 100000 in
theorem ggX1_size_X1_onlyCompares : GoodIn wsX1_size wsX1_onlyCompares := goodIn_r _ [17] rfl (by decide +kernel)
set_option maxRecDepth 100000 in
theorem gX1_size_X1_onlyCompares : GoodIn wsX1_size (va_wsS RX1 30 yX1_onlyCompares wsX1_onlyCompares) := goodIn_app (goodIn_of _ (by decide +kernel)) ggX1_size_X1_onlyCompares
theorem dX1_size_0 : decode cX1_size 0 = .ok (.iload_n 0, 1) := by decide +kernel
theorem dX1_size_1 : decode cX1_size 1 = .ok (.invokestatic 18, 3) := by decide +kernel
theorem dX1_size_4 : decode cX1_size 4 = .ok (.istore_n 1, 1) := by decide +kernel
theorem dX1_size_5 : decode cX1_size 5 = .ok (.iload_n 1, 1) := by decide +kernel
theorem dX1_size_6 : decode cX1_size 6 = .ok (.invokestatic 21, 3) := by decide +kernel
theorem dX1_size_9 : decode cX1_size 9 = .ok (.ifCond .ne 8, 3) := by decide +kernel
theorem dX1_size_12 : decode cX1_size 12 = .ok (.iload_n 1, 1) := by decide +kernel
theorem dX1_size_13 : decode cX1_size 13 = .ok (.invokestatic 24, 3) := by decide +kernel
theorem dX1_size_16 : decode cX1_size 16 = .ok (.ireturn, 1) := by decide +kernel
theorem dX1_size_17 : decode cX1_size 17 = .ok (.iload_n 0, 1) := by decide +kernel
theorem dX1_size_18 : decode cX1_size 18 = .ok (.invokestatic 27, 3) := by decide +kernel
theorem dX1_size_21 : decode cX1_size 21 = .ok (.ifCond .eq 19, 3) := by decide +kernel
theorem dX1_size_24 : decode cX1_size 24 = .ok (.iload_n 1, 1) := by decide +kernel
theorem dX1_size_25 : decode cX1_size 25 = .ok (.invokestatic 30, 3) := by decide +kernel
theorem dX1_size_28 : decode cX1_size 28 = .ok (.ifCond .eq 7, 3) := by decide +kernel
theorem dX1_size_31 : decode cX1_size 31 = .ok (.iconst 0, 1) := by decide +kernel
theorem dX1_size_32 : decode cX1_size 32 = .ok (.goto 7, 3) := by decide +kernel
theorem dX1_size_35 : decode cX1_size 35 = .ok (.iload_n 1, 1) := by decide +kernel
theorem dX1_size_36 : decode cX1_size 36 = .ok (.invokestatic 24, 3) := by decide +kernel
theorem dX1_size_39 : decode cX1_size 39 = .ok (.ireturn, 1) := by decide +kernel
theorem dX1_size_40 : decode cX1_size 40 = .ok (.iload_n 1, 1) := by decide +kernel
theorem dX1_size_41 : decode cX1_size 41 = .ok (.invokestatic 24, 3) := by decide +kernel
theorem dX1_size_44 : decode cX1_size 44 = .ok (.iload_n 1, 1) := by decide +kernel
theorem dX1_size_45 : decode cX1_size 45 = .ok (.bipush 16, 2) := by decide +kernel
theorem dX1_size_47 : decode cX1_size 47 = .ok (.if_icmp .ne 7, 3) := by decide +kernel
theorem dX1_size_50 : decode cX1_size 50 = .ok (.iconst 4, 1) := by decide +kernel
theorem dX1_size_51 : decode cX1_size 51 = .ok (.goto 4, 3) := by decide +kernel
theorem dX1_size_54 : decode cX1_size 54 = .ok (.iconst 3, 1) := by decide +kernel
theorem dX1_size_55 : decode cX1_size 55 = .ok (.iadd, 1) := by decide +kernel
theorem dX1_size_56 : decode cX1_size 56 = .ok (.ireturn, 1) := by decide +kernel
theorem dX1_sizeWithoutFlags_0 : decode cX1_sizeWithoutFlags 0 = .ok (.iload_n 0, 1) := by decide +kernel
theorem dX1_sizeWithoutFlags_1 : decode cX1_sizeWithoutFlags 1 = .ok (.tableswitch 113 7 29 #[107, 109, 107, 107, 113, 113, 107, 113, 109, 109, 113, 109, 109, 107, 111, 111, 113, 109, 109, 107, 113, 113, 111], 107) := by decide +kernel
theorem dX1_sizeWithoutFlags_108 : decode cX1_sizeWithoutFlags 108 = .ok (.iconst 2, 1) := by decide +kernel
theorem dX1_sizeWithoutFlags_109 : decode cX1_sizeWithoutFlags 109 = .ok (.ireturn, 1) := by decide +kernel
theorem dX1_sizeWithoutFlags_110 : decode cX1_sizeWithoutFlags 110 = .ok (.iconst 3, 1) := by decide +kernel
theorem dX1_sizeWithoutFlags_111 : decode cX1_sizeWithoutFlags 111 = .ok (.ireturn, 1) := by decide +kernel
theorem dX1_sizeWithoutFlags_112 : decode cX1_sizeWithoutFlags 112 = .ok (.iconst 4, 1) := by decide +kernel
theorem dX1_sizeWithoutFlags_113 : decode cX1_sizeWithoutFlags 113 = .ok (.ireturn, 1) := by decide +kernel
theorem dX1_sizeWithoutFlags_114 : decode cX1_sizeWithoutFlags 114 = .ok (.iconst 1, 1) := by decide +kernel
theorem dX1_sizeWithoutFlags_115 : decode cX1_sizeWithoutFlags 115 = .ok (.ireturn, 1) := by decide +kernel
set_option maxRecDepth 100000 in
theorem ggX2_init_X3_init : GoodIn wsX2_init wsX3_init := goodIn_r _ [15, 16, 2, 3, 4, 17, 24, 25, 26] rfl (by decide +kernel)
set_option maxRecDepth 100000 in
theorem gX2_init_X3_init : GoodIn wsX2_init (wsX3_init) := ggX2_init_X3_init
theorem dX2_init_0 : decode cX2_init 0 = .ok (.aload_n 0, 1) := by decide +kernel
theorem dX2_init_1 : decode cX2_init 1 = .ok (.invokespecial 3, 3) := by decide +kernel
theorem dX2_init_4 : decode cX2_init 4 = .ok (.aload_n 0, 1) := by decide +kernel
theorem dX2_init_5 : decode cX2_init 5 = .ok (.bipush 10, 2) := by decide +kernel
theorem dX2_init_7 : decode cX2_init 7 = .ok (.newarray .int, 2) := by decide +kernel
theorem dX2_init_9 : decode cX2_init 9 = .ok (.putfield 9, 3) := by decide +kernel
theorem dX2_init_12 : decode cX2_init 12 = .ok (.aload_n 0, 1) := by decide +kernel
theorem dX2_init_13 : decode cX2_init 13 = .ok (.sipush 256, 3) := by decide +kernel
theorem dX2_init_16 : decode cX2_init 16 = .ok (.newarray .int, 2) := by decide +kernel
theorem dX2_init_18 : decode cX2_init 18 = .ok (.putfield 15, 3) := by decide +kernel
theorem dX2_init_21 : decode cX2_init 21 = .ok (.aload_n 0, 1) := by decide +kernel
theorem dX2_init_22 : decode cX2_init 22 = .ok (.new 18, 3) := by decide +kernel
theorem dX2_init_25 : decode cX2_init 25 = .ok (.dup, 1) := by decide +kernel
theorem dX2_init_26 : decode cX2_init 26 = .ok (.bipush 32, 2) := by decide +kernel
theorem dX2_init_28 : decode cX2_init 28 = .ok (.invokespecial 20, 3) := by decide +kernel
theorem dX2_init_31 : decode cX2_init 31 = .ok (.putfield 23, 3) := by decide +kernel
theorem dX2_init_34 : decode cX2_init 34 = .ok (.aload_n 0, 1) := by decide +kernel
theorem dX2_init_35 : decode cX2_init 35 = .ok (.bipush 100, 2) := by decide +kernel
theorem dX2_init_37 : decode cX2_init 37 = .ok (.newarray .int, 2) := by decide +kernel
theorem dX2_init_39 : decode cX2_init 39 = .ok (.putfield 27, 3) := by decide +kernel
theorem dX2_init_42 : decode cX2_init 42 = .ok (.aload_n 0, 1) := by decide +kernel
theorem dX2_init_43 : decode cX2_init 43 = .ok (.iconst (-1), 1) := by decide +kernel
theorem dX2_init_44 : decode cX2_init 44 = .ok (.putfield 30, 3) := by decide +kernel
theorem dX2_init_47 : decode cX2_init 47 = .ok (.return_, 1) := by decide +kernel
theorem dX2_outputAt_0 : decode cX2_outputAt 0 = .ok (.iload_n 1, 1) := by decide +kernel
theorem dX2_outputAt_1 : decode cX2_outputAt 1 = .ok (.ifCond .lt 26, 3) := by decide +kernel
theorem dX2_outputAt_4 : decode cX2_outputAt 4 = .ok (.iload_n 1, 1) := by decide +kernel
theorem dX2_outputAt_5 : decode cX2_outputAt 5 = .ok (.aload_n 0, 1) := by decide +kernel
theorem dX2_outputAt_6 : decode cX2_outputAt 6 = .ok (.getfield 34, 3) := by decide +kernel
theorem dX2_outputAt_9 : decode cX2_outputAt 9 = .ok (.if_icmp .ge 18, 3) := by decide +kernel
theorem dX2_outputAt_12 : decode cX2_outputAt 12 = .ok (.iload_n 1, 1) := by decide +kernel
theorem dX2_outputAt_13 : decode cX2_outputAt 13 = .ok (.bipush 100, 2) := by decide +kernel
theorem dX2_outputAt_15 : decode cX2_outputAt 15 = .ok (.if_icmp .ge 12, 3) := by decide +kernel
theorem dX2_outputAt_18 : decode cX2_outputAt 18 = .ok (.aload_n 0, 1) := by decide +kernel
theorem dX2_outputAt_19 : decode cX2_outputAt 19 = .ok (.getfield 27, 3) := by decide +kernel
theorem dX2_outputAt_22 : decode cX2_outputAt 22 = .ok (.iload_n 1, 1) := by decide +kernel
theorem dX2_outputAt_23 : decode cX2_outputAt 23 = .ok (.iaload, 1) := by decide +kernel
theorem dX2_outputAt_24 : decode cX2_outputAt 24 = .ok (.goto 4, 3) := by decide +kernel
theorem dX2_outputAt_27 : decode cX2_outputAt 27 = .ok (.iconst (-1), 1) := by decide +kernel
theorem dX2_outputAt_28 : decode cX2_outputAt 28 = .ok (.ireturn, 1) := by decide +kernel
set_option maxRecDepth 100000 in
theorem ggX2_interrupt_X2_push : GoodIn wsX2_interrupt wsX2_push := goodIn_r _ [6, 1, 7, 8, 9, 5, 10, 11, 12, 13, 14, 15, 16, 17, 18] rfl (by decide +kernel)
set_option maxRecDepth 100000 in
theorem gX2_interrupt_X2_push : GoodIn wsX2_interrupt (wsV RX2 37 RX2 yX2_push wsX2_push) := goodIn_app (goodIn_of _ (by decide +kernel)) ggX2_interrupt_X2_push
theorem dX2_interrupt_0 : decode cX2_interrupt 0 = .ok (.aload_n 0, 1) := by decide +kernel
theorem dX2_interrupt_1 : decode cX2_interrupt 1 = .ok (.getfield 9, 3) := by decide +kernel
theorem dX2_interrupt_4 : decode cX2_interrupt 4 = .ok (.bipush 8, 2) := by decide +kernel
theorem dX2_interrupt_6 : decode cX2_interrupt 6 = .ok (.iconst 0, 1) := by decide +kernel
theorem dX2_interrupt_7 : decode cX2_interrupt 7 = .ok (.iastore, 1) := by decide +kernel
theorem dX2_interrupt_8 : decode cX2_interrupt 8 = .ok (.aload_n 0, 1) := by decide +kernel
theorem dX2_interrupt_9 : decode cX2_interrupt 9 = .ok (.aload_n 0, 1) := by decide +kernel
theorem dX2_interrupt_10 : decode cX2_interrupt 10 = .ok (.getfield 9, 3) := by decide +kernel
theorem dX2_interrupt_13 : decode cX2_interrupt 13 = .ok (.bipush 9, 2) := by decide +kernel
theorem dX2_interrupt_15 : decode cX2_interrupt 15 = .ok (.iaload, 1) := by decide +kernel
theorem dX2_interrupt_16 : decode cX2_interrupt 16 = .ok (.invokevirtual 37, 3) := by decide +kernel
theorem dX2_interrupt_19 : decode cX2_interrupt 19 = .ok (.aload_n 0, 1) := by decide +kernel
theorem dX2_interrupt_20 : decode cX2_interrupt 20 = .ok (.getfield 9, 3) := by decide +kernel
theorem dX2_interrupt_23 : decode cX2_interrupt 23 = .ok (.bipush 9, 2) := by decide +kernel
theorem dX2_interrupt_25 : decode cX2_interrupt 25 = .ok (.sipush 240, 3) := by decide +kernel
theorem dX2_interrupt_28 : decode cX2_interrupt 28 = .ok (.iastore, 1) := by decide +kernel
theorem dX2_interrupt_29 : decode cX2_interrupt 29 = .ok (.return_, 1) := by decide +kernel
set_option maxRecDepth 100000 in
theorem ggX2_execute_X1_kind : GoodIn wsX2_execute wsX1_kind := goodIn_r _ [5] rfl (by decide +kernel)
set_option maxRecDepth 100000 in
theorem gX2_execute_X1_kind : GoodIn wsX2_execute (va_wsS RX2 40 yX1_kind wsX1_kind) := goodIn_app (goodIn_of _ (by decide +kernel)) ggX2_execute_X1_kind
set_option maxRecDepth 100000 in
theorem ggX2_execute_X1_bytes : GoodIn wsX2_execute wsX1_bytes := goodIn_r _ [8] rfl (by decide +kernel)
set_option maxRecDepth 100000 in
theorem gX2_execute_X1_bytes : GoodIn wsX2_execute (va_wsS RX2 46 yX1_bytes wsX1_bytes) := goodIn_app (goodIn_of _ (by decide +kernel)) ggX2_execute_X1_bytes
set_option maxRecDepth 100000 in
theorem ggX2_execute_X1_makesFlags : GoodIn wsX2_execute wsX1_makesFlags := goodIn_r _ [11] rfl (by decide +kernel)
set_option maxRecDepth 100000 in
theorem gX2_execute_X1_makesFlags : GoodIn wsX2_execute (va_wsS RX2 49 yX1_makesFlags wsX1_makesFlags) := goodIn_app (goodIn_of _ (by decide +kernel)) ggX2_execute_X1_makesFlags
set_option maxRecDepth 100000 in
theorem ggX2_execute_X2_calculate : GoodIn wsX2_execute wsX2_calculate := goodIn_r _ [16, 1, 17, 18, 4, 19, 20, 21, 22, 23, 24, 25, 26, 6, 7, 8, 27, 28, 29, 30, 31, 32, 33, 34, 35, 15, 36, 37, 38, 39, 40, 100, 101, 102, 103, 104, 105] rfl (by decide +kernel)
set_option maxRecDepth 100000 in
theorem gX2_execute_X2_calculate : GoodIn wsX2_execute (wsV RX2 53 RX2 yX2_calculate wsX2_calculate) := goodIn_app (goodIn_of _ (by decide +kernel)) ggX2_execute_X2_calculate
set_option maxRecDepth 100000 in
theorem ggX2_execute_X1_endsBlock : GoodIn wsX2_execute wsX1_endsBlock := goodIn_r _ [43, 44, 45, 4, 46] rfl (by decide +kernel)
set_option maxRecDepth 100000 in
theorem gX2_execute_X1_endsBlock : GoodIn wsX2_execute (va_wsS RX2 57 yX1_endsBlock wsX1_endsBlock) := goodIn_app (goodIn_of _ (by decide +kernel)) ggX2_execute_X1_endsBlock
set_option maxRecDepth 100000 in
theorem ggX2_execute_X2_steer : GoodIn wsX2_execute wsX2_steer := goodIn_r _ [50, 1, 27, 28, 4, 29, 51, 52, 53, 54, 55, 56, 15, 57, 58, 59, 60, 61, 62, 63, 64, 65, 66, 67, 68, 69, 70, 71, 24, 25, 26, 72, 73, 74, 75, 100, 101, 102, 103, 104, 105] rfl (by decide +kernel)
set_option maxRecDepth 100000 in
theorem gX2_execute_X2_steer : GoodIn wsX2_execute (wsV RX2 60 RX2 yX2_steer wsX2_steer) := goodIn_app (goodIn_of _ (by decide +kernel)) ggX2_execute_X2_steer
set_option maxRecDepth 100000 in
theorem ggX2_execute_X2_move : GoodIn wsX2_execute wsX2_move := goodIn_r _ [79, 1, 80, 81, 66, 24, 25, 4, 26, 30, 31, 32, 27, 28, 29, 82, 83, 84, 15, 85, 86, 87, 88, 89, 90, 91, 92, 93, 94, 95, 96, 97, 98, 99, 62, 63, 64, 65, 67, 58, 59, 60, 61, 68, 69, 70, 71, 100, 101, 102, 103, 104, 105, 106, 107, 108] rfl (by decide +kernel)
set_option maxRecDepth 100000 in
theorem gX2_execute_X2_move : GoodIn wsX2_execute (wsV RX2 63 RX2 yX2_move wsX2_move) := goodIn_app (goodIn_of _ (by decide +kernel)) ggX2_execute_X2_move
theorem dX2_execute_0 : decode cX2_execute 0 = .ok (.iload_n 1, 1) := by decide +kernel
theorem dX2_execute_1 : decode cX2_execute 1 = .ok (.invokestatic 40, 3) := by decide +kernel
theorem dX2_execute_4 : decode cX2_execute 4 = .ok (.istore_n 2, 1) := by decide +kernel
theorem dX2_execute_5 : decode cX2_execute 5 = .ok (.aload_n 0, 1) := by decide +kernel
theorem dX2_execute_6 : decode cX2_execute 6 = .ok (.getfield 9, 3) := by decide +kernel
theorem dX2_execute_9 : decode cX2_execute 9 = .ok (.bipush 9, 2) := by decide +kernel
theorem dX2_execute_11 : decode cX2_execute 11 = .ok (.aload_n 0, 1) := by decide +kernel
theorem dX2_execute_12 : decode cX2_execute 12 = .ok (.getfield 9, 3) := by decide +kernel
theorem dX2_execute_15 : decode cX2_execute 15 = .ok (.bipush 9, 2) := by decide +kernel
theorem dX2_execute_17 : decode cX2_execute 17 = .ok (.iaload, 1) := by decide +kernel
theorem dX2_execute_18 : decode cX2_execute 18 = .ok (.iload_n 2, 1) := by decide +kernel
theorem dX2_execute_19 : decode cX2_execute 19 = .ok (.invokestatic 46, 3) := by decide +kernel
theorem dX2_execute_22 : decode cX2_execute 22 = .ok (.iadd, 1) := by decide +kernel
theorem dX2_execute_23 : decode cX2_execute 23 = .ok (.sipush 255, 3) := by decide +kernel
theorem dX2_execute_26 : decode cX2_execute 26 = .ok (.iand, 1) := by decide +kernel
theorem dX2_execute_27 : decode cX2_execute 27 = .ok (.iastore, 1) := by decide +kernel
theorem dX2_execute_28 : decode cX2_execute 28 = .ok (.iload_n 2, 1) := by decide +kernel
theorem dX2_execute_29 : decode cX2_execute 29 = .ok (.invokestatic 49, 3) := by decide +kernel
theorem dX2_execute_32 : decode cX2_execute 32 = .ok (.ifCond .eq 12, 3) := by decide +kernel
theorem dX2_execute_35 : decode cX2_execute 35 = .ok (.aload_n 0, 1) := by decide +kernel
theorem dX2_execute_36 : decode cX2_execute 36 = .ok (.iload_n 2, 1) := by decide +kernel
theorem dX2_execute_37 : decode cX2_execute 37 = .ok (.iload_n 1, 1) := by decide +kernel
theorem dX2_execute_38 : decode cX2_execute 38 = .ok (.invokevirtual 53, 3) := by decide +kernel
theorem dX2_execute_41 : decode cX2_execute 41 = .ok (.goto 25, 3) := by decide +kernel
theorem dX2_execute_44 : decode cX2_execute 44 = .ok (.iload_n 2, 1) := by decide +kernel
theorem dX2_execute_45 : decode cX2_execute 45 = .ok (.invokestatic 57, 3) := by decide +kernel
theorem dX2_execute_48 : decode cX2_execute 48 = .ok (.ifCond .eq 12, 3) := by decide +kernel
theorem dX2_execute_51 : decode cX2_execute 51 = .ok (.aload_n 0, 1) := by decide +kernel
theorem dX2_execute_52 : decode cX2_execute 52 = .ok (.iload_n 2, 1) := by decide +kernel
theorem dX2_execute_53 : decode cX2_execute 53 = .ok (.iload_n 1, 1) := by decide +kernel
theorem dX2_execute_54 : decode cX2_execute 54 = .ok (.invokevirtual 60, 3) := by decide +kernel
theorem dX2_execute_57 : decode cX2_execute 57 = .ok (.goto 9, 3) := by decide +kernel
theorem dX2_execute_60 : decode cX2_execute 60 = .ok (.aload_n 0, 1) := by decide +kernel
theorem dX2_execute_61 : decode cX2_execute 61 = .ok (.iload_n 2, 1) := by decide +kernel
theorem dX2_execute_62 : decode cX2_execute 62 = .ok (.iload_n 1, 1) := by decide +kernel
theorem dX2_execute_63 : decode cX2_execute 63 = .ok (.invokevirtual 63, 3) := by decide +kernel
theorem dX2_execute_66 : decode cX2_execute 66 = .ok (.return_, 1) := by decide +kernel
set_option maxRecDepth 100000 in
theorem ggX2_calculate_X1_isDead : GoodIn wsX2_calculate wsX1_isDead := goodIn_r _ [5, 6] rfl (by decide +kernel)
set_option maxRecDepth 100000 in
theorem gX2_calculate_X1_isDead : GoodIn wsX2_calculate (va_wsS RX2 66 yX1_isDead wsX1_isDead) := goodIn_app (goodIn_of _ (by decide +kernel)) ggX2_calculate_X1_isDead
set_option maxRecDepth 100000 in
theorem ggX2_calculate_X1_onlyCompares : GoodIn wsX2_calculate wsX1_onlyCompares := goodIn_r _ [9] rfl (by decide +kernel)
set_option maxRecDepth 100000 in
theorem gX2_calculate_X1_onlyCompares : GoodIn wsX2_calculate (va_wsS RX2 69 yX1_onlyCompares wsX1_onlyCompares) := goodIn_app (goodIn_of _ (by decide +kernel)) ggX2_calculate_X1_onlyCompares
set_option maxRecDepth 100000 in
theorem ggX2_calculate_X1_d : GoodIn wsX2_calculate wsX1_d := goodIn_r _ [12] rfl (by decide +kernel)
set_option maxRecDepth 100000 in
theorem gX2_calculate_X1_d : GoodIn wsX2_calculate (va_wsS RX2 72 yX1_d wsX1_d) := goodIn_app (goodIn_of _ (by decide +kernel)) ggX2_calculate_X1_d
set_option maxRecDepth 100000 in
theorem ggX2_calculate_X1_bytes : GoodIn wsX2_calculate wsX1_bytes := goodIn_r _ [15] rfl (by decide +kernel)
set_option maxRecDepth 100000 in
theorem gX2_calculate_X1_bytes : GoodIn wsX2_calculate (va_wsS RX2 46 yX1_bytes wsX1_bytes) := goodIn_app (goodIn_of _ (by decide +kernel)) ggX2_calculate_X1_bytes
set_option maxRecDepth 100000 in
theorem ggX2_calculate_X1_n : GoodIn wsX2_calculate wsX1_n := goodIn_r _ [18] rfl (by decide +kernel)
set_option maxRecDepth 100000 in
theorem gX2_calculate_X1_n : GoodIn wsX2_calculate (va_wsS RX2 75 yX1_n wsX1_n) := goodIn_app (goodIn_of _ (by decide +kernel)) ggX2_calculate_X1_n
set_option maxRecDepth 100000 in
theorem ggX2_calculate_X1_s : GoodIn wsX2_calculate wsX1_s := goodIn_r _ [21] rfl (by decide +kernel)
set_option maxRecDepth 100000 in
theorem gX2_calculate_X1_s : GoodIn wsX2_calculate (va_wsS RX2 78 yX1_s wsX1_s) := goodIn_app (goodIn_of _ (by decide +kernel)) ggX2_calculate_X1_s
set_option maxRecDepth 100000 in
theorem ggX2_calculate_X2_resultWithCarry : GoodIn wsX2_calculate wsX2_resultWithCarry := goodIn_r _ [26, 1, 31, 32, 33, 34, 35, 36] rfl (by decide +kernel)
set_option maxRecDepth 100000 in
theorem gX2_calculate_X2_resultWithCarry : GoodIn wsX2_calculate (wsV RX2 81 RX2 yX2_resultWithCarry wsX2_resultWithCarry) := goodIn_app (goodIn_of _ (by decide +kernel)) ggX2_calculate_X2_resultWithCarry
set_option maxRecDepth 100000 in
theorem ggX2_calculate_X2_makeFlags : GoodIn wsX2_calculate wsX2_makeFlags := goodIn_r _ [30, 1, 31, 32, 33, 34, 35, 36] rfl (by decide +kernel)
set_option maxRecDepth 100000 in
theorem gX2_calculate_X2_makeFlags : GoodIn wsX2_calculate (wsV RX2 85 RX2 yX2_makeFlags wsX2_makeFlags) := goodIn_app (goodIn_of _ (by decide +kernel)) ggX2_calculate_X2_makeFlags
theorem dX2_calculate_0 : decode cX2_calculate 0 = .ok (.iload_n 2, 1) := by decide +kernel
theorem dX2_calculate_1 : decode cX2_calculate 1 = .ok (.invokestatic 66, 3) := by decide +kernel
theorem dX2_calculate_4 : decode cX2_calculate 4 = .ok (.istore_n 3, 1) := by decide +kernel
theorem dX2_calculate_5 : decode cX2_calculate 5 = .ok (.iload_n 1, 1) := by decide +kernel
theorem dX2_calculate_6 : decode cX2_calculate 6 = .ok (.invokestatic 69, 3) := by decide +kernel
theorem dX2_calculate_9 : decode cX2_calculate 9 = .ok (.istore 4, 2) := by decide +kernel
theorem dX2_calculate_11 : decode cX2_calculate 11 = .ok (.iload_n 3, 1) := by decide +kernel
theorem dX2_calculate_12 : decode cX2_calculate 12 = .ok (.ifCond .eq 9, 3) := by decide +kernel
theorem dX2_calculate_15 : decode cX2_calculate 15 = .ok (.iload 4, 2) := by decide +kernel
theorem dX2_calculate_17 : decode cX2_calculate 17 = .ok (.ifCond .eq 4, 3) := by decide +kernel
theorem dX2_calculate_20 : decode cX2_calculate 20 = .ok (.return_, 1) := by decide +kernel
theorem dX2_calculate_21 : decode cX2_calculate 21 = .ok (.aload_n 0, 1) := by decide +kernel
theorem dX2_calculate_22 : decode cX2_calculate 22 = .ok (.getfield 9, 3) := by decide +kernel
theorem dX2_calculate_25 : decode cX2_calculate 25 = .ok (.iload_n 2, 1) := by decide +kernel
theorem dX2_calculate_26 : decode cX2_calculate 26 = .ok (.invokestatic 72, 3) := by decide +kernel
theorem dX2_calculate_29 : decode cX2_calculate 29 = .ok (.iaload, 1) := by decide +kernel
theorem dX2_calculate_30 : decode cX2_calculate 30 = .ok (.istore 5, 2) := by decide +kernel
theorem dX2_calculate_32 : decode cX2_calculate 32 = .ok (.iload_n 1, 1) := by decide +kernel
theorem dX2_calculate_33 : decode cX2_calculate 33 = .ok (.invokestatic 46, 3) := by decide +kernel
theorem dX2_calculate_36 : decode cX2_calculate 36 = .ok (.iconst 2, 1) := by decide +kernel
theorem dX2_calculate_37 : decode cX2_calculate 37 = .ok (.if_icmp .ne 10, 3) := by decide +kernel
theorem dX2_calculate_40 : decode cX2_calculate 40 = .ok (.iload_n 2, 1) := by decide +kernel
theorem dX2_calculate_41 : decode cX2_calculate 41 = .ok (.invokestatic 75, 3) := by decide +kernel
theorem dX2_calculate_44 : decode cX2_calculate 44 = .ok (.goto 12, 3) := by decide +kernel
theorem dX2_calculate_47 : decode cX2_calculate 47 = .ok (.aload_n 0, 1) := by decide +kernel
theorem dX2_calculate_48 : decode cX2_calculate 48 = .ok (.getfield 9, 3) := by decide +kernel
theorem dX2_calculate_51 : decode cX2_calculate 51 = .ok (.iload_n 2, 1) := by decide +kernel
theorem dX2_calculate_52 : decode cX2_calculate 52 = .ok (.invokestatic 78, 3) := by decide +kernel
theorem dX2_calculate_55 : decode cX2_calculate 55 = .ok (.iaload, 1) := by decide +kernel
theorem dX2_calculate_56 : decode cX2_calculate 56 = .ok (.istore 6, 2) := by decide +kernel
theorem dX2_calculate_58 : decode cX2_calculate 58 = .ok (.aload_n 0, 1) := by decide +kernel
theorem dX2_calculate_59 : decode cX2_calculate 59 = .ok (.iload_n 1, 1) := by decide +kernel
theorem dX2_calculate_60 : decode cX2_calculate 60 = .ok (.iload 5, 2) := by decide +kernel
theorem dX2_calculate_62 : decode cX2_calculate 62 = .ok (.iload 6, 2) := by decide +kernel
theorem dX2_calculate_64 : decode cX2_calculate 64 = .ok (.invokevirtual 81, 3) := by decide +kernel
theorem dX2_calculate_67 : decode cX2_calculate 67 = .ok (.istore 7, 2) := by decide +kernel
theorem dX2_calculate_69 : decode cX2_calculate 69 = .ok (.iload 4, 2) := by decide +kernel
theorem dX2_calculate_71 : decode cX2_calculate 71 = .ok (.ifCond .ne 18, 3) := by decide +kernel
theorem dX2_calculate_74 : decode cX2_calculate 74 = .ok (.aload_n 0, 1) := by decide +kernel
theorem dX2_calculate_75 : decode cX2_calculate 75 = .ok (.getfield 9, 3) := by decide +kernel
theorem dX2_calculate_78 : decode cX2_calculate 78 = .ok (.iload_n 2, 1) := by decide +kernel
theorem dX2_calculate_79 : decode cX2_calculate 79 = .ok (.invokestatic 72, 3) := by decide +kernel
theorem dX2_calculate_82 : decode cX2_calculate 82 = .ok (.iload 7, 2) := by decide +kernel
theorem dX2_calculate_84 : decode cX2_calculate 84 = .ok (.sipush 255, 3) := by decide +kernel
theorem dX2_calculate_87 : decode cX2_calculate 87 = .ok (.iand, 1) := by decide +kernel
theorem dX2_calculate_88 : decode cX2_calculate 88 = .ok (.iastore, 1) := by decide +kernel
theorem dX2_calculate_89 : decode cX2_calculate 89 = .ok (.iload_n 3, 1) := by decide +kernel
theorem dX2_calculate_90 : decode cX2_calculate 90 = .ok (.ifCond .ne 9, 3) := by decide +kernel
theorem dX2_calculate_93 : decode cX2_calculate 93 = .ok (.aload_n 0, 1) := by decide +kernel
theorem dX2_calculate_94 : decode cX2_calculate 94 = .ok (.iload 7, 2) := by decide +kernel
theorem dX2_calculate_96 : decode cX2_calculate 96 = .ok (.invokevirtual 85, 3) := by decide +kernel
theorem dX2_calculate_99 : decode cX2_calculate 99 = .ok (.return_, 1) := by decide +kernel
theorem dX2_resultWithCarry_0 : decode cX2_resultWithCarry 0 = .ok (.iload_n 1, 1) := by decide +kernel
theorem dX2_resultWithCarry_1 : decode cX2_resultWithCarry 1 = .ok (.tableswitch 144 7 20 #[71, 75, 144, 144, 87, 91, 95, 99, 110, 122, 144, 71, 144, 91], 71) := by decide +kernel
theorem dX2_resultWithCarry_72 : decode cX2_resultWithCarry 72 = .ok (.iload_n 2, 1) := by decide +kernel
theorem dX2_resultWithCarry_73 : decode cX2_resultWithCarry 73 = .ok (.iload_n 3, 1) := by decide +kernel
theorem dX2_resultWithCarry_74 : decode cX2_resultWithCarry 74 = .ok (.iadd, 1) := by decide +kernel
theorem dX2_resultWithCarry_75 : decode cX2_resultWithCarry 75 = .ok (.ireturn, 1) := by decide +kernel
theorem dX2_resultWithCarry_76 : decode cX2_resultWithCarry 76 = .ok (.iload_n 2, 1) := by decide +kernel
theorem dX2_resultWithCarry_77 : decode cX2_resultWithCarry 77 = .ok (.iload_n 3, 1) := by decide +kernel
theorem dX2_resultWithCarry_78 : decode cX2_resultWithCarry 78 = .ok (.iadd, 1) := by decide +kernel
theorem dX2_resultWithCarry_79 : decode cX2_resultWithCarry 79 = .ok (.aload_n 0, 1) := by decide +kernel
theorem dX2_resultWithCarry_80 : decode cX2_resultWithCarry 80 = .ok (.getfield 9, 3) := by decide +kernel
theorem dX2_resultWithCarry_83 : decode cX2_resultWithCarry 83 = .ok (.bipush 6, 2) := by decide +kernel
theorem dX2_resultWithCarry_85 : decode cX2_resultWithCarry 85 = .ok (.iaload, 1) := by decide +kernel
theorem dX2_resultWithCarry_86 : decode cX2_resultWithCarry 86 = .ok (.iadd, 1) := by decide +kernel
theorem dX2_resultWithCarry_87 : decode cX2_resultWithCarry 87 = .ok (.ireturn, 1) := by decide +kernel
theorem dX2_resultWithCarry_88 : decode cX2_resultWithCarry 88 = .ok (.iload_n 2, 1) := by decide +kernel
theorem dX2_resultWithCarry_89 : decode cX2_resultWithCarry 89 = .ok (.iload_n 3, 1) := by decide +kernel
theorem dX2_resultWithCarry_90 : decode cX2_resultWithCarry 90 = .ok (.iand, 1) := by decide +kernel
theorem dX2_resultWithCarry_91 : decode cX2_resultWithCarry 91 = .ok (.ireturn, 1) := by decide +kernel
theorem dX2_resultWithCarry_92 : decode cX2_resultWithCarry 92 = .ok (.iload_n 2, 1) := by decide +kernel
theorem dX2_resultWithCarry_93 : decode cX2_resultWithCarry 93 = .ok (.iload_n 3, 1) := by decide +kernel
theorem dX2_resultWithCarry_94 : decode cX2_resultWithCarry 94 = .ok (.ixor, 1) := by decide +kernel
theorem dX2_resultWithCarry_95 : decode cX2_resultWithCarry 95 = .ok (.ireturn, 1) := by decide +kernel
theorem dX2_resultWithCarry_96 : decode cX2_resultWithCarry 96 = .ok (.iload_n 2, 1) := by decide +kernel
theorem dX2_resultWithCarry_97 : decode cX2_resultWithCarry 97 = .ok (.iconst 1, 1) := by decide +kernel
theorem dX2_resultWithCarry_98 : decode cX2_resultWithCarry 98 = .ok (.ishl, 1) := by decide +kernel
theorem dX2_resultWithCarry_99 : decode cX2_resultWithCarry 99 = .ok (.ireturn, 1) := by decide +kernel
theorem dX2_resultWithCarry_100 : decode cX2_resultWithCarry 100 = .ok (.iload_n 2, 1) := by decide +kernel
theorem dX2_resultWithCarry_101 : decode cX2_resultWithCarry 101 = .ok (.iconst 1, 1) := by decide +kernel
theorem dX2_resultWithCarry_102 : decode cX2_resultWithCarry 102 = .ok (.ishr, 1) := by decide +kernel
theorem dX2_resultWithCarry_103 : decode cX2_resultWithCarry 103 = .ok (.iload_n 2, 1) := by decide +kernel
theorem dX2_resultWithCarry_104 : decode cX2_resultWithCarry 104 = .ok (.iconst 1, 1) := by decide +kernel
theorem dX2_resultWithCarry_105 : decode cX2_resultWithCarry 105 = .ok (.iand, 1) := by decide +kernel
theorem dX2_resultWithCarry_106 : decode cX2_resultWithCarry 106 = .ok (.bipush 8, 2) := by decide +kernel
theorem dX2_resultWithCarry_108 : decode cX2_resultWithCarry 108 = .ok (.ishl, 1) := by decide +kernel
theorem dX2_resultWithCarry_109 : decode cX2_resultWithCarry 109 = .ok (.ior, 1) := by decide +kernel
theorem dX2_resultWithCarry_110 : decode cX2_resultWithCarry 110 = .ok (.ireturn, 1) := by decide +kernel
theorem dX2_resultWithCarry_111 : decode cX2_resultWithCarry 111 = .ok (.iload_n 2, 1) := by decide +kernel
theorem dX2_resultWithCarry_112 : decode cX2_resultWithCarry 112 = .ok (.iconst 1, 1) := by decide +kernel
theorem dX2_resultWithCarry_113 : decode cX2_resultWithCarry 113 = .ok (.ishl, 1) := by decide +kernel
theorem dX2_resultWithCarry_114 : decode cX2_resultWithCarry 114 = .ok (.aload_n 0, 1) := by decide +kernel
theorem dX2_resultWithCarry_115 : decode cX2_resultWithCarry 115 = .ok (.getfield 9, 3) := by decide +kernel
theorem dX2_resultWithCarry_118 : decode cX2_resultWithCarry 118 = .ok (.bipush 6, 2) := by decide +kernel
theorem dX2_resultWithCarry_120 : decode cX2_resultWithCarry 120 = .ok (.iaload, 1) := by decide +kernel
theorem dX2_resultWithCarry_121 : decode cX2_resultWithCarry 121 = .ok (.ior, 1) := by decide +kernel
theorem dX2_resultWithCarry_122 : decode cX2_resultWithCarry 122 = .ok (.ireturn, 1) := by decide +kernel
theorem dX2_resultWithCarry_123 : decode cX2_resultWithCarry 123 = .ok (.iload_n 2, 1) := by decide +kernel
theorem dX2_resultWithCarry_124 : decode cX2_resultWithCarry 124 = .ok (.iconst 1, 1) := by decide +kernel
theorem dX2_resultWithCarry_125 : decode cX2_resultWithCarry 125 = .ok (.ishr, 1) := by decide +kernel
theorem dX2_resultWithCarry_126 : decode cX2_resultWithCarry 126 = .ok (.aload_n 0, 1) := by decide +kernel
theorem dX2_resultWithCarry_127 : decode cX2_resultWithCarry 127 = .ok (.getfield 9, 3) := by decide +kernel
theorem dX2_resultWithCarry_130 : decode cX2_resultWithCarry 130 = .ok (.bipush 6, 2) := by decide +kernel
theorem dX2_resultWithCarry_132 : decode cX2_resultWithCarry 132 = .ok (.iaload, 1) := by decide +kernel
theorem dX2_resultWithCarry_133 : decode cX2_resultWithCarry 133 = .ok (.bipush 7, 2) := by decide +kernel
theorem dX2_resultWithCarry_135 : decode cX2_resultWithCarry 135 = .ok (.ishl, 1) := by decide +kernel
theorem dX2_resultWithCarry_136 : decode cX2_resultWithCarry 136 = .ok (.ior, 1) := by decide +kernel
theorem dX2_resultWithCarry_137 : decode cX2_resultWithCarry 137 = .ok (.iload_n 2, 1) := by decide +kernel
theorem dX2_resultWithCarry_138 : decode cX2_resultWithCarry 138 = .ok (.iconst 1, 1) := by decide +kernel
theorem dX2_resultWithCarry_139 : decode cX2_resultWithCarry 139 = .ok (.iand, 1) := by decide +kernel
theorem dX2_resultWithCarry_140 : decode cX2_resultWithCarry 140 = .ok (.bipush 8, 2) := by decide +kernel
theorem dX2_resultWithCarry_142 : decode cX2_resultWithCarry 142 = .ok (.ishl, 1) := by decide +kernel
theorem dX2_resultWithCarry_143 : decode cX2_resultWithCarry 143 = .ok (.ior, 1) := by decide +kernel
theorem dX2_resultWithCarry_144 : decode cX2_resultWithCarry 144 = .ok (.ireturn, 1) := by decide +kernel
theorem dX2_resultWithCarry_145 : decode cX2_resultWithCarry 145 = .ok (.iload_n 2, 1) := by decide +kernel
theorem dX2_resultWithCarry_146 : decode cX2_resultWithCarry 146 = .ok (.iload_n 3, 1) := by decide +kernel
theorem dX2_resultWithCarry_147 : decode cX2_resultWithCarry 147 = .ok (.isub, 1) := by decide +kernel
theorem dX2_resultWithCarry_148 : decode cX2_resultWithCarry 148 = .ok (.ireturn, 1) := by decide +kernel
theorem dX2_makeFlags_0 : decode cX2_makeFlags 0 = .ok (.aload_n 0, 1) := by decide +kernel
theorem dX2_makeFlags_1 : decode cX2_makeFlags 1 = .ok (.getfield 9, 3) := by decide +kernel
theorem dX2_makeFlags_4 : decode cX2_makeFlags 4 = .ok (.iconst 5, 1) := by decide +kernel
theorem dX2_makeFlags_5 : decode cX2_makeFlags 5 = .ok (.iload_n 1, 1) := by decide +kernel
theorem dX2_makeFlags_6 : decode cX2_makeFlags 6 = .ok (.sipush 255, 3) := by decide +kernel
theorem dX2_makeFlags_9 : decode cX2_makeFlags 9 = .ok (.iand, 1) := by decide +kernel
theorem dX2_makeFlags_10 : decode cX2_makeFlags 10 = .ok (.ifCond .ne 7, 3) := by decide +kernel
theorem dX2_makeFlags_13 : decode cX2_makeFlags 13 = .ok (.iconst 1, 1) := by decide +kernel
theorem dX2_makeFlags_14 : decode cX2_makeFlags 14 = .ok (.goto 4, 3) := by decide +kernel
theorem dX2_makeFlags_17 : decode cX2_makeFlags 17 = .ok (.iconst 0, 1) := by decide +kernel
theorem dX2_makeFlags_18 : decode cX2_makeFlags 18 = .ok (.iastore, 1) := by decide +kernel
theorem dX2_makeFlags_19 : decode cX2_makeFlags 19 = .ok (.aload_n 0, 1) := by decide +kernel
theorem dX2_makeFlags_20 : decode cX2_makeFlags 20 = .ok (.getfield 9, 3) := by decide +kernel
theorem dX2_makeFlags_23 : decode cX2_makeFlags 23 = .ok (.bipush 6, 2) := by decide +kernel
theorem dX2_makeFlags_25 : decode cX2_makeFlags 25 = .ok (.iload_n 1, 1) := by decide +kernel
theorem dX2_makeFlags_26 : decode cX2_makeFlags 26 = .ok (.bipush 8, 2) := by decide +kernel
theorem dX2_makeFlags_28 : decode cX2_makeFlags 28 = .ok (.ishr, 1) := by decide +kernel
theorem dX2_makeFlags_29 : decode cX2_makeFlags 29 = .ok (.iconst 1, 1) := by decide +kernel
theorem dX2_makeFlags_30 : decode cX2_makeFlags 30 = .ok (.iand, 1) := by decide +kernel
theorem dX2_makeFlags_31 : decode cX2_makeFlags 31 = .ok (.iastore, 1) := by decide +kernel
theorem dX2_makeFlags_32 : decode cX2_makeFlags 32 = .ok (.aload_n 0, 1) := by decide +kernel
theorem dX2_makeFlags_33 : decode cX2_makeFlags 33 = .ok (.getfield 9, 3) := by decide +kernel
theorem dX2_makeFlags_36 : decode cX2_makeFlags 36 = .ok (.bipush 7, 2) := by decide +kernel
theorem dX2_makeFlags_38 : decode cX2_makeFlags 38 = .ok (.iload_n 1, 1) := by decide +kernel
theorem dX2_makeFlags_39 : decode cX2_makeFlags 39 = .ok (.bipush 7, 2) := by decide +kernel
theorem dX2_makeFlags_41 : decode cX2_makeFlags 41 = .ok (.ishr, 1) := by decide +kernel
theorem dX2_makeFlags_42 : decode cX2_makeFlags 42 = .ok (.iconst 1, 1) := by decide +kernel
theorem dX2_makeFlags_43 : decode cX2_makeFlags 43 = .ok (.iand, 1) := by decide +kernel
theorem dX2_makeFlags_44 : decode cX2_makeFlags 44 = .ok (.iastore, 1) := by decide +kernel
theorem dX2_makeFlags_45 : decode cX2_makeFlags 45 = .ok (.return_, 1) := by decide +kernel
set_option maxRecDepth 100000 in
theorem ggX2_steer_X1_n : GoodIn wsX2_steer wsX1_n := goodIn_r _ [5] rfl (by decide +kernel)
set_option maxRecDepth 100000 in
theorem gX2_steer_X1_n : GoodIn wsX2_steer (va_wsS RX2 75 yX1_n wsX1_n) := goodIn_app (goodIn_of _ (by decide +kernel)) ggX2_steer_X1_n
set_option maxRecDepth 100000 in
theorem ggX2_steer_X1_w : GoodIn wsX2_steer wsX1_w := goodIn_r _ [8] rfl (by decide +kernel)
set_option maxRecDepth 100000 in
theorem gX2_steer_X1_w : GoodIn wsX2_steer (va_wsS RX2 88 yX1_w wsX1_w) := goodIn_app (goodIn_of _ (by decide +kernel)) ggX2_steer_X1_w
set_option maxRecDepth 100000 in
theorem ggX2_steer_X2_jumpIf : GoodIn wsX2_steer wsX2_jumpIf := goodIn_r _ [13, 1, 35, 36, 37, 38, 39, 40] rfl (by decide +kernel)
set_option maxRecDepth 100000 in
theorem gX2_steer_X2_jumpIf : GoodIn wsX2_steer (wsV RX2 91 RX2 yX2_jumpIf wsX2_jumpIf) := goodIn_app (goodIn_of _ (by decide +kernel)) ggX2_steer_X2_jumpIf
set_option maxRecDepth 100000 in
theorem ggX2_steer_X2_push : GoodIn wsX2_steer wsX2_push := goodIn_r _ [17, 1, 18, 19, 20, 12, 21, 22, 23, 35, 36, 37, 38, 39, 40] rfl (by decide +kernel)
set_option maxRecDepth 100000 in
theorem gX2_steer_X2_push : GoodIn wsX2_steer (wsV RX2 37 RX2 yX2_push wsX2_push) := goodIn_app (goodIn_of _ (by decide +kernel)) ggX2_steer_X2_push
set_option maxRecDepth 100000 in
theorem ggX2_steer_X2_pop : GoodIn wsX2_steer wsX2_pop := goodIn_r _ [27, 22, 1, 35, 36, 37, 38, 39, 40] rfl (by decide +kernel)
set_option maxRecDepth 100000 in
theorem gX2_steer_X2_pop : GoodIn wsX2_steer (wsV RX2 94 RX2 yX2_pop wsX2_pop) := goodIn_app (goodIn_of _ (by decide +kernel)) ggX2_steer_X2_pop
set_option maxRecDepth 100000 in
theorem ggX2_steer_X1_d : GoodIn wsX2_steer wsX1_d := goodIn_r _ [30] rfl (by decide +kernel)
set_option maxRecDepth 100000 in
theorem gX2_steer_X1_d : GoodIn wsX2_steer (va_wsS RX2 72 yX1_d wsX1_d) := goodIn_app (goodIn_of _ (by decide +kernel)) ggX2_steer_X1_d
set_option maxRecDepth 100000 in
theorem ggX2_steer_X2_countDown : GoodIn wsX2_steer wsX2_countDown := goodIn_r _ [34, 1, 35, 36, 37, 38, 39, 40] rfl (by decide +kernel)
set_option maxRecDepth 100000 in
theorem gX2_steer_X2_countDown : GoodIn wsX2_steer (wsV RX2 98 RX2 yX2_countDown wsX2_countDown) := goodIn_app (goodIn_of _ (by decide +kernel)) ggX2_steer_X2_countDown
theorem dX2_steer_0 : decode cX2_steer 0 = .ok (.iload_n 1, 1) := by decide +kernel
theorem dX2_steer_1 : decode cX2_steer 1 = .ok (.lookupswitch 153 #[(4, 59), (23, 70), (24, 84), (25, 99), (26, 124), (29, 138)], 59) := by decide +kernel
theorem dX2_steer_60 : decode cX2_steer 60 = .ok (.aload_n 0, 1) := by decide +kernel
theorem dX2_steer_61 : decode cX2_steer 61 = .ok (.getfield 9, 3) := by decide +kernel
theorem dX2_steer_64 : decode cX2_steer 64 = .ok (.bipush 8, 2) := by decide +kernel
theorem dX2_steer_66 : decode cX2_steer 66 = .ok (.iconst 1, 1) := by decide +kernel
theorem dX2_steer_67 : decode cX2_steer 67 = .ok (.iastore, 1) := by decide +kernel
theorem dX2_steer_68 : decode cX2_steer 68 = .ok (.goto 86, 3) := by decide +kernel
theorem dX2_steer_71 : decode cX2_steer 71 = .ok (.aload_n 0, 1) := by decide +kernel
theorem dX2_steer_72 : decode cX2_steer 72 = .ok (.getfield 9, 3) := by decide +kernel
theorem dX2_steer_75 : decode cX2_steer 75 = .ok (.bipush 9, 2) := by decide +kernel
theorem dX2_steer_77 : decode cX2_steer 77 = .ok (.iload_n 2, 1) := by decide +kernel
theorem dX2_steer_78 : decode cX2_steer 78 = .ok (.invokestatic 75, 3) := by decide +kernel
theorem dX2_steer_81 : decode cX2_steer 81 = .ok (.iastore, 1) := by decide +kernel
theorem dX2_steer_82 : decode cX2_steer 82 = .ok (.goto 72, 3) := by decide +kernel
theorem dX2_steer_85 : decode cX2_steer 85 = .ok (.aload_n 0, 1) := by decide +kernel
theorem dX2_steer_86 : decode cX2_steer 86 = .ok (.iload_n 2, 1) := by decide +kernel
theorem dX2_steer_87 : decode cX2_steer 87 = .ok (.invokestatic 88, 3) := by decide +kernel
theorem dX2_steer_90 : decode cX2_steer 90 = .ok (.iload_n 2, 1) := by decide +kernel
theorem dX2_steer_91 : decode cX2_steer 91 = .ok (.invokestatic 75, 3) := by decide +kernel
theorem dX2_steer_94 : decode cX2_steer 94 = .ok (.invokevirtual 91, 3) := by decide +kernel
theorem dX2_steer_97 : decode cX2_steer 97 = .ok (.goto 57, 3) := by decide +kernel
theorem dX2_steer_100 : decode cX2_steer 100 = .ok (.aload_n 0, 1) := by decide +kernel
theorem dX2_steer_101 : decode cX2_steer 101 = .ok (.aload_n 0, 1) := by decide +kernel
theorem dX2_steer_102 : decode cX2_steer 102 = .ok (.getfield 9, 3) := by decide +kernel
theorem dX2_steer_105 : decode cX2_steer 105 = .ok (.bipush 9, 2) := by decide +kernel
theorem dX2_steer_107 : decode cX2_steer 107 = .ok (.iaload, 1) := by decide +kernel
theorem dX2_steer_108 : decode cX2_steer 108 = .ok (.invokevirtual 37, 3) := by decide +kernel
theorem dX2_steer_111 : decode cX2_steer 111 = .ok (.aload_n 0, 1) := by decide +kernel
theorem dX2_steer_112 : decode cX2_steer 112 = .ok (.getfield 9, 3) := by decide +kernel
theorem dX2_steer_115 : decode cX2_steer 115 = .ok (.bipush 9, 2) := by decide +kernel
theorem dX2_steer_117 : decode cX2_steer 117 = .ok (.iload_n 2, 1) := by decide +kernel
theorem dX2_steer_118 : decode cX2_steer 118 = .ok (.invokestatic 75, 3) := by decide +kernel
theorem dX2_steer_121 : decode cX2_steer 121 = .ok (.iastore, 1) := by decide +kernel
theorem dX2_steer_122 : decode cX2_steer 122 = .ok (.goto 32, 3) := by decide +kernel
theorem dX2_steer_125 : decode cX2_steer 125 = .ok (.aload_n 0, 1) := by decide +kernel
theorem dX2_steer_126 : decode cX2_steer 126 = .ok (.getfield 9, 3) := by decide +kernel
theorem dX2_steer_129 : decode cX2_steer 129 = .ok (.bipush 9, 2) := by decide +kernel
theorem dX2_steer_131 : decode cX2_steer 131 = .ok (.aload_n 0, 1) := by decide +kernel
theorem dX2_steer_132 : decode cX2_steer 132 = .ok (.invokevirtual 94, 3) := by decide +kernel
theorem dX2_steer_135 : decode cX2_steer 135 = .ok (.iastore, 1) := by decide +kernel
theorem dX2_steer_136 : decode cX2_steer 136 = .ok (.goto 18, 3) := by decide +kernel
theorem dX2_steer_139 : decode cX2_steer 139 = .ok (.aload_n 0, 1) := by decide +kernel
theorem dX2_steer_140 : decode cX2_steer 140 = .ok (.iload_n 2, 1) := by decide +kernel
theorem dX2_steer_141 : decode cX2_steer 141 = .ok (.invokestatic 72, 3) := by decide +kernel
theorem dX2_steer_144 : decode cX2_steer 144 = .ok (.iload_n 2, 1) := by decide +kernel
theorem dX2_steer_145 : decode cX2_steer 145 = .ok (.invokestatic 75, 3) := by decide +kernel
theorem dX2_steer_148 : decode cX2_steer 148 = .ok (.invokevirtual 98, 3) := by decide +kernel
theorem dX2_steer_151 : decode cX2_steer 151 = .ok (.goto 3, 3) := by decide +kernel
theorem dX2_steer_154 : decode cX2_steer 154 = .ok (.return_, 1) := by decide +kernel
theorem dX2_jumpIf_0 : decode cX2_jumpIf 0 = .ok (.iload_n 1, 1) := by decide +kernel
theorem dX2_jumpIf_1 : decode cX2_jumpIf 1 = .ok (.iconst 2, 1) := by decide +kernel
theorem dX2_jumpIf_2 : decode cX2_jumpIf 2 = .ok (.if_icmp .gt 7, 3) := by decide +kernel
theorem dX2_jumpIf_5 : decode cX2_jumpIf 5 = .ok (.iconst 5, 1) := by decide +kernel
theorem dX2_jumpIf_6 : decode cX2_jumpIf 6 = .ok (.goto 15, 3) := by decide +kernel
theorem dX2_jumpIf_9 : decode cX2_jumpIf 9 = .ok (.iload_n 1, 1) := by decide +kernel
theorem dX2_jumpIf_10 : decode cX2_jumpIf 10 = .ok (.iconst 4, 1) := by decide +kernel
theorem dX2_jumpIf_11 : decode cX2_jumpIf 11 = .ok (.if_icmp .gt 8, 3) := by decide +kernel
theorem dX2_jumpIf_14 : decode cX2_jumpIf 14 = .ok (.bipush 6, 2) := by decide +kernel
theorem dX2_jumpIf_16 : decode cX2_jumpIf 16 = .ok (.goto 5, 3) := by decide +kernel
theorem dX2_jumpIf_19 : decode cX2_jumpIf 19 = .ok (.bipush 7, 2) := by decide +kernel
theorem dX2_jumpIf_21 : decode cX2_jumpIf 21 = .ok (.istore_n 3, 1) := by decide +kernel
theorem dX2_jumpIf_22 : decode cX2_jumpIf 22 = .ok (.aload_n 0, 1) := by decide +kernel
theorem dX2_jumpIf_23 : decode cX2_jumpIf 23 = .ok (.getfield 9, 3) := by decide +kernel
theorem dX2_jumpIf_26 : decode cX2_jumpIf 26 = .ok (.iload_n 3, 1) := by decide +kernel
theorem dX2_jumpIf_27 : decode cX2_jumpIf 27 = .ok (.iaload, 1) := by decide +kernel
theorem dX2_jumpIf_28 : decode cX2_jumpIf 28 = .ok (.iload_n 1, 1) := by decide +kernel
theorem dX2_jumpIf_29 : decode cX2_jumpIf 29 = .ok (.iconst 1, 1) := by decide +kernel
theorem dX2_jumpIf_30 : decode cX2_jumpIf 30 = .ok (.iand, 1) := by decide +kernel
theorem dX2_jumpIf_31 : decode cX2_jumpIf 31 = .ok (.if_icmp .ne 11, 3) := by decide +kernel
theorem dX2_jumpIf_34 : decode cX2_jumpIf 34 = .ok (.aload_n 0, 1) := by decide +kernel
theorem dX2_jumpIf_35 : decode cX2_jumpIf 35 = .ok (.getfield 9, 3) := by decide +kernel
theorem dX2_jumpIf_38 : decode cX2_jumpIf 38 = .ok (.bipush 9, 2) := by decide +kernel
theorem dX2_jumpIf_40 : decode cX2_jumpIf 40 = .ok (.iload_n 2, 1) := by decide +kernel
theorem dX2_jumpIf_41 : decode cX2_jumpIf 41 = .ok (.iastore, 1) := by decide +kernel
theorem dX2_jumpIf_42 : decode cX2_jumpIf 42 = .ok (.return_, 1) := by decide +kernel
theorem dX2_countDown_0 : decode cX2_countDown 0 = .ok (.aload_n 0, 1) := by decide +kernel
theorem dX2_countDown_1 : decode cX2_countDown 1 = .ok (.getfield 9, 3) := by decide +kernel
theorem dX2_countDown_4 : decode cX2_countDown 4 = .ok (.iload_n 1, 1) := by decide +kernel
theorem dX2_countDown_5 : decode cX2_countDown 5 = .ok (.aload_n 0, 1) := by decide +kernel
theorem dX2_countDown_6 : decode cX2_countDown 6 = .ok (.getfield 9, 3) := by decide +kernel
theorem dX2_countDown_9 : decode cX2_countDown 9 = .ok (.iload_n 1, 1) := by decide +kernel
theorem dX2_countDown_10 : decode cX2_countDown 10 = .ok (.iaload, 1) := by decide +kernel
theorem dX2_countDown_11 : decode cX2_countDown 11 = .ok (.iconst 1, 1) := by decide +kernel
theorem dX2_countDown_12 : decode cX2_countDown 12 = .ok (.isub, 1) := by decide +kernel
theorem dX2_countDown_13 : decode cX2_countDown 13 = .ok (.sipush 255, 3) := by decide +kernel
theorem dX2_countDown_16 : decode cX2_countDown 16 = .ok (.iand, 1) := by decide +kernel
theorem dX2_countDown_17 : decode cX2_countDown 17 = .ok (.iastore, 1) := by decide +kernel
theorem dX2_countDown_18 : decode cX2_countDown 18 = .ok (.aload_n 0, 1) := by decide +kernel
theorem dX2_countDown_19 : decode cX2_countDown 19 = .ok (.getfield 9, 3) := by decide +kernel
theorem dX2_countDown_22 : decode cX2_countDown 22 = .ok (.iload_n 1, 1) := by decide +kernel
theorem dX2_countDown_23 : decode cX2_countDown 23 = .ok (.iaload, 1) := by decide +kernel
theorem dX2_countDown_24 : decode cX2_countDown 24 = .ok (.ifCond .eq 11, 3) := by decide +kernel
theorem dX2_countDown_27 : decode cX2_countDown 27 = .ok (.aload_n 0, 1) := by decide +kernel
theorem dX2_countDown_28 : decode cX2_countDown 28 = .ok (.getfield 9, 3) := by decide +kernel
theorem dX2_countDown_31 : decode cX2_countDown 31 = .ok (.bipush 9, 2) := by decide +kernel
theorem dX2_countDown_33 : decode cX2_countDown 33 = .ok (.iload_n 2, 1) := by decide +kernel
theorem dX2_countDown_34 : decode cX2_countDown 34 = .ok (.iastore, 1) := by decide +kernel
theorem dX2_countDown_35 : decode cX2_countDown 35 = .ok (.return_, 1) := by decide +kernel
set_option maxRecDepth 100000 in
theorem ggX2_move_X1_d : GoodIn wsX2_move wsX1_d := goodIn_r _ [8] rfl (by decide +kernel)
set_option maxRecDepth 100000 in
theorem gX2_move_X1_d : GoodIn wsX2_move (va_wsS RX2 72 yX1_d wsX1_d) := goodIn_app (goodIn_of _ (by decide +kernel)) ggX2_move_X1_d
set_option maxRecDepth 100000 in
theorem ggX2_move_X1_s : GoodIn wsX2_move wsX1_s := goodIn_r _ [11] rfl (by decide +kernel)
set_option maxRecDepth 100000 in
theorem gX2_move_X1_s : GoodIn wsX2_move (va_wsS RX2 78 yX1_s wsX1_s) := goodIn_app (goodIn_of _ (by decide +kernel)) ggX2_move_X1_s
set_option maxRecDepth 100000 in
theorem ggX2_move_X1_n : GoodIn wsX2_move wsX1_n := goodIn_r _ [14] rfl (by decide +kernel)
set_option maxRecDepth 100000 in
theorem gX2_move_X1_n : GoodIn wsX2_move (va_wsS RX2 75 yX1_n wsX1_n) := goodIn_app (goodIn_of _ (by decide +kernel)) ggX2_move_X1_n
set_option maxRecDepth 100000 in
theorem ggX2_move_X2_give : GoodIn wsX2_move wsX2_give := goodIn_r _ [19, 20, 21, 47, 48, 49, 50, 51, 52] rfl (by decide +kernel)
set_option maxRecDepth 100000 in
theorem gX2_move_X2_give : GoodIn wsX2_move (wsV RX2 101 RX2 yX2_give wsX2_give) := goodIn_app (goodIn_of _ (by decide +kernel)) ggX2_move_X2_give
set_option maxRecDepth 100000 in
theorem ggX2_move_X3_takeFirst : GoodIn wsX2_move wsX3_takeFirst := goodIn_r _ [26, 27, 28, 29, 30, 31, 32, 25, 33, 53, 54, 55] rfl (by decide +kernel)
set_option maxRecDepth 100000 in
theorem gX2_move_X3_takeFirst : GoodIn wsX2_move (wsV RX2 107 RX3 yX3_takeFirst wsX3_takeFirst) := goodIn_app (goodIn_of _ (by decide +kernel)) ggX2_move_X3_takeFirst
set_option maxRecDepth 100000 in
theorem ggX2_move_X2_write : GoodIn wsX2_move wsX2_write := goodIn_r _ [37, 4, 38, 47, 48, 49, 50, 51, 52] rfl (by decide +kernel)
set_option maxRecDepth 100000 in
theorem gX2_move_X2_write : GoodIn wsX2_move (wsV RX2 110 RX2 yX2_write wsX2_write) := goodIn_app (goodIn_of _ (by decide +kernel)) ggX2_move_X2_write
set_option maxRecDepth 100000 in
theorem ggX2_move_X2_push : GoodIn wsX2_move wsX2_push := goodIn_r _ [42, 1, 34, 35, 36, 18, 37, 4, 38, 47, 48, 49, 50, 51, 52] rfl (by decide +kernel)
set_option maxRecDepth 100000 in
theorem gX2_move_X2_push : GoodIn wsX2_move (wsV RX2 37 RX2 yX2_push wsX2_push) := goodIn_app (goodIn_of _ (by decide +kernel)) ggX2_move_X2_push
set_option maxRecDepth 100000 in
theorem ggX2_move_X2_pop : GoodIn wsX2_move wsX2_pop := goodIn_r _ [46, 4, 1, 47, 48, 49, 50, 51, 52] rfl (by decide +kernel)
set_option maxRecDepth 100000 in
theorem gX2_move_X2_pop : GoodIn wsX2_move (wsV RX2 94 RX2 yX2_pop wsX2_pop) := goodIn_app (goodIn_of _ (by decide +kernel)) ggX2_move_X2_pop
theorem dX2_move_0 : decode cX2_move 0 = .ok (.iload_n 2, 1) := by decide +kernel
theorem dX2_move_1 : decode cX2_move 1 = .ok (.invokestatic 72, 3) := by decide +kernel
theorem dX2_move_4 : decode cX2_move 4 = .ok (.istore_n 3, 1) := by decide +kernel
theorem dX2_move_5 : decode cX2_move 5 = .ok (.aload_n 0, 1) := by decide +kernel
theorem dX2_move_6 : decode cX2_move 6 = .ok (.getfield 9, 3) := by decide +kernel
theorem dX2_move_9 : decode cX2_move 9 = .ok (.iload_n 2, 1) := by decide +kernel
theorem dX2_move_10 : decode cX2_move 10 = .ok (.invokestatic 78, 3) := by decide +kernel
theorem dX2_move_13 : decode cX2_move 13 = .ok (.iaload, 1) := by decide +kernel
theorem dX2_move_14 : decode cX2_move 14 = .ok (.iload_n 2, 1) := by decide +kernel
theorem dX2_move_15 : decode cX2_move 15 = .ok (.invokestatic 75, 3) := by decide +kernel
theorem dX2_move_18 : decode cX2_move 18 = .ok (.iadd, 1) := by decide +kernel
theorem dX2_move_19 : decode cX2_move 19 = .ok (.sipush 255, 3) := by decide +kernel
theorem dX2_move_22 : decode cX2_move 22 = .ok (.iand, 1) := by decide +kernel
theorem dX2_move_23 : decode cX2_move 23 = .ok (.istore 4, 2) := by decide +kernel
theorem dX2_move_25 : decode cX2_move 25 = .ok (.iload_n 1, 1) := by decide +kernel
theorem dX2_move_26 : decode cX2_move 26 = .ok (.tableswitch 264 2 28 #[122, 135, 264, 165, 176, 264, 264, 264, 264, 264, 264, 264, 264, 264, 264, 194, 264, 264, 264, 207, 223, 264, 264, 264, 264, 238, 251], 122) := by decide +kernel
theorem dX2_move_148 : decode cX2_move 148 = .ok (.aload_n 0, 1) := by decide +kernel
theorem dX2_move_149 : decode cX2_move 149 = .ok (.aload_n 0, 1) := by decide +kernel
theorem dX2_move_150 : decode cX2_move 150 = .ok (.getfield 9, 3) := by decide +kernel
theorem dX2_move_153 : decode cX2_move 153 = .ok (.iconst 0, 1) := by decide +kernel
theorem dX2_move_154 : decode cX2_move 154 = .ok (.iaload, 1) := by decide +kernel
theorem dX2_move_155 : decode cX2_move 155 = .ok (.invokevirtual 101, 3) := by decide +kernel
theorem dX2_move_158 : decode cX2_move 158 = .ok (.goto 132, 3) := by decide +kernel
theorem dX2_move_161 : decode cX2_move 161 = .ok (.aload_n 0, 1) := by decide +kernel
theorem dX2_move_162 : decode cX2_move 162 = .ok (.getfield 9, 3) := by decide +kernel
theorem dX2_move_165 : decode cX2_move 165 = .ok (.iconst 0, 1) := by decide +kernel
theorem dX2_move_166 : decode cX2_move 166 = .ok (.aload_n 0, 1) := by decide +kernel
theorem dX2_move_167 : decode cX2_move 167 = .ok (.getfield 23, 3) := by decide +kernel
theorem dX2_move_170 : decode cX2_move 170 = .ok (.getfield 104, 3) := by decide +kernel
theorem dX2_move_173 : decode cX2_move 173 = .ok (.ifCond .ne 7, 3) := by decide +kernel
theorem dX2_move_176 : decode cX2_move 176 = .ok (.iconst 0, 1) := by decide +kernel
theorem dX2_move_177 : decode cX2_move 177 = .ok (.goto 10, 3) := by decide +kernel
theorem dX2_move_180 : decode cX2_move 180 = .ok (.aload_n 0, 1) := by decide +kernel
theorem dX2_move_181 : decode cX2_move 181 = .ok (.getfield 23, 3) := by decide +kernel
theorem dX2_move_184 : decode cX2_move 184 = .ok (.invokevirtual 107, 3) := by decide +kernel
theorem dX2_move_187 : decode cX2_move 187 = .ok (.iastore, 1) := by decide +kernel
theorem dX2_move_188 : decode cX2_move 188 = .ok (.goto 102, 3) := by decide +kernel
theorem dX2_move_191 : decode cX2_move 191 = .ok (.aload_n 0, 1) := by decide +kernel
theorem dX2_move_192 : decode cX2_move 192 = .ok (.getfield 9, 3) := by decide +kernel
theorem dX2_move_195 : decode cX2_move 195 = .ok (.bipush 8, 2) := by decide +kernel
theorem dX2_move_197 : decode cX2_move 197 = .ok (.iconst 0, 1) := by decide +kernel
theorem dX2_move_198 : decode cX2_move 198 = .ok (.iastore, 1) := by decide +kernel
theorem dX2_move_199 : decode cX2_move 199 = .ok (.goto 91, 3) := by decide +kernel
theorem dX2_move_202 : decode cX2_move 202 = .ok (.aload_n 0, 1) := by decide +kernel
theorem dX2_move_203 : decode cX2_move 203 = .ok (.getfield 9, 3) := by decide +kernel
theorem dX2_move_206 : decode cX2_move 206 = .ok (.iload_n 3, 1) := by decide +kernel
theorem dX2_move_207 : decode cX2_move 207 = .ok (.aload_n 0, 1) := by decide +kernel
theorem dX2_move_208 : decode cX2_move 208 = .ok (.getfield 9, 3) := by decide +kernel
theorem dX2_move_211 : decode cX2_move 211 = .ok (.iload_n 2, 1) := by decide +kernel
theorem dX2_move_212 : decode cX2_move 212 = .ok (.invokestatic 78, 3) := by decide +kernel
theorem dX2_move_215 : decode cX2_move 215 = .ok (.iaload, 1) := by decide +kernel
theorem dX2_move_216 : decode cX2_move 216 = .ok (.iastore, 1) := by decide +kernel
theorem dX2_move_217 : decode cX2_move 217 = .ok (.goto 73, 3) := by decide +kernel
theorem dX2_move_220 : decode cX2_move 220 = .ok (.aload_n 0, 1) := by decide +kernel
theorem dX2_move_221 : decode cX2_move 221 = .ok (.getfield 9, 3) := by decide +kernel
theorem dX2_move_224 : decode cX2_move 224 = .ok (.iload_n 3, 1) := by decide +kernel
theorem dX2_move_225 : decode cX2_move 225 = .ok (.iload_n 2, 1) := by decide +kernel
theorem dX2_move_226 : decode cX2_move 226 = .ok (.invokestatic 75, 3) := by decide +kernel
theorem dX2_move_229 : decode cX2_move 229 = .ok (.iastore, 1) := by decide +kernel
theorem dX2_move_230 : decode cX2_move 230 = .ok (.goto 60, 3) := by decide +kernel
theorem dX2_move_233 : decode cX2_move 233 = .ok (.aload_n 0, 1) := by decide +kernel
theorem dX2_move_234 : decode cX2_move 234 = .ok (.getfield 9, 3) := by decide +kernel
theorem dX2_move_237 : decode cX2_move 237 = .ok (.iload_n 3, 1) := by decide +kernel
theorem dX2_move_238 : decode cX2_move 238 = .ok (.aload_n 0, 1) := by decide +kernel
theorem dX2_move_239 : decode cX2_move 239 = .ok (.getfield 15, 3) := by decide +kernel
theorem dX2_move_242 : decode cX2_move 242 = .ok (.iload 4, 2) := by decide +kernel
theorem dX2_move_244 : decode cX2_move 244 = .ok (.iaload, 1) := by decide +kernel
theorem dX2_move_245 : decode cX2_move 245 = .ok (.iastore, 1) := by decide +kernel
theorem dX2_move_246 : decode cX2_move 246 = .ok (.goto 44, 3) := by decide +kernel
theorem dX2_move_249 : decode cX2_move 249 = .ok (.aload_n 0, 1) := by decide +kernel
theorem dX2_move_250 : decode cX2_move 250 = .ok (.iload 4, 2) := by decide +kernel
theorem dX2_move_252 : decode cX2_move 252 = .ok (.aload_n 0, 1) := by decide +kernel
theorem dX2_move_253 : decode cX2_move 253 = .ok (.getfield 9, 3) := by decide +kernel
theorem dX2_move_256 : decode cX2_move 256 = .ok (.iload_n 3, 1) := by decide +kernel
theorem dX2_move_257 : decode cX2_move 257 = .ok (.iaload, 1) := by decide +kernel
theorem dX2_move_258 : decode cX2_move 258 = .ok (.invokevirtual 110, 3) := by decide +kernel
theorem dX2_move_261 : decode cX2_move 261 = .ok (.goto 29, 3) := by decide +kernel
theorem dX2_move_264 : decode cX2_move 264 = .ok (.aload_n 0, 1) := by decide +kernel
theorem dX2_move_265 : decode cX2_move 265 = .ok (.aload_n 0, 1) := by decide +kernel
theorem dX2_move_266 : decode cX2_move 266 = .ok (.getfield 9, 3) := by decide +kernel
theorem dX2_move_269 : decode cX2_move 269 = .ok (.iload_n 3, 1) := by decide +kernel
theorem dX2_move_270 : decode cX2_move 270 = .ok (.iaload, 1) := by decide +kernel
theorem dX2_move_271 : decode cX2_move 271 = .ok (.invokevirtual 37, 3) := by decide +kernel
theorem dX2_move_274 : decode cX2_move 274 = .ok (.goto 16, 3) := by decide +kernel
theorem dX2_move_277 : decode cX2_move 277 = .ok (.aload_n 0, 1) := by decide +kernel
theorem dX2_move_278 : decode cX2_move 278 = .ok (.getfield 9, 3) := by decide +kernel
theorem dX2_move_281 : decode cX2_move 281 = .ok (.iload_n 3, 1) := by decide +kernel
theorem dX2_move_282 : decode cX2_move 282 = .ok (.aload_n 0, 1) := by decide +kernel
theorem dX2_move_283 : decode cX2_move 283 = .ok (.invokevirtual 94, 3) := by decide +kernel
theorem dX2_move_286 : decode cX2_move 286 = .ok (.iastore, 1) := by decide +kernel
theorem dX2_move_287 : decode cX2_move 287 = .ok (.goto 3, 3) := by decide +kernel
theorem dX2_move_290 : decode cX2_move 290 = .ok (.return_, 1) := by decide +kernel
theorem dX2_give_0 : decode cX2_give 0 = .ok (.aload_n 0, 1) := by decide +kernel
theorem dX2_give_1 : decode cX2_give 1 = .ok (.getfield 34, 3) := by decide +kernel
theorem dX2_give_4 : decode cX2_give 4 = .ok (.ifCond .lt 22, 3) := by decide +kernel
theorem dX2_give_7 : decode cX2_give 7 = .ok (.aload_n 0, 1) := by decide +kernel
theorem dX2_give_8 : decode cX2_give 8 = .ok (.getfield 34, 3) := by decide +kernel
theorem dX2_give_11 : decode cX2_give 11 = .ok (.bipush 100, 2) := by decide +kernel
theorem dX2_give_13 : decode cX2_give 13 = .ok (.if_icmp .ge 13, 3) := by decide +kernel
theorem dX2_give_16 : decode cX2_give 16 = .ok (.aload_n 0, 1) := by decide +kernel
theorem dX2_give_17 : decode cX2_give 17 = .ok (.getfield 27, 3) := by decide +kernel
theorem dX2_give_20 : decode cX2_give 20 = .ok (.aload_n 0, 1) := by decide +kernel
theorem dX2_give_21 : decode cX2_give 21 = .ok (.getfield 34, 3) := by decide +kernel
theorem dX2_give_24 : decode cX2_give 24 = .ok (.iload_n 1, 1) := by decide +kernel
theorem dX2_give_25 : decode cX2_give 25 = .ok (.iastore, 1) := by decide +kernel
theorem dX2_give_26 : decode cX2_give 26 = .ok (.aload_n 0, 1) := by decide +kernel
theorem dX2_give_27 : decode cX2_give 27 = .ok (.dup, 1) := by decide +kernel
theorem dX2_give_28 : decode cX2_give 28 = .ok (.getfield 34, 3) := by decide +kernel
theorem dX2_give_31 : decode cX2_give 31 = .ok (.iconst 1, 1) := by decide +kernel
theorem dX2_give_32 : decode cX2_give 32 = .ok (.iadd, 1) := by decide +kernel
theorem dX2_give_33 : decode cX2_give 33 = .ok (.putfield 34, 3) := by decide +kernel
theorem dX2_give_36 : decode cX2_give 36 = .ok (.return_, 1) := by decide +kernel
set_option maxRecDepth 100000 in
theorem ggX2_push_X2_write : GoodIn wsX2_push wsX2_write := goodIn_r _ [6, 7, 8, 9, 10, 11, 12, 13, 14] rfl (by decide +kernel)
set_option maxRecDepth 100000 in
theorem gX2_push_X2_write : GoodIn wsX2_push (wsV RX2 110 RX2 yX2_write wsX2_write) := goodIn_app (goodIn_of _ (by decide +kernel)) ggX2_push_X2_write
theorem dX2_push_0 : decode cX2_push 0 = .ok (.aload_n 0, 1) := by decide +kernel
theorem dX2_push_1 : decode cX2_push 1 = .ok (.getfield 9, 3) := by decide +kernel
theorem dX2_push_4 : decode cX2_push 4 = .ok (.iconst 4, 1) := by decide +kernel
theorem dX2_push_5 : decode cX2_push 5 = .ok (.aload_n 0, 1) := by decide +kernel
theorem dX2_push_6 : decode cX2_push 6 = .ok (.getfield 9, 3) := by decide +kernel
theorem dX2_push_9 : decode cX2_push 9 = .ok (.iconst 4, 1) := by decide +kernel
theorem dX2_push_10 : decode cX2_push 10 = .ok (.iaload, 1) := by decide +kernel
theorem dX2_push_11 : decode cX2_push 11 = .ok (.iconst 1, 1) := by decide +kernel
theorem dX2_push_12 : decode cX2_push 12 = .ok (.isub, 1) := by decide +kernel
theorem dX2_push_13 : decode cX2_push 13 = .ok (.sipush 255, 3) := by decide +kernel
theorem dX2_push_16 : decode cX2_push 16 = .ok (.iand, 1) := by decide +kernel
theorem dX2_push_17 : decode cX2_push 17 = .ok (.iastore, 1) := by decide +kernel
theorem dX2_push_18 : decode cX2_push 18 = .ok (.aload_n 0, 1) := by decide +kernel
theorem dX2_push_19 : decode cX2_push 19 = .ok (.aload_n 0, 1) := by decide +kernel
theorem dX2_push_20 : decode cX2_push 20 = .ok (.getfield 9, 3) := by decide +kernel
theorem dX2_push_23 : decode cX2_push 23 = .ok (.iconst 4, 1) := by decide +kernel
theorem dX2_push_24 : decode cX2_push 24 = .ok (.iaload, 1) := by decide +kernel
theorem dX2_push_25 : decode cX2_push 25 = .ok (.iload_n 1, 1) := by decide +kernel
theorem dX2_push_26 : decode cX2_push 26 = .ok (.invokevirtual 110, 3) := by decide +kernel
theorem dX2_push_29 : decode cX2_push 29 = .ok (.return_, 1) := by decide +kernel
theorem dX2_pop_0 : decode cX2_pop 0 = .ok (.aload_n 0, 1) := by decide +kernel
theorem dX2_pop_1 : decode cX2_pop 1 = .ok (.getfield 15, 3) := by decide +kernel
theorem dX2_pop_4 : decode cX2_pop 4 = .ok (.aload_n 0, 1) := by decide +kernel
theorem dX2_pop_5 : decode cX2_pop 5 = .ok (.getfield 9, 3) := by decide +kernel
theorem dX2_pop_8 : decode cX2_pop 8 = .ok (.iconst 4, 1) := by decide +kernel
theorem dX2_pop_9 : decode cX2_pop 9 = .ok (.iaload, 1) := by decide +kernel
theorem dX2_pop_10 : decode cX2_pop 10 = .ok (.iaload, 1) := by decide +kernel
theorem dX2_pop_11 : decode cX2_pop 11 = .ok (.istore_n 1, 1) := by decide +kernel
theorem dX2_pop_12 : decode cX2_pop 12 = .ok (.aload_n 0, 1) := by decide +kernel
theorem dX2_pop_13 : decode cX2_pop 13 = .ok (.getfield 9, 3) := by decide +kernel
theorem dX2_pop_16 : decode cX2_pop 16 = .ok (.iconst 4, 1) := by decide +kernel
theorem dX2_pop_17 : decode cX2_pop 17 = .ok (.aload_n 0, 1) := by decide +kernel
theorem dX2_pop_18 : decode cX2_pop 18 = .ok (.getfield 9, 3) := by decide +kernel
theorem dX2_pop_21 : decode cX2_pop 21 = .ok (.iconst 4, 1) := by decide +kernel
theorem dX2_pop_22 : decode cX2_pop 22 = .ok (.iaload, 1) := by decide +kernel
theorem dX2_pop_23 : decode cX2_pop 23 = .ok (.iconst 1, 1) := by decide +kernel
theorem dX2_pop_24 : decode cX2_pop 24 = .ok (.iadd, 1) := by decide +kernel
theorem dX2_pop_25 : decode cX2_pop 25 = .ok (.sipush 255, 3) := by decide +kernel
theorem dX2_pop_28 : decode cX2_pop 28 = .ok (.iand, 1) := by decide +kernel
theorem dX2_pop_29 : decode cX2_pop 29 = .ok (.iastore, 1) := by decide +kernel
theorem dX2_pop_30 : decode cX2_pop 30 = .ok (.iload_n 1, 1) := by decide +kernel
theorem dX2_pop_31 : decode cX2_pop 31 = .ok (.ireturn, 1) := by decide +kernel
theorem dX2_write_0 : decode cX2_write 0 = .ok (.aload_n 0, 1) := by decide +kernel
theorem dX2_write_1 : decode cX2_write 1 = .ok (.getfield 15, 3) := by decide +kernel
theorem dX2_write_4 : decode cX2_write 4 = .ok (.iload_n 1, 1) := by decide +kernel
theorem dX2_write_5 : decode cX2_write 5 = .ok (.iload_n 2, 1) := by decide +kernel
theorem dX2_write_6 : decode cX2_write 6 = .ok (.iastore, 1) := by decide +kernel
theorem dX2_write_7 : decode cX2_write 7 = .ok (.aload_n 0, 1) := by decide +kernel
theorem dX2_write_8 : decode cX2_write 8 = .ok (.iload_n 1, 1) := by decide +kernel
theorem dX2_write_9 : decode cX2_write 9 = .ok (.putfield 30, 3) := by decide +kernel
theorem dX2_write_12 : decode cX2_write 12 = .ok (.return_, 1) := by decide +kernel
theorem dX3_init_0 : decode cX3_init 0 = .ok (.aload_n 0, 1) := by decide +kernel
theorem dX3_init_1 : decode cX3_init 1 = .ok (.invokespecial 1, 3) := by decide +kernel
theorem dX3_init_4 : decode cX3_init 4 = .ok (.aload_n 0, 1) := by decide +kernel
theorem dX3_init_5 : decode cX3_init 5 = .ok (.iload_n 1, 1) := by decide +kernel
theorem dX3_init_6 : decode cX3_init 6 = .ok (.newarray .int, 2) := by decide +kernel
theorem dX3_init_8 : decode cX3_init 8 = .ok (.putfield 7, 3) := by decide +kernel
theorem dX3_init_11 : decode cX3_init 11 = .ok (.return_, 1) := by decide +kernel
theorem dX3_isFull_0 : decode cX3_isFull 0 = .ok (.aload_n 0, 1) := by decide +kernel
theorem dX3_isFull_1 : decode cX3_isFull 1 = .ok (.getfield 13, 3) := by decide +kernel
theorem dX3_isFull_4 : decode cX3_isFull 4 = .ok (.aload_n 0, 1) := by decide +kernel
theorem dX3_isFull_5 : decode cX3_isFull 5 = .ok (.getfield 7, 3) := by decide +kernel
theorem dX3_isFull_8 : decode cX3_isFull 8 = .ok (.arraylength, 1) := by decide +kernel
theorem dX3_isFull_9 : decode cX3_isFull 9 = .ok (.if_icmp .lt 7, 3) := by decide +kernel
theorem dX3_isFull_12 : decode cX3_isFull 12 = .ok (.iconst 1, 1) := by decide +kernel
theorem dX3_isFull_13 : decode cX3_isFull 13 = .ok (.goto 4, 3) := by decide +kernel
theorem dX3_isFull_16 : decode cX3_isFull 16 = .ok (.iconst 0, 1) := by decide +kernel
theorem dX3_isFull_17 : decode cX3_isFull 17 = .ok (.ireturn, 1) := by decide +kernel
set_option maxRecDepth 100000 in
theorem ggX3_at_X3_wrapped : GoodIn wsX3_at wsX3_wrapped := goodIn_r _ [7, 1, 8, 9, 10] rfl (by decide +kernel)
set_option maxRecDepth 100000 in
theorem gX3_at_X3_wrapped : GoodIn wsX3_at (wsV RX3 20 RX3 yX3_wrapped wsX3_wrapped) := goodIn_app (goodIn_of _ (by decide +kernel)) ggX3_at_X3_wrapped
theorem dX3_at_0 : decode cX3_at 0 = .ok (.aload_n 0, 1) := by decide +kernel
theorem dX3_at_1 : decode cX3_at 1 = .ok (.getfield 7, 3) := by decide +kernel
theorem dX3_at_4 : decode cX3_at 4 = .ok (.aload_n 0, 1) := by decide +kernel
theorem dX3_at_5 : decode cX3_at 5 = .ok (.aload_n 0, 1) := by decide +kernel
theorem dX3_at_6 : decode cX3_at 6 = .ok (.getfield 17, 3) := by decide +kernel
theorem dX3_at_9 : decode cX3_at 9 = .ok (.iload_n 1, 1) := by decide +kernel
theorem dX3_at_10 : decode cX3_at 10 = .ok (.iadd, 1) := by decide +kernel
theorem dX3_at_11 : decode cX3_at 11 = .ok (.invokevirtual 20, 3) := by decide +kernel
theorem dX3_at_14 : decode cX3_at 14 = .ok (.iaload, 1) := by decide +kernel
theorem dX3_at_15 : decode cX3_at 15 = .ok (.ireturn, 1) := by decide +kernel
theorem dX3_first_0 : decode cX3_first 0 = .ok (.aload_n 0, 1) := by decide +kernel
theorem dX3_first_1 : decode cX3_first 1 = .ok (.getfield 7, 3) := by decide +kernel
theorem dX3_first_4 : decode cX3_first 4 = .ok (.aload_n 0, 1) := by decide +kernel
theorem dX3_first_5 : decode cX3_first 5 = .ok (.getfield 17, 3) := by decide +kernel
theorem dX3_first_8 : decode cX3_first 8 = .ok (.iaload, 1) := by decide +kernel
theorem dX3_first_9 : decode cX3_first 9 = .ok (.ireturn, 1) := by decide +kernel
set_option maxRecDepth 100000 in
theorem ggX3_append_X3_wrapped : GoodIn wsX3_append wsX3_wrapped := goodIn_r _ [8, 1, 9, 10, 11] rfl (by decide +kernel)
set_option maxRecDepth 100000 in
theorem gX3_append_X3_wrapped : GoodIn wsX3_append (wsV RX3 20 RX3 yX3_wrapped wsX3_wrapped) := goodIn_app (goodIn_of _ (by decide +kernel)) ggX3_append_X3_wrapped
theorem dX3_append_0 : decode cX3_append 0 = .ok (.aload_n 0, 1) := by decide +kernel
theorem dX3_append_1 : decode cX3_append 1 = .ok (.getfield 7, 3) := by decide +kernel
theorem dX3_append_4 : decode cX3_append 4 = .ok (.aload_n 0, 1) := by decide +kernel
theorem dX3_append_5 : decode cX3_append 5 = .ok (.aload_n 0, 1) := by decide +kernel
theorem dX3_append_6 : decode cX3_append 6 = .ok (.getfield 17, 3) := by decide +kernel
theorem dX3_append_9 : decode cX3_append 9 = .ok (.aload_n 0, 1) := by decide +kernel
theorem dX3_append_10 : decode cX3_append 10 = .ok (.getfield 13, 3) := by decide +kernel
theorem dX3_append_13 : decode cX3_append 13 = .ok (.iadd, 1) := by decide +kernel
theorem dX3_append_14 : decode cX3_append 14 = .ok (.invokevirtual 20, 3) := by decide +kernel
theorem dX3_append_17 : decode cX3_append 17 = .ok (.iload_n 1, 1) := by decide +kernel
theorem dX3_append_18 : decode cX3_append 18 = .ok (.iastore, 1) := by decide +kernel
theorem dX3_append_19 : decode cX3_append 19 = .ok (.aload_n 0, 1) := by decide +kernel
theorem dX3_append_20 : decode cX3_append 20 = .ok (.dup, 1) := by decide +kernel
theorem dX3_append_21 : decode cX3_append 21 = .ok (.getfield 13, 3) := by decide +kernel
theorem dX3_append_24 : decode cX3_append 24 = .ok (.iconst 1, 1) := by decide +kernel
theorem dX3_append_25 : decode cX3_append 25 = .ok (.iadd, 1) := by decide +kernel
theorem dX3_append_26 : decode cX3_append 26 = .ok (.putfield 13, 3) := by decide +kernel
theorem dX3_append_29 : decode cX3_append 29 = .ok (.return_, 1) := by decide +kernel
set_option maxRecDepth 100000 in
theorem ggX3_takeFirst_X3_wrapped : GoodIn wsX3_takeFirst wsX3_wrapped := goodIn_r _ [8, 1, 9, 10, 11] rfl (by decide +kernel)
set_option maxRecDepth 100000 in
theorem gX3_takeFirst_X3_wrapped : GoodIn wsX3_takeFirst (wsV RX3 20 RX3 yX3_wrapped wsX3_wrapped) := goodIn_app (goodIn_of _ (by decide +kernel)) ggX3_takeFirst_X3_wrapped
theorem dX3_takeFirst_0 : decode cX3_takeFirst 0 = .ok (.aload_n 0, 1) := by decide +kernel
theorem dX3_takeFirst_1 : decode cX3_takeFirst 1 = .ok (.getfield 7, 3) := by decide +kernel
theorem dX3_takeFirst_4 : decode cX3_takeFirst 4 = .ok (.aload_n 0, 1) := by decide +kernel
theorem dX3_takeFirst_5 : decode cX3_takeFirst 5 = .ok (.getfield 17, 3) := by decide +kernel
theorem dX3_takeFirst_8 : decode cX3_takeFirst 8 = .ok (.iaload, 1) := by decide +kernel
theorem dX3_takeFirst_9 : decode cX3_takeFirst 9 = .ok (.istore_n 1, 1) := by decide +kernel
theorem dX3_takeFirst_10 : decode cX3_takeFirst 10 = .ok (.aload_n 0, 1) := by decide +kernel
theorem dX3_takeFirst_11 : decode cX3_takeFirst 11 = .ok (.aload_n 0, 1) := by decide +kernel
theorem dX3_takeFirst_12 : decode cX3_takeFirst 12 = .ok (.aload_n 0, 1) := by decide +kernel
theorem dX3_takeFirst_13 : decode cX3_takeFirst 13 = .ok (.getfield 17, 3) := by decide +kernel
theorem dX3_takeFirst_16 : decode cX3_takeFirst 16 = .ok (.iconst 1, 1) := by decide +kernel
theorem dX3_takeFirst_17 : decode cX3_takeFirst 17 = .ok (.iadd, 1) := by decide +kernel
theorem dX3_takeFirst_18 : decode cX3_takeFirst 18 = .ok (.invokevirtual 20, 3) := by decide +kernel
theorem dX3_takeFirst_21 : decode cX3_takeFirst 21 = .ok (.putfield 17, 3) := by decide +kernel
theorem dX3_takeFirst_24 : decode cX3_takeFirst 24 = .ok (.aload_n 0, 1) := by decide +kernel
theorem dX3_takeFirst_25 : decode cX3_takeFirst 25 = .ok (.dup, 1) := by decide +kernel
theorem dX3_takeFirst_26 : decode cX3_takeFirst 26 = .ok (.getfield 13, 3) := by decide +kernel
theorem dX3_takeFirst_29 : decode cX3_takeFirst 29 = .ok (.iconst 1, 1) := by decide +kernel
theorem dX3_takeFirst_30 : decode cX3_takeFirst 30 = .ok (.isub, 1) := by decide +kernel
theorem dX3_takeFirst_31 : decode cX3_takeFirst 31 = .ok (.putfield 13, 3) := by decide +kernel
theorem dX3_takeFirst_34 : decode cX3_takeFirst 34 = .ok (.iload_n 1, 1) := by decide +kernel
theorem dX3_takeFirst_35 : decode cX3_takeFirst 35 = .ok (.ireturn, 1) := by decide +kernel
theorem dX3_wrapped_0 : decode cX3_wrapped 0 = .ok (.iload_n 1, 1) := by decide +kernel
theorem dX3_wrapped_1 : decode cX3_wrapped 1 = .ok (.aload_n 0, 1) := by decide +kernel
theorem dX3_wrapped_2 : decode cX3_wrapped 2 = .ok (.getfield 7, 3) := by decide +kernel
theorem dX3_wrapped_5 : decode cX3_wrapped 5 = .ok (.arraylength, 1) := by decide +kernel
theorem dX3_wrapped_6 : decode cX3_wrapped 6 = .ok (.if_icmp .ge 7, 3) := by decide +kernel
theorem dX3_wrapped_9 : decode cX3_wrapped 9 = .ok (.iload_n 1, 1) := by decide +kernel
theorem dX3_wrapped_10 : decode cX3_wrapped 10 = .ok (.goto 10, 3) := by decide +kernel
theorem dX3_wrapped_13 : decode cX3_wrapped 13 = .ok (.iload_n 1, 1) := by decide +kernel
theorem dX3_wrapped_14 : decode cX3_wrapped 14 = .ok (.aload_n 0, 1) := by decide +kernel
theorem dX3_wrapped_15 : decode cX3_wrapped 15 = .ok (.getfield 7, 3) := by decide +kernel
theorem dX3_wrapped_18 : decode cX3_wrapped 18 = .ok (.arraylength, 1) := by decide +kernel
theorem dX3_wrapped_19 : decode cX3_wrapped 19 = .ok (.isub, 1) := by decide +kernel
theorem dX3_wrapped_20 : decode cX3_wrapped 20 = .ok (.ireturn, 1) := by decide +kernel
set_option maxRecDepth 100000 in
theorem ggX4_init_X2_init : GoodIn wsX4_init wsX2_init := goodIn_r _ [19, 20, 2, 3, 21, 22, 23, 24, 13, 14, 25, 26, 27, 28, 29, 30, 31, 32, 45, 46, 47, 48, 49, 50, 75, 76, 77] rfl (by decide +kernel)
set_option maxRecDepth 100000 in
theorem gX4_init_X2_init_n9 : GoodIn wsX4_init (wsX2_init) := ggX4_init_X2_init
set_option maxRecDepth 100000 in
theorem ggX4_init_X0_init : GoodIn wsX4_init wsX0_init := goodIn_r _ [34, 35, 2, 3, 21, 36, 37, 38, 39, 40, 41, 42, 43, 62, 63, 64, 65, 66, 67, 68, 69, 70, 71, 72, 73, 74] rfl (by decide +kernel)
set_option maxRecDepth 100000 in
theorem gX4_init_X0_init_n18 : GoodIn wsX4_init (wsX0_init) := ggX4_init_X0_init
set_option maxRecDepth 100000 in
theorem ggX4_init_X3_init : GoodIn wsX4_init wsX3_init := goodIn_r _ [30, 31, 2, 3, 21, 32, 75, 76, 77] rfl (by decide +kernel)
set_option maxRecDepth 100000 in
theorem gX4_init_X3_init : GoodIn wsX4_init (wsX3_init) := ggX4_init_X3_init
theorem dX4_init_0 : decode cX4_init 0 = .ok (.aload_n 0, 1) := by decide +kernel
theorem dX4_init_1 : decode cX4_init 1 = .ok (.invokespecial 1, 3) := by decide +kernel
theorem dX4_init_4 : decode cX4_init 4 = .ok (.aload_n 0, 1) := by decide +kernel
theorem dX4_init_5 : decode cX4_init 5 = .ok (.new 7, 3) := by decide +kernel
theorem dX4_init_8 : decode cX4_init 8 = .ok (.dup, 1) := by decide +kernel
theorem dX4_init_9 : decode cX4_init 9 = .ok (.invokespecial 9, 3) := by decide +kernel
theorem dX4_init_12 : decode cX4_init 12 = .ok (.putfield 10, 3) := by decide +kernel
theorem dX4_init_15 : decode cX4_init 15 = .ok (.aload_n 0, 1) := by decide +kernel
theorem dX4_init_16 : decode cX4_init 16 = .ok (.new 16, 3) := by decide +kernel
theorem dX4_init_19 : decode cX4_init 19 = .ok (.dup, 1) := by decide +kernel
theorem dX4_init_20 : decode cX4_init 20 = .ok (.invokespecial 18, 3) := by decide +kernel
theorem dX4_init_23 : decode cX4_init 23 = .ok (.putfield 19, 3) := by decide +kernel
theorem dX4_init_26 : decode cX4_init 26 = .ok (.aload_n 0, 1) := by decide +kernel
theorem dX4_init_27 : decode cX4_init 27 = .ok (.new 23, 3) := by decide +kernel
theorem dX4_init_30 : decode cX4_init 30 = .ok (.dup, 1) := by decide +kernel
theorem dX4_init_31 : decode cX4_init 31 = .ok (.bipush 16, 2) := by decide +kernel
theorem dX4_init_33 : decode cX4_init 33 = .ok (.invokespecial 25, 3) := by decide +kernel
theorem dX4_init_36 : decode cX4_init 36 = .ok (.putfield 28, 3) := by decide +kernel
theorem dX4_init_39 : decode cX4_init 39 = .ok (.aload_n 0, 1) := by decide +kernel
theorem dX4_init_40 : decode cX4_init 40 = .ok (.iconst (-1), 1) := by decide +kernel
theorem dX4_init_41 : decode cX4_init 41 = .ok (.putfield 32, 3) := by decide +kernel
theorem dX4_init_44 : decode cX4_init 44 = .ok (.aload_n 0, 1) := by decide +kernel
theorem dX4_init_45 : decode cX4_init 45 = .ok (.iconst (-1), 1) := by decide +kernel
theorem dX4_init_46 : decode cX4_init 46 = .ok (.putfield 36, 3) := by decide +kernel
theorem dX4_init_49 : decode cX4_init 49 = .ok (.return_, 1) := by decide +kernel
set_option maxRecDepth 100000 in
theorem ggX4_poke_X4_isByte : GoodIn wsX4_poke wsX4_isByte := goodIn_r _ [9] rfl (by decide +kernel)
set_option maxRecDepth 100000 in
theorem gX4_poke_X4_isByte : GoodIn wsX4_poke (va_wsS RX4 39 yX4_isByte wsX4_isByte) := goodIn_app (goodIn_of _ (by decide +kernel)) ggX4_poke_X4_isByte
set_option maxRecDepth 100000 in
theorem ggX4_poke_X0_dropPage : GoodIn wsX4_poke wsX0_dropPage := goodIn_r _ [14, 15, 16, 17, 18, 19, 20, 21, 13, 22, 23, 24, 25, 26, 27, 45, 46, 47, 48, 49, 50, 51, 52, 53, 54, 55, 56, 57] rfl (by decide +kernel)
set_option maxRecDepth 100000 in
theorem gX4_poke_X0_dropPage : GoodIn wsX4_poke (wsV RX4 50 RX0 yX0_dropPage wsX0_dropPage) := goodIn_app (goodIn_of _ (by decide +kernel)) ggX4_poke_X0_dropPage
theorem dX4_poke_0 : decode cX4_poke 0 = .ok (.iload_n 1, 1) := by decide +kernel
theorem dX4_poke_1 : decode cX4_poke 1 = .ok (.invokestatic 39, 3) := by decide +kernel
theorem dX4_poke_4 : decode cX4_poke 4 = .ok (.ifCond .eq 13, 3) := by decide +kernel
theorem dX4_poke_7 : decode cX4_poke 7 = .ok (.iload_n 3, 1) := by decide +kernel
theorem dX4_poke_8 : decode cX4_poke 8 = .ok (.iconst 1, 1) := by decide +kernel
theorem dX4_poke_9 : decode cX4_poke 9 = .ok (.if_icmp .lt 8, 3) := by decide +kernel
theorem dX4_poke_12 : decode cX4_poke 12 = .ok (.iload_n 3, 1) := by decide +kernel
theorem dX4_poke_13 : decode cX4_poke 13 = .ok (.iconst 4, 1) := by decide +kernel
theorem dX4_poke_14 : decode cX4_poke 14 = .ok (.if_icmp .le 11, 3) := by decide +kernel
theorem dX4_poke_17 : decode cX4_poke 17 = .ok (.new 43, 3) := by decide +kernel
theorem dX4_poke_20 : decode cX4_poke 20 = .ok (.dup, 1) := by decide +kernel
theorem dX4_poke_21 : decode cX4_poke 21 = .ok (.invokespecial 45, 3) := by decide +kernel
theorem dX4_poke_24 : decode cX4_poke 24 = .ok (.athrow, 1) := by decide +kernel
theorem dX4_poke_25 : decode cX4_poke 25 = .ok (.iconst 0, 1) := by decide +kernel
theorem dX4_poke_26 : decode cX4_poke 26 = .ok (.istore 4, 2) := by decide +kernel
theorem dX4_poke_28 : decode cX4_poke 28 = .ok (.iload 4, 2) := by decide +kernel
theorem dX4_poke_30 : decode cX4_poke 30 = .ok (.iload_n 3, 1) := by decide +kernel
theorem dX4_poke_31 : decode cX4_poke 31 = .ok (.if_icmp .ge 56, 3) := by decide +kernel
theorem dX4_poke_34 : decode cX4_poke 34 = .ok (.iload_n 1, 1) := by decide +kernel
theorem dX4_poke_35 : decode cX4_poke 35 = .ok (.iload 4, 2) := by decide +kernel
theorem dX4_poke_37 : decode cX4_poke 37 = .ok (.iadd, 1) := by decide +kernel
theorem dX4_poke_38 : decode cX4_poke 38 = .ok (.sipush 255, 3) := by decide +kernel
theorem dX4_poke_41 : decode cX4_poke 41 = .ok (.iand, 1) := by decide +kernel
theorem dX4_poke_42 : decode cX4_poke 42 = .ok (.istore 5, 2) := by decide +kernel
theorem dX4_poke_44 : decode cX4_poke 44 = .ok (.aload_n 0, 1) := by decide +kernel
theorem dX4_poke_45 : decode cX4_poke 45 = .ok (.getfield 10, 3) := by decide +kernel
theorem dX4_poke_48 : decode cX4_poke 48 = .ok (.getfield 46, 3) := by decide +kernel
theorem dX4_poke_51 : decode cX4_poke 51 = .ok (.iload 5, 2) := by decide +kernel
theorem dX4_poke_53 : decode cX4_poke 53 = .ok (.iload_n 2, 1) := by decide +kernel
theorem dX4_poke_54 : decode cX4_poke 54 = .ok (.bipush 24, 2) := by decide +kernel
theorem dX4_poke_56 : decode cX4_poke 56 = .ok (.bipush 8, 2) := by decide +kernel
theorem dX4_poke_58 : decode cX4_poke 58 = .ok (.iload 4, 2) := by decide +kernel
theorem dX4_poke_60 : decode cX4_poke 60 = .ok (.imul, 1) := by decide +kernel
theorem dX4_poke_61 : decode cX4_poke 61 = .ok (.isub, 1) := by decide +kernel
theorem dX4_poke_62 : decode cX4_poke 62 = .ok (.iushr, 1) := by decide +kernel
