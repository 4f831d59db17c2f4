theorem dX4_poke_63 : decode cX4_poke 63 = .ok (.sipush 255, 3) := by decide +kernel
theorem dX4_poke_66 : decode cX4_poke 66 = .ok (.iand, 1) := by decide +kernel
theorem dX4_poke_67 : decode cX4_poke 67 = .ok (.iastore, 1) := by decide +kernel
theorem dX4_poke_68 : decode cX4_poke 68 = .ok (.aload_n 0, 1) := by decide +kernel
theorem dX4_poke_69 : decode cX4_poke 69 = .ok (.getfield 19, 3) := by decide +kernel
theorem dX4_poke_72 : decode cX4_poke 72 = .ok (.iload 5, 2) := by decide +kernel
theorem dX4_poke_74 : decode cX4_poke 74 = .ok (.bipush 32, 2) := by decide +kernel
theorem dX4_poke_76 : decode cX4_poke 76 = .ok (.idiv, 1) := by decide +kernel
theorem dX4_poke_77 : decode cX4_poke 77 = .ok (.invokevirtual 50, 3) := by decide +kernel
theorem dX4_poke_80 : decode cX4_poke 80 = .ok (.pop, 1) := by decide +kernel
theorem dX4_poke_81 : decode cX4_poke 81 = .ok (.iinc 4 1, 3) := by decide +kernel
theorem dX4_poke_84 : decode cX4_poke 84 = .ok (.goto (-56), 3) := by decide +kernel
theorem dX4_poke_87 : decode cX4_poke 87 = .ok (.return_, 1) := by decide +kernel
set_option maxRecDepth 100000 in
theorem ggX4_peek_X4_isByte : GoodIn wsX4_peek wsX4_isByte := goodIn_r _ [8] rfl (by decide +kernel)
set_option maxRecDepth 100000 in
theorem gX4_peek_X4_isByte : GoodIn wsX4_peek (va_wsS RX4 39 yX4_isByte wsX4_isByte) := goodIn_app (goodIn_of _ (by decide +kernel)) ggX4_peek_X4_isByte
theorem dX4_peek_0 : decode cX4_peek 0 = .ok (.iload_n 1, 1) := by decide +kernel
theorem dX4_peek_1 : decode cX4_peek 1 = .ok (.invokestatic 39, 3) := by decide +kernel
theorem dX4_peek_4 : decode cX4_peek 4 = .ok (.ifCond .ne 11, 3) := by decide +kernel
theorem dX4_peek_7 : decode cX4_peek 7 = .ok (.new 43, 3) := by decide +kernel
theorem dX4_peek_10 : decode cX4_peek 10 = .ok (.dup, 1) := by decide +kernel
theorem dX4_peek_11 : decode cX4_peek 11 = .ok (.invokespecial 45, 3) := by decide +kernel
theorem dX4_peek_14 : decode cX4_peek 14 = .ok (.athrow, 1) := by decide +kernel
theorem dX4_peek_15 : decode cX4_peek 15 = .ok (.aload_n 0, 1) := by decide +kernel
theorem dX4_peek_16 : decode cX4_peek 16 = .ok (.getfield 10, 3) := by decide +kernel
theorem dX4_peek_19 : decode cX4_peek 19 = .ok (.getfield 46, 3) := by decide +kernel
theorem dX4_peek_22 : decode cX4_peek 22 = .ok (.iload_n 1, 1) := by decide +kernel
theorem dX4_peek_23 : decode cX4_peek 23 = .ok (.iaload, 1) := by decide +kernel
theorem dX4_peek_24 : decode cX4_peek 24 = .ok (.ireturn, 1) := by decide +kernel
set_option maxRecDepth 100000 in
theorem ggX4_set_X4_isState : GoodIn wsX4_set wsX4_isState := goodIn_r _ [8] rfl (by decide +kernel)
set_option maxRecDepth 100000 in
theorem gX4_set_X4_isState : GoodIn wsX4_set (va_wsS RX4 54 yX4_isState wsX4_isState) := goodIn_app (goodIn_of _ (by decide +kernel)) ggX4_set_X4_isState
set_option maxRecDepth 100000 in
theorem ggX4_set_X4_isByte : GoodIn wsX4_set wsX4_isByte := goodIn_r _ [11] rfl (by decide +kernel)
set_option maxRecDepth 100000 in
theorem gX4_set_X4_isByte : GoodIn wsX4_set (va_wsS RX4 39 yX4_isByte wsX4_isByte) := goodIn_app (goodIn_of _ (by decide +kernel)) ggX4_set_X4_isByte
set_option maxRecDepth 100000 in
theorem ggX4_set_X4_isOneBit : GoodIn wsX4_set wsX4_isOneBit := goodIn_r _ [14] rfl (by decide +kernel)
set_option maxRecDepth 100000 in
theorem gX4_set_X4_isOneBit : GoodIn wsX4_set (va_wsS RX4 57 yX4_isOneBit wsX4_isOneBit) := goodIn_app (goodIn_of _ (by decide +kernel)) ggX4_set_X4_isOneBit
theorem dX4_set_0 : decode cX4_set 0 = .ok (.iload_n 1, 1) := by decide +kernel
theorem dX4_set_1 : decode cX4_set 1 = .ok (.invokestatic 54, 3) := by decide +kernel
theorem dX4_set_4 : decode cX4_set 4 = .ok (.ifCond .eq 22, 3) := by decide +kernel
theorem dX4_set_7 : decode cX4_set 7 = .ok (.iload_n 2, 1) := by decide +kernel
theorem dX4_set_8 : decode cX4_set 8 = .ok (.invokestatic 39, 3) := by decide +kernel
theorem dX4_set_11 : decode cX4_set 11 = .ok (.ifCond .eq 15, 3) := by decide +kernel
theorem dX4_set_14 : decode cX4_set 14 = .ok (.iload_n 1, 1) := by decide +kernel
theorem dX4_set_15 : decode cX4_set 15 = .ok (.invokestatic 57, 3) := by decide +kernel
theorem dX4_set_18 : decode cX4_set 18 = .ok (.ifCond .eq 16, 3) := by decide +kernel
theorem dX4_set_21 : decode cX4_set 21 = .ok (.iload_n 2, 1) := by decide +kernel
theorem dX4_set_22 : decode cX4_set 22 = .ok (.iconst 1, 1) := by decide +kernel
theorem dX4_set_23 : decode cX4_set 23 = .ok (.if_icmp .le 11, 3) := by decide +kernel
theorem dX4_set_26 : decode cX4_set 26 = .ok (.new 43, 3) := by decide +kernel
theorem dX4_set_29 : decode cX4_set 29 = .ok (.dup, 1) := by decide +kernel
theorem dX4_set_30 : decode cX4_set 30 = .ok (.invokespecial 45, 3) := by decide +kernel
theorem dX4_set_33 : decode cX4_set 33 = .ok (.athrow, 1) := by decide +kernel
theorem dX4_set_34 : decode cX4_set 34 = .ok (.aload_n 0, 1) := by decide +kernel
theorem dX4_set_35 : decode cX4_set 35 = .ok (.getfield 10, 3) := by decide +kernel
theorem dX4_set_38 : decode cX4_set 38 = .ok (.getfield 60, 3) := by decide +kernel
theorem dX4_set_41 : decode cX4_set 41 = .ok (.iload_n 1, 1) := by decide +kernel
theorem dX4_set_42 : decode cX4_set 42 = .ok (.iload_n 2, 1) := by decide +kernel
theorem dX4_set_43 : decode cX4_set 43 = .ok (.iastore, 1) := by decide +kernel
theorem dX4_set_44 : decode cX4_set 44 = .ok (.return_, 1) := by decide +kernel
set_option maxRecDepth 100000 in
theorem ggX4_get_X4_isState : GoodIn wsX4_get wsX4_isState := goodIn_r _ [8] rfl (by decide +kernel)
set_option maxRecDepth 100000 in
theorem gX4_get_X4_isState : GoodIn wsX4_get (va_wsS RX4 54 yX4_isState wsX4_isState) := goodIn_app (goodIn_of _ (by decide +kernel)) ggX4_get_X4_isState
theorem dX4_get_0 : decode cX4_get 0 = .ok (.iload_n 1, 1) := by decide +kernel
theorem dX4_get_1 : decode cX4_get 1 = .ok (.invokestatic 54, 3) := by decide +kernel
theorem dX4_get_4 : decode cX4_get 4 = .ok (.ifCond .ne 11, 3) := by decide +kernel
theorem dX4_get_7 : decode cX4_get 7 = .ok (.new 43, 3) := by decide +kernel
theorem dX4_get_10 : decode cX4_get 10 = .ok (.dup, 1) := by decide +kernel
theorem dX4_get_11 : decode cX4_get 11 = .ok (.invokespecial 45, 3) := by decide +kernel
theorem dX4_get_14 : decode cX4_get 14 = .ok (.athrow, 1) := by decide +kernel
theorem dX4_get_15 : decode cX4_get 15 = .ok (.aload_n 0, 1) := by decide +kernel
theorem dX4_get_16 : decode cX4_get 16 = .ok (.getfield 10, 3) := by decide +kernel
theorem dX4_get_19 : decode cX4_get 19 = .ok (.getfield 60, 3) := by decide +kernel
theorem dX4_get_22 : decode cX4_get 22 = .ok (.iload_n 1, 1) := by decide +kernel
theorem dX4_get_23 : decode cX4_get 23 = .ok (.iaload, 1) := by decide +kernel
theorem dX4_get_24 : decode cX4_get 24 = .ok (.ireturn, 1) := by decide +kernel
set_option maxRecDepth 100000 in
theorem ggX4_input_X4_isByte : GoodIn wsX4_input wsX4_isByte := goodIn_r _ [11] rfl (by decide +kernel)
set_option maxRecDepth 100000 in
theorem gX4_input_X4_isByte : GoodIn wsX4_input (va_wsS RX4 39 yX4_isByte wsX4_isByte) := goodIn_app (goodIn_of _ (by decide +kernel)) ggX4_input_X4_isByte
set_option maxRecDepth 100000 in
theorem ggX4_input_X3_isFull : GoodIn wsX4_input wsX3_isFull := goodIn_r _ [16, 17, 18, 45, 46, 47] rfl (by decide +kernel)
set_option maxRecDepth 100000 in
theorem gX4_input_X3_isFull : GoodIn wsX4_input (wsV RX4 66 RX3 yX3_isFull wsX3_isFull) := goodIn_app (goodIn_of _ (by decide +kernel)) ggX4_input_X3_isFull
set_option maxRecDepth 100000 in
theorem ggX4_input_X3_append : GoodIn wsX4_input wsX3_append := goodIn_r _ [22, 18, 23, 17, 24, 25, 26, 15, 27, 45, 46, 47] rfl (by decide +kernel)
set_option maxRecDepth 100000 in
theorem gX4_input_X3_append : GoodIn wsX4_input (wsV RX4 73 RX3 yX3_append wsX3_append) := goodIn_app (goodIn_of _ (by decide +kernel)) ggX4_input_X3_append
theorem dX4_input_0 : decode cX4_input 0 = .ok (.iload_n 1, 1) := by decide +kernel
theorem dX4_input_1 : decode cX4_input 1 = .ok (.invokestatic 39, 3) := by decide +kernel
theorem dX4_input_4 : decode cX4_input 4 = .ok (.ifCond .ne 11, 3) := by decide +kernel
theorem dX4_input_7 : decode cX4_input 7 = .ok (.new 43, 3) := by decide +kernel
theorem dX4_input_10 : decode cX4_input 10 = .ok (.dup, 1) := by decide +kernel
theorem dX4_input_11 : decode cX4_input 11 = .ok (.invokespecial 45, 3) := by decide +kernel
theorem dX4_input_14 : decode cX4_input 14 = .ok (.athrow, 1) := by decide +kernel
theorem dX4_input_15 : decode cX4_input 15 = .ok (.aload_n 0, 1) := by decide +kernel
theorem dX4_input_16 : decode cX4_input 16 = .ok (.getfield 10, 3) := by decide +kernel
theorem dX4_input_19 : decode cX4_input 19 = .ok (.getfield 63, 3) := by decide +kernel
theorem dX4_input_22 : decode cX4_input 22 = .ok (.invokevirtual 66, 3) := by decide +kernel
theorem dX4_input_25 : decode cX4_input 25 = .ok (.ifCond .eq 11, 3) := by decide +kernel
theorem dX4_input_28 : decode cX4_input 28 = .ok (.new 70, 3) := by decide +kernel
theorem dX4_input_31 : decode cX4_input 31 = .ok (.dup, 1) := by decide +kernel
theorem dX4_input_32 : decode cX4_input 32 = .ok (.invokespecial 72, 3) := by decide +kernel
theorem dX4_input_35 : decode cX4_input 35 = .ok (.athrow, 1) := by decide +kernel
theorem dX4_input_36 : decode cX4_input 36 = .ok (.aload_n 0, 1) := by decide +kernel
theorem dX4_input_37 : decode cX4_input 37 = .ok (.getfield 10, 3) := by decide +kernel
theorem dX4_input_40 : decode cX4_input 40 = .ok (.getfield 63, 3) := by decide +kernel
theorem dX4_input_43 : decode cX4_input 43 = .ok (.iload_n 1, 1) := by decide +kernel
theorem dX4_input_44 : decode cX4_input 44 = .ok (.invokevirtual 73, 3) := by decide +kernel
theorem dX4_input_47 : decode cX4_input 47 = .ok (.aload_n 0, 1) := by decide +kernel
theorem dX4_input_48 : decode cX4_input 48 = .ok (.getfield 10, 3) := by decide +kernel
theorem dX4_input_51 : decode cX4_input 51 = .ok (.getfield 63, 3) := by decide +kernel
theorem dX4_input_54 : decode cX4_input 54 = .ok (.getfield 76, 3) := by decide +kernel
theorem dX4_input_57 : decode cX4_input 57 = .ok (.ireturn, 1) := by decide +kernel
set_option maxRecDepth 100000 in
theorem ggX4_request_X3_isFull : GoodIn wsX4_request wsX3_isFull := goodIn_r _ [13, 14, 15, 36, 37, 38] rfl (by decide +kernel)
set_option maxRecDepth 100000 in
theorem gX4_request_X3_isFull : GoodIn wsX4_request (wsV RX4 66 RX3 yX3_isFull wsX3_isFull) := goodIn_app (goodIn_of _ (by decide +kernel)) ggX4_request_X3_isFull
set_option maxRecDepth 100000 in
theorem ggX4_request_X3_append : GoodIn wsX4_request wsX3_append := goodIn_r _ [19, 15, 20, 14, 21, 22, 23, 12, 24, 36, 37, 38] rfl (by decide +kernel)
set_option maxRecDepth 100000 in
theorem gX4_request_X3_append : GoodIn wsX4_request (wsV RX4 73 RX3 yX3_append wsX3_append) := goodIn_app (goodIn_of _ (by decide +kernel)) ggX4_request_X3_append
theorem dX4_request_0 : decode cX4_request 0 = .ok (.iload_n 1, 1) := by decide +kernel
theorem dX4_request_1 : decode cX4_request 1 = .ok (.aload_n 0, 1) := by decide +kernel
theorem dX4_request_2 : decode cX4_request 2 = .ok (.getfield 32, 3) := by decide +kernel
theorem dX4_request_5 : decode cX4_request 5 = .ok (.if_icmp .le 11, 3) := by decide +kernel
theorem dX4_request_8 : decode cX4_request 8 = .ok (.iload_n 1, 1) := by decide +kernel
theorem dX4_request_9 : decode cX4_request 9 = .ok (.aload_n 0, 1) := by decide +kernel
theorem dX4_request_10 : decode cX4_request 10 = .ok (.getfield 79, 3) := by decide +kernel
theorem dX4_request_13 : decode cX4_request 13 = .ok (.if_icmp .ge 11, 3) := by decide +kernel
theorem dX4_request_16 : decode cX4_request 16 = .ok (.new 43, 3) := by decide +kernel
theorem dX4_request_19 : decode cX4_request 19 = .ok (.dup, 1) := by decide +kernel
theorem dX4_request_20 : decode cX4_request 20 = .ok (.invokespecial 45, 3) := by decide +kernel
theorem dX4_request_23 : decode cX4_request 23 = .ok (.athrow, 1) := by decide +kernel
theorem dX4_request_24 : decode cX4_request 24 = .ok (.aload_n 0, 1) := by decide +kernel
theorem dX4_request_25 : decode cX4_request 25 = .ok (.getfield 28, 3) := by decide +kernel
theorem dX4_request_28 : decode cX4_request 28 = .ok (.invokevirtual 66, 3) := by decide +kernel
theorem dX4_request_31 : decode cX4_request 31 = .ok (.ifCond .eq 11, 3) := by decide +kernel
theorem dX4_request_34 : decode cX4_request 34 = .ok (.new 70, 3) := by decide +kernel
theorem dX4_request_37 : decode cX4_request 37 = .ok (.dup, 1) := by decide +kernel
theorem dX4_request_38 : decode cX4_request 38 = .ok (.invokespecial 72, 3) := by decide +kernel
theorem dX4_request_41 : decode cX4_request 41 = .ok (.athrow, 1) := by decide +kernel
theorem dX4_request_42 : decode cX4_request 42 = .ok (.aload_n 0, 1) := by decide +kernel
theorem dX4_request_43 : decode cX4_request 43 = .ok (.getfield 28, 3) := by decide +kernel
theorem dX4_request_46 : decode cX4_request 46 = .ok (.iload_n 1, 1) := by decide +kernel
theorem dX4_request_47 : decode cX4_request 47 = .ok (.invokevirtual 73, 3) := by decide +kernel
theorem dX4_request_50 : decode cX4_request 50 = .ok (.aload_n 0, 1) := by decide +kernel
theorem dX4_request_51 : decode cX4_request 51 = .ok (.iload_n 1, 1) := by decide +kernel
theorem dX4_request_52 : decode cX4_request 52 = .ok (.putfield 32, 3) := by decide +kernel
theorem dX4_request_55 : decode cX4_request 55 = .ok (.aload_n 0, 1) := by decide +kernel
theorem dX4_request_56 : decode cX4_request 56 = .ok (.getfield 28, 3) := by decide +kernel
theorem dX4_request_59 : decode cX4_request 59 = .ok (.getfield 76, 3) := by decide +kernel
theorem dX4_request_62 : decode cX4_request 62 = .ok (.ireturn, 1) := by decide +kernel
set_option maxRecDepth 100000 in
theorem ggX4_room_X0_empty : GoodIn wsX4_room wsX0_empty := goodIn_r _ [9, 10, 11, 12, 13, 14, 15, 16, 28, 29, 30, 31, 32, 33, 34, 35, 36, 37, 38, 39, 40] rfl (by decide +kernel)
set_option maxRecDepth 100000 in
theorem gX4_room_X0_empty : GoodIn wsX4_room (wsV RX4 85 RX0 yX0_empty wsX0_empty) := goodIn_app (goodIn_of _ (by decide +kernel)) ggX4_room_X0_empty
theorem dX4_room_0 : decode cX4_room 0 = .ok (.iload_n 1, 1) := by decide +kernel
theorem dX4_room_1 : decode cX4_room 1 = .ok (.iconst 1, 1) := by decide +kernel
theorem dX4_room_2 : decode cX4_room 2 = .ok (.if_icmp .lt 10, 3) := by decide +kernel
theorem dX4_room_5 : decode cX4_room 5 = .ok (.iload_n 1, 1) := by decide +kernel
theorem dX4_room_6 : decode cX4_room 6 = .ok (.sipush 400, 3) := by decide +kernel
theorem dX4_room_9 : decode cX4_room 9 = .ok (.if_icmp .le 11, 3) := by decide +kernel
theorem dX4_room_12 : decode cX4_room 12 = .ok (.new 43, 3) := by decide +kernel
theorem dX4_room_15 : decode cX4_room 15 = .ok (.dup, 1) := by decide +kernel
theorem dX4_room_16 : decode cX4_room 16 = .ok (.invokespecial 45, 3) := by decide +kernel
theorem dX4_room_19 : decode cX4_room 19 = .ok (.athrow, 1) := by decide +kernel
theorem dX4_room_20 : decode cX4_room 20 = .ok (.aload_n 0, 1) := by decide +kernel
theorem dX4_room_21 : decode cX4_room 21 = .ok (.getfield 19, 3) := by decide +kernel
theorem dX4_room_24 : decode cX4_room 24 = .ok (.iload_n 1, 1) := by decide +kernel
theorem dX4_room_25 : decode cX4_room 25 = .ok (.putfield 82, 3) := by decide +kernel
theorem dX4_room_28 : decode cX4_room 28 = .ok (.aload_n 0, 1) := by decide +kernel
theorem dX4_room_29 : decode cX4_room 29 = .ok (.getfield 19, 3) := by decide +kernel
theorem dX4_room_32 : decode cX4_room 32 = .ok (.invokevirtual 85, 3) := by decide +kernel
theorem dX4_room_35 : decode cX4_room 35 = .ok (.return_, 1) := by decide +kernel
set_option maxRecDepth 100000 in
theorem ggX4_run_X4_takeTurn : GoodIn wsX4_run wsX4_takeTurn := goodIn_r _ [10, 11, 12, 13, 14, 15, 16, 17, 9, 18, 19, 20, 3, 21, 5, 22, 23, 24, 25, 26, 27, 28, 29, 30, 31, 32, 33, 34, 35, 36, 37, 38, 39, 40, 41, 42, 43, 44, 45, 46, 47, 48, 49, 50, 51, 52, 53, 54, 55, 56, 57, 58, 59, 60, 61, 62, 63, 64, 65, 66, 67, 68, 69, 70, 71, 72, 73, 74, 75, 76, 77, 78, 79, 80, 81, 82, 83, 84, 85, 86, 87, 88, 89, 90, 91, 92, 93, 94, 95, 96, 97, 98, 99, 100, 101, 102, 103, 104, 105, 106, 107, 108, 109, 110, 111, 112, 113, 114, 115, 116, 117, 118, 119, 120, 121, 122, 123, 124, 125, 126, 127, 128, 129, 130, 131, 132, 133, 134, 135, 136, 137, 138, 139, 140, 141, 142, 143, 144, 145, 146, 147, 148, 149, 150, 151, 152, 153, 154, 155, 156, 157, 158, 159, 160, 161, 162, 163, 164, 165, 166, 167, 168, 169, 170, 171, 172, 173, 174, 175, 176, 177, 178, 179, 180, 181, 182, 183, 184, 185, 186, 187, 188, 189, 190, 191, 192, 193, 194, 195, 196, 197, 198, 199, 200, 201, 202, 203, 204, 4, 205, 206, 207, 208, 209, 210, 211, 212, 213, 214, 215, 216, 217, 218, 219, 220, 221, 222, 223, 224, 225, 226, 227, 228, 229, 230, 231, 232, 233, 234, 235, 236, 237, 238, 239, 240, 241, 242, 243, 244, 245, 246, 247, 248, 249, 250, 251, 252, 253, 254, 255, 256, 257, 258, 259, 260, 261, 262, 263, 264, 265, 266, 267, 268, 269, 270, 271, 272, 273, 274, 275, 276, 277, 278, 279, 280, 281, 282, 283, 284, 285, 286, 287, 288, 289, 290, 291, 292, 293, 294, 295, 296, 297, 298, 299, 300, 301, 302, 303, 304, 305, 306, 307, 308, 309] rfl (by decide +kernel)
set_option maxRecDepth 100000 in
theorem gX4_run_X4_takeTurn : GoodIn wsX4_run (wsV RX4 91 RX4 yX4_takeTurn wsX4_takeTurn) := goodIn_app (goodIn_of _ (by decide +kernel)) ggX4_run_X4_takeTurn
theorem dX4_run_0 : decode cX4_run 0 = .ok (.iload_n 1, 1) := by decide +kernel
theorem dX4_run_1 : decode cX4_run 1 = .ok (.iconst 1, 1) := by decide +kernel
theorem dX4_run_2 : decode cX4_run 2 = .ok (.if_icmp .lt 10, 3) := by decide +kernel
theorem dX4_run_5 : decode cX4_run 5 = .ok (.iload_n 1, 1) := by decide +kernel
theorem dX4_run_6 : decode cX4_run 6 = .ok (.sipush 5000, 3) := by decide +kernel
theorem dX4_run_9 : decode cX4_run 9 = .ok (.if_icmp .le 11, 3) := by decide +kernel
theorem dX4_run_12 : decode cX4_run 12 = .ok (.new 43, 3) := by decide +kernel
theorem dX4_run_15 : decode cX4_run 15 = .ok (.dup, 1) := by decide +kernel
theorem dX4_run_16 : decode cX4_run 16 = .ok (.invokespecial 45, 3) := by decide +kernel
theorem dX4_run_19 : decode cX4_run 19 = .ok (.athrow, 1) := by decide +kernel
theorem dX4_run_20 : decode cX4_run 20 = .ok (.aload_n 0, 1) := by decide +kernel
theorem dX4_run_21 : decode cX4_run 21 = .ok (.getfield 79, 3) := by decide +kernel
theorem dX4_run_24 : decode cX4_run 24 = .ok (.istore_n 2, 1) := by decide +kernel
theorem dX4_run_25 : decode cX4_run 25 = .ok (.aload_n 0, 1) := by decide +kernel
theorem dX4_run_26 : decode cX4_run 26 = .ok (.iconst 0, 1) := by decide +kernel
theorem dX4_run_27 : decode cX4_run 27 = .ok (.putfield 88, 3) := by decide +kernel
theorem dX4_run_30 : decode cX4_run 30 = .ok (.aload_n 0, 1) := by decide +kernel
theorem dX4_run_31 : decode cX4_run 31 = .ok (.iconst (-1), 1) := by decide +kernel
theorem dX4_run_32 : decode cX4_run 32 = .ok (.putfield 36, 3) := by decide +kernel
theorem dX4_run_35 : decode cX4_run 35 = .ok (.iconst 0, 1) := by decide +kernel
theorem dX4_run_36 : decode cX4_run 36 = .ok (.istore_n 3, 1) := by decide +kernel
theorem dX4_run_37 : decode cX4_run 37 = .ok (.iload_n 3, 1) := by decide +kernel
theorem dX4_run_38 : decode cX4_run 38 = .ok (.iload_n 1, 1) := by decide +kernel
theorem dX4_run_39 : decode cX4_run 39 = .ok (.if_icmp .ge 40, 3) := by decide +kernel
theorem dX4_run_42 : decode cX4_run 42 = .ok (.iload_n 1, 1) := by decide +kernel
theorem dX4_run_43 : decode cX4_run 43 = .ok (.aload_n 0, 1) := by decide +kernel
theorem dX4_run_44 : decode cX4_run 44 = .ok (.getfield 79, 3) := by decide +kernel
theorem dX4_run_47 : decode cX4_run 47 = .ok (.iload_n 2, 1) := by decide +kernel
theorem dX4_run_48 : decode cX4_run 48 = .ok (.isub, 1) := by decide +kernel
theorem dX4_run_49 : decode cX4_run 49 = .ok (.isub, 1) := by decide +kernel
theorem dX4_run_50 : decode cX4_run 50 = .ok (.istore 4, 2) := by decide +kernel
theorem dX4_run_52 : decode cX4_run 52 = .ok (.iload 4, 2) := by decide +kernel
theorem dX4_run_54 : decode cX4_run 54 = .ok (.ifCond .le 25, 3) := by decide +kernel
theorem dX4_run_57 : decode cX4_run 57 = .ok (.aload_n 0, 1) := by decide +kernel
theorem dX4_run_58 : decode cX4_run 58 = .ok (.getfield 88, 3) := by decide +kernel
theorem dX4_run_61 : decode cX4_run 61 = .ok (.ifCond .eq 6, 3) := by decide +kernel
theorem dX4_run_64 : decode cX4_run 64 = .ok (.goto 15, 3) := by decide +kernel
theorem dX4_run_67 : decode cX4_run 67 = .ok (.aload_n 0, 1) := by decide +kernel
theorem dX4_run_68 : decode cX4_run 68 = .ok (.iload 4, 2) := by decide +kernel
theorem dX4_run_70 : decode cX4_run 70 = .ok (.invokevirtual 91, 3) := by decide +kernel
theorem dX4_run_73 : decode cX4_run 73 = .ok (.iinc 3 1, 3) := by decide +kernel
theorem dX4_run_76 : decode cX4_run 76 = .ok (.goto (-39), 3) := by decide +kernel
theorem dX4_run_79 : decode cX4_run 79 = .ok (.aload_n 0, 1) := by decide +kernel
theorem dX4_run_80 : decode cX4_run 80 = .ok (.getfield 79, 3) := by decide +kernel
theorem dX4_run_83 : decode cX4_run 83 = .ok (.iload_n 2, 1) := by decide +kernel
theorem dX4_run_84 : decode cX4_run 84 = .ok (.isub, 1) := by decide +kernel
theorem dX4_run_85 : decode cX4_run 85 = .ok (.ireturn, 1) := by decide +kernel
set_option maxRecDepth 100000 in
theorem ggX4_output_X2_outputAt : GoodIn wsX4_output wsX2_outputAt := goodIn_r _ [6, 7, 8, 20, 21, 22, 23, 24, 25] rfl (by decide +kernel)
set_option maxRecDepth 100000 in
theorem gX4_output_X2_outputAt : GoodIn wsX4_output (wsV RX4 94 RX2 yX2_outputAt wsX2_outputAt) := goodIn_app (goodIn_of _ (by decide +kernel)) ggX4_output_X2_outputAt
theorem dX4_output_0 : decode cX4_output 0 = .ok (.aload_n 0, 1) := by decide +kernel
theorem dX4_output_1 : decode cX4_output 1 = .ok (.getfield 10, 3) := by decide +kernel
theorem dX4_output_4 : decode cX4_output 4 = .ok (.iload_n 1, 1) := by decide +kernel
theorem dX4_output_5 : decode cX4_output 5 = .ok (.invokevirtual 94, 3) := by decide +kernel
theorem dX4_output_8 : decode cX4_output 8 = .ok (.ireturn, 1) := by decide +kernel
theorem dX4_count_0 : decode cX4_count 0 = .ok (.iload_n 1, 1) := by decide +kernel
theorem dX4_count_1 : decode cX4_count 1 = .ok (.tableswitch 141 0 11 #[63, 68, 76, 84, 92, 97, 105, 110, 115, 120, 128, 136], 63) := by decide +kernel
theorem dX4_count_64 : decode cX4_count 64 = .ok (.aload_n 0, 1) := by decide +kernel
theorem dX4_count_65 : decode cX4_count 65 = .ok (.getfield 79, 3) := by decide +kernel
theorem dX4_count_68 : decode cX4_count 68 = .ok (.ireturn, 1) := by decide +kernel
theorem dX4_count_69 : decode cX4_count 69 = .ok (.aload_n 0, 1) := by decide +kernel
theorem dX4_count_70 : decode cX4_count 70 = .ok (.getfield 19, 3) := by decide +kernel
theorem dX4_count_73 : decode cX4_count 73 = .ok (.getfield 97, 3) := by decide +kernel
theorem dX4_count_76 : decode cX4_count 76 = .ok (.ireturn, 1) := by decide +kernel
theorem dX4_count_77 : decode cX4_count 77 = .ok (.aload_n 0, 1) := by decide +kernel
theorem dX4_count_78 : decode cX4_count 78 = .ok (.getfield 19, 3) := by decide +kernel
theorem dX4_count_81 : decode cX4_count 81 = .ok (.getfield 100, 3) := by decide +kernel
theorem dX4_count_84 : decode cX4_count 84 = .ok (.ireturn, 1) := by decide +kernel
theorem dX4_count_85 : decode cX4_count 85 = .ok (.aload_n 0, 1) := by decide +kernel
theorem dX4_count_86 : decode cX4_count 86 = .ok (.getfield 19, 3) := by decide +kernel
theorem dX4_count_89 : decode cX4_count 89 = .ok (.getfield 103, 3) := by decide +kernel
theorem dX4_count_92 : decode cX4_count 92 = .ok (.ireturn, 1) := by decide +kernel
theorem dX4_count_93 : decode cX4_count 93 = .ok (.aload_n 0, 1) := by decide +kernel
theorem dX4_count_94 : decode cX4_count 94 = .ok (.getfield 106, 3) := by decide +kernel
theorem dX4_count_97 : decode cX4_count 97 = .ok (.ireturn, 1) := by decide +kernel
theorem dX4_count_98 : decode cX4_count 98 = .ok (.aload_n 0, 1) := by decide +kernel
theorem dX4_count_99 : decode cX4_count 99 = .ok (.getfield 19, 3) := by decide +kernel
theorem dX4_count_102 : decode cX4_count 102 = .ok (.getfield 109, 3) := by decide +kernel
theorem dX4_count_105 : decode cX4_count 105 = .ok (.ireturn, 1) := by decide +kernel
theorem dX4_count_106 : decode cX4_count 106 = .ok (.aload_n 0, 1) := by decide +kernel
theorem dX4_count_107 : decode cX4_count 107 = .ok (.getfield 112, 3) := by decide +kernel
theorem dX4_count_110 : decode cX4_count 110 = .ok (.ireturn, 1) := by decide +kernel
theorem dX4_count_111 : decode cX4_count 111 = .ok (.aload_n 0, 1) := by decide +kernel
theorem dX4_count_112 : decode cX4_count 112 = .ok (.getfield 115, 3) := by decide +kernel
theorem dX4_count_115 : decode cX4_count 115 = .ok (.ireturn, 1) := by decide +kernel
theorem dX4_count_116 : decode cX4_count 116 = .ok (.aload_n 0, 1) := by decide +kernel
theorem dX4_count_117 : decode cX4_count 117 = .ok (.getfield 118, 3) := by decide +kernel
theorem dX4_count_120 : decode cX4_count 120 = .ok (.ireturn, 1) := by decide +kernel
theorem dX4_count_121 : decode cX4_count 121 = .ok (.aload_n 0, 1) := by decide +kernel
theorem dX4_count_122 : decode cX4_count 122 = .ok (.getfield 19, 3) := by decide +kernel
theorem dX4_count_125 : decode cX4_count 125 = .ok (.getfield 121, 3) := by decide +kernel
theorem dX4_count_128 : decode cX4_count 128 = .ok (.ireturn, 1) := by decide +kernel
theorem dX4_count_129 : decode cX4_count 129 = .ok (.aload_n 0, 1) := by decide +kernel
theorem dX4_count_130 : decode cX4_count 130 = .ok (.getfield 10, 3) := by decide +kernel
theorem dX4_count_133 : decode cX4_count 133 = .ok (.getfield 124, 3) := by decide +kernel
theorem dX4_count_136 : decode cX4_count 136 = .ok (.ireturn, 1) := by decide +kernel
theorem dX4_count_137 : decode cX4_count 137 = .ok (.aload_n 0, 1) := by decide +kernel
theorem dX4_count_138 : decode cX4_count 138 = .ok (.getfield 88, 3) := by decide +kernel
theorem dX4_count_141 : decode cX4_count 141 = .ok (.ireturn, 1) := by decide +kernel
theorem dX4_count_142 : decode cX4_count 142 = .ok (.new 43, 3) := by decide +kernel
theorem dX4_count_145 : decode cX4_count 145 = .ok (.dup, 1) := by decide +kernel
theorem dX4_count_146 : decode cX4_count 146 = .ok (.invokespecial 45, 3) := by decide +kernel
theorem dX4_count_149 : decode cX4_count 149 = .ok (.athrow, 1) := by decide +kernel
theorem dX4_isByte_0 : decode cX4_isByte 0 = .ok (.iload_n 0, 1) := by decide +kernel
theorem dX4_isByte_1 : decode cX4_isByte 1 = .ok (.ifCond .lt 14, 3) := by decide +kernel
theorem dX4_isByte_4 : decode cX4_isByte 4 = .ok (.iload_n 0, 1) := by decide +kernel
theorem dX4_isByte_5 : decode cX4_isByte 5 = .ok (.sipush 255, 3) := by decide +kernel
theorem dX4_isByte_8 : decode cX4_isByte 8 = .ok (.if_icmp .gt 7, 3) := by decide +kernel
theorem dX4_isByte_11 : decode cX4_isByte 11 = .ok (.iconst 1, 1) := by decide +kernel
theorem dX4_isByte_12 : decode cX4_isByte 12 = .ok (.goto 4, 3) := by decide +kernel
theorem dX4_isByte_15 : decode cX4_isByte 15 = .ok (.iconst 0, 1) := by decide +kernel
theorem dX4_isByte_16 : decode cX4_isByte 16 = .ok (.ireturn, 1) := by decide +kernel
theorem dX4_isState_0 : decode cX4_isState 0 = .ok (.iload_n 0, 1) := by decide +kernel
theorem dX4_isState_1 : decode cX4_isState 1 = .ok (.ifCond .lt 13, 3) := by decide +kernel
theorem dX4_isState_4 : decode cX4_isState 4 = .ok (.iload_n 0, 1) := by decide +kernel
theorem dX4_isState_5 : decode cX4_isState 5 = .ok (.bipush 9, 2) := by decide +kernel
theorem dX4_isState_7 : decode cX4_isState 7 = .ok (.if_icmp .gt 7, 3) := by decide +kernel
theorem dX4_isState_10 : decode cX4_isState 10 = .ok (.iconst 1, 1) := by decide +kernel
theorem dX4_isState_11 : decode cX4_isState 11 = .ok (.goto 4, 3) := by decide +kernel
theorem dX4_isState_14 : decode cX4_isState 14 = .ok (.iconst 0, 1) := by decide +kernel
theorem dX4_isState_15 : decode cX4_isState 15 = .ok (.ireturn, 1) := by decide +kernel
theorem dX4_isOneBit_0 : decode cX4_isOneBit 0 = .ok (.iload_n 0, 1) := by decide +kernel
theorem dX4_isOneBit_1 : decode cX4_isOneBit 1 = .ok (.iconst 5, 1) := by decide +kernel
theorem dX4_isOneBit_2 : decode cX4_isOneBit 2 = .ok (.if_icmp .lt 13, 3) := by decide +kernel
theorem dX4_isOneBit_5 : decode cX4_isOneBit 5 = .ok (.iload_n 0, 1) := by decide +kernel
theorem dX4_isOneBit_6 : decode cX4_isOneBit 6 = .ok (.bipush 8, 2) := by decide +kernel
theorem dX4_isOneBit_8 : decode cX4_isOneBit 8 = .ok (.if_icmp .gt 7, 3) := by decide +kernel
theorem dX4_isOneBit_11 : decode cX4_isOneBit 11 = .ok (.iconst 1, 1) := by decide +kernel
theorem dX4_isOneBit_12 : decode cX4_isOneBit 12 = .ok (.goto 4, 3) := by decide +kernel
theorem dX4_isOneBit_15 : decode cX4_isOneBit 15 = .ok (.iconst 0, 1) := by decide +kernel
theorem dX4_isOneBit_16 : decode cX4_isOneBit 16 = .ok (.ireturn, 1) := by decide +kernel
set_option maxRecDepth 100000 in
theorem ggX4_takeTurn_X4_interruptIfDue : GoodIn wsX4_takeTurn wsX4_interruptIfDue := goodIn_r _ [9, 1, 2, 10, 11, 12, 13, 14, 15, 16, 17, 18, 19, 20, 21, 22, 23, 24, 25, 26, 27, 28, 29, 30, 31, 32, 33, 34, 35, 36, 37, 38, 39, 40, 41, 42, 43, 44, 45, 46, 47, 48, 49, 8, 50, 51, 52, 3, 53, 54, 55, 56, 57, 58, 59, 60, 61, 62, 63, 64, 65, 66, 67, 68, 69, 70, 271, 272, 273, 274, 275, 276, 277, 278, 279, 280, 281, 282, 283, 284, 285, 286, 287, 301, 302, 303, 288, 289, 290, 291, 292, 293, 294, 295, 296, 297, 298, 299, 300] rfl (by decide +kernel)
set_option maxRecDepth 100000 in
theorem gX4_takeTurn_X4_interruptIfDue : GoodIn wsX4_takeTurn (wsV RX4 127 RX4 yX4_interruptIfDue wsX4_interruptIfDue) := goodIn_app (goodIn_of _ (by decide +kernel)) ggX4_takeTurn_X4_interruptIfDue
set_option maxRecDepth 100000 in
theorem ggX4_takeTurn_X4_findBlock : GoodIn wsX4_takeTurn wsX4_findBlock := goodIn_r _ [74, 3, 14, 75, 1, 76, 77, 78, 79, 56, 80, 81, 59, 62, 63, 64, 65, 82, 83, 84, 85, 86, 61, 87, 88, 60, 89, 90, 91, 58, 92, 93, 94, 95, 96, 70, 97, 98, 99, 100, 101, 102, 103, 104, 105, 106, 107, 108, 109, 110, 111, 112, 113, 114, 115, 116, 117, 118, 119, 120, 121, 122, 123, 124, 125, 126, 127, 128, 129, 130, 131, 132, 133, 134, 135, 136, 137, 138, 139, 140, 141, 142, 143, 144, 145, 146, 147, 148, 149, 150, 151, 152, 153, 154, 155, 156, 157, 158, 159, 160, 161, 162, 163, 164, 165, 166, 167, 168, 169, 170, 171, 172, 271, 272, 273, 274, 275, 276, 277, 278, 279, 280, 281, 282, 283, 284, 285, 286, 287, 288, 289, 290, 291, 292, 293, 294, 295, 296, 297, 298, 299, 300] rfl (by decide +kernel)
set_option maxRecDepth 100000 in
theorem gX4_takeTurn_X4_findBlock : GoodIn wsX4_takeTurn (wsV RX4 130 RX4 yX4_findBlock wsX4_findBlock) := goodIn_app (goodIn_of _ (by decide +kernel)) ggX4_takeTurn_X4_findBlock
set_option maxRecDepth 100000 in
theorem ggX4_takeTurn_X4_mayRunWhole : GoodIn wsX4_takeTurn wsX4_mayRunWhole := goodIn_r _ [176, 12, 177, 178, 179, 8, 180, 10, 11, 181, 182, 183, 18, 184, 20, 21, 27, 28, 29, 30, 271, 272, 273, 274, 275, 276, 277, 278, 279, 280, 281, 301, 302, 303] rfl (by decide +kernel)
set_option maxRecDepth 100000 in
theorem gX4_takeTurn_X4_mayRunWhole : GoodIn wsX4_takeTurn (wsV RX4 136 RX4 yX4_mayRunWhole wsX4_mayRunWhole) := goodIn_app (goodIn_of _ (by decide +kernel)) ggX4_takeTurn_X4_mayRunWhole
set_option maxRecDepth 100000 in
theorem ggX4_takeTurn_X4_runBlock : GoodIn wsX4_takeTurn wsX4_runBlock := goodIn_r _ [188, 3, 14, 4, 1, 2, 189, 190, 191, 56, 192, 81, 59, 62, 63, 64, 65, 82, 193, 121, 122, 123, 96, 194, 195, 196, 8, 197, 12, 198, 199, 200, 201, 34, 202, 36, 203, 105, 99, 106, 204, 108, 109, 205, 125, 126, 206, 207, 208, 209, 210, 152, 153, 130, 211, 155, 156, 212, 213, 214, 215, 171, 172, 216, 217, 218, 219, 220, 221, 222, 223, 224, 225, 226, 227, 111, 112, 113, 114, 115, 228, 229, 230, 231, 232, 233, 234, 235, 236, 237, 238, 37, 38, 39, 40, 41, 42, 43, 44, 45, 46, 239, 240, 241, 242, 243, 244, 245, 246, 247, 248, 249, 250, 251, 252, 253, 254, 255, 256, 257, 258, 259, 23, 24, 18, 25, 20, 21, 26, 27, 28, 29, 30, 47, 48, 49, 50, 51, 52, 53, 54, 55, 57, 58, 60, 61, 66, 67, 68, 69, 70, 260, 261, 262, 263, 264, 169, 271, 272, 273, 274, 275, 276, 277, 278, 279, 280, 281, 288, 289, 290, 291, 292, 293, 294, 295, 296, 297, 298, 299, 300, 282, 283, 284, 285, 286, 287, 301, 302, 303] rfl (by decide +kernel)
set_option maxRecDepth 100000 in
theorem gX4_takeTurn_X4_runBlock : GoodIn wsX4_takeTurn (wsV RX4 140 RX4 yX4_runBlock wsX4_runBlock) := goodIn_app (goodIn_of _ (by decide +kernel)) ggX4_takeTurn_X4_runBlock
set_option maxRecDepth 100000 in
theorem ggX4_takeTurn_X4_interpret : GoodIn wsX4_takeTurn wsX4_interpret := goodIn_r _ [268, 14, 1, 76, 198, 269, 270, 98, 99, 100, 101, 102, 103, 260, 105, 106, 194, 195, 196, 8, 197, 12, 199, 200, 201, 34, 202, 36, 203, 204, 108, 109, 205, 125, 126, 206, 207, 208, 209, 210, 152, 153, 130, 211, 155, 156, 212, 213, 214, 215, 171, 172, 216, 217, 218, 219, 220, 221, 222, 223, 224, 225, 226, 227, 111, 112, 113, 114, 115, 228, 229, 230, 231, 232, 233, 234, 235, 236, 237, 238, 37, 38, 39, 40, 41, 42, 43, 44, 45, 46, 239, 240, 241, 242, 243, 244, 245, 246, 247, 248, 249, 250, 251, 252, 253, 254, 255, 256, 257, 258, 259, 23, 24, 18, 25, 20, 21, 26, 27, 28, 29, 30, 47, 48, 49, 50, 51, 52, 3, 53, 54, 55, 56, 57, 58, 59, 60, 61, 62, 63, 64, 65, 66, 67, 68, 69, 70, 271, 272, 273, 274, 275, 276, 277, 278, 279, 280, 281, 282, 283, 284, 285, 286, 287, 301, 302, 303, 288, 289, 290, 291, 292, 293, 294, 295, 296, 297, 298, 299, 300] rfl (by decide +kernel)
set_option maxRecDepth 100000 in
theorem gX4_takeTurn_X4_interpret : GoodIn wsX4_takeTurn (wsV RX4 143 RX4 yX4_interpret wsX4_interpret) := goodIn_app (goodIn_of _ (by decide +kernel)) ggX4_takeTurn_X4_interpret
theorem dX4_takeTurn_0 : decode cX4_takeTurn 0 = .ok (.aload_n 0, 1) := by decide +kernel
theorem dX4_takeTurn_1 : decode cX4_takeTurn 1 = .ok (.invokevirtual 127, 3) := by decide +kernel
theorem dX4_takeTurn_4 : decode cX4_takeTurn 4 = .ok (.aload_n 0, 1) := by decide +kernel
theorem dX4_takeTurn_5 : decode cX4_takeTurn 5 = .ok (.getfield 10, 3) := by decide +kernel
theorem dX4_takeTurn_8 : decode cX4_takeTurn 8 = .ok (.getfield 60, 3) := by decide +kernel
theorem dX4_takeTurn_11 : decode cX4_takeTurn 11 = .ok (.bipush 9, 2) := by decide +kernel
theorem dX4_takeTurn_13 : decode cX4_takeTurn 13 = .ok (.iaload, 1) := by decide +kernel
theorem dX4_takeTurn_14 : decode cX4_takeTurn 14 = .ok (.istore_n 2, 1) := by decide +kernel
theorem dX4_takeTurn_15 : decode cX4_takeTurn 15 = .ok (.aload_n 0, 1) := by decide +kernel
theorem dX4_takeTurn_16 : decode cX4_takeTurn 16 = .ok (.iload_n 2, 1) := by decide +kernel
theorem dX4_takeTurn_17 : decode cX4_takeTurn 17 = .ok (.invokevirtual 130, 3) := by decide +kernel
theorem dX4_takeTurn_20 : decode cX4_takeTurn 20 = .ok (.ifCond .eq 28, 3) := by decide +kernel
theorem dX4_takeTurn_23 : decode cX4_takeTurn 23 = .ok (.aload_n 0, 1) := by decide +kernel
theorem dX4_takeTurn_24 : decode cX4_takeTurn 24 = .ok (.aload_n 0, 1) := by decide +kernel
theorem dX4_takeTurn_25 : decode cX4_takeTurn 25 = .ok (.getfield 19, 3) := by decide +kernel
theorem dX4_takeTurn_28 : decode cX4_takeTurn 28 = .ok (.getfield 133, 3) := by decide +kernel
theorem dX4_takeTurn_31 : decode cX4_takeTurn 31 = .ok (.iload_n 2, 1) := by decide +kernel
theorem dX4_takeTurn_32 : decode cX4_takeTurn 32 = .ok (.iaload, 1) := by decide +kernel
theorem dX4_takeTurn_33 : decode cX4_takeTurn 33 = .ok (.iload_n 1, 1) := by decide +kernel
theorem dX4_takeTurn_34 : decode cX4_takeTurn 34 = .ok (.invokevirtual 136, 3) := by decide +kernel
theorem dX4_takeTurn_37 : decode cX4_takeTurn 37 = .ok (.ifCond .eq 11, 3) := by decide +kernel
theorem dX4_takeTurn_40 : decode cX4_takeTurn 40 = .ok (.aload_n 0, 1) := by decide +kernel
theorem dX4_takeTurn_41 : decode cX4_takeTurn 41 = .ok (.iload_n 2, 1) := by decide +kernel
theorem dX4_takeTurn_42 : decode cX4_takeTurn 42 = .ok (.invokevirtual 140, 3) := by decide +kernel
theorem dX4_takeTurn_45 : decode cX4_takeTurn 45 = .ok (.goto 8, 3) := by decide +kernel
theorem dX4_takeTurn_48 : decode cX4_takeTurn 48 = .ok (.aload_n 0, 1) := by decide +kernel
theorem dX4_takeTurn_49 : decode cX4_takeTurn 49 = .ok (.iload_n 2, 1) := by decide +kernel
theorem dX4_takeTurn_50 : decode cX4_takeTurn 50 = .ok (.invokevirtual 143, 3) := by decide +kernel
theorem dX4_takeTurn_53 : decode cX4_takeTurn 53 = .ok (.return_, 1) := by decide +kernel
set_option maxRecDepth 100000 in
theorem ggX4_interruptIfDue_X3_first : GoodIn wsX4_interruptIfDue wsX3_first := goodIn_r _ [12, 13, 14, 83, 84, 85] rfl (by decide +kernel)
set_option maxRecDepth 100000 in
theorem gX4_interruptIfDue_X3_first : GoodIn wsX4_interruptIfDue (wsV RX4 146 RX3 yX3_first wsX3_first) := goodIn_app (goodIn_of _ (by decide +kernel)) ggX4_interruptIfDue_X3_first
set_option maxRecDepth 100000 in
theorem ggX4_interruptIfDue_X3_takeFirst : GoodIn wsX4_interruptIfDue wsX3_takeFirst := goodIn_r _ [18, 13, 14, 19, 20, 21, 22, 11, 23, 83, 84, 85] rfl (by decide +kernel)
set_option maxRecDepth 100000 in
theorem gX4_interruptIfDue_X3_takeFirst : GoodIn wsX4_interruptIfDue (wsV RX4 150 RX3 yX3_takeFirst wsX3_takeFirst) := goodIn_app (goodIn_of _ (by decide +kernel)) ggX4_interruptIfDue_X3_takeFirst
set_option maxRecDepth 100000 in
theorem ggX4_interruptIfDue_X2_interrupt : GoodIn wsX4_interruptIfDue wsX2_interrupt := goodIn_r _ [28, 29, 30, 31, 32, 27, 33, 34, 35, 36, 37, 38, 39, 77, 78, 79, 80, 81, 82] rfl (by decide +kernel)
set_option maxRecDepth 100000 in
theorem gX4_interruptIfDue_X2_interrupt : GoodIn wsX4_interruptIfDue (wsV RX4 153 RX2 yX2_interrupt wsX2_interrupt) := goodIn_app (goodIn_of _ (by decide +kernel)) ggX4_interruptIfDue_X2_interrupt
set_option maxRecDepth 100000 in
theorem ggX4_interruptIfDue_X4_dropWritten : GoodIn wsX4_interruptIfDue wsX4_dropWritten := goodIn_r _ [44, 1, 45, 46, 47, 48, 49, 50, 51, 52, 53, 54, 55, 56, 57, 58, 59, 60, 61, 62, 63, 64, 65, 66, 67, 68, 69, 70, 71, 72, 73, 74, 75, 76, 77, 78, 79, 80, 81, 82, 86, 87, 88, 89, 90, 91, 92, 93, 94, 95, 96, 97, 98] rfl (by decide +kernel)
set_option maxRecDepth 100000 in
theorem gX4_interruptIfDue_X4_dropWritten : GoodIn wsX4_interruptIfDue (wsV RX4 156 RX4 yX4_dropWritten wsX4_dropWritten) := goodIn_app (goodIn_of _ (by decide +kernel)) ggX4_interruptIfDue_X4_dropWritten
theorem dX4_interruptIfDue_0 : decode cX4_interruptIfDue 0 = .ok (.aload_n 0, 1) := by decide +kernel
theorem dX4_interruptIfDue_1 : decode cX4_interruptIfDue 1 = .ok (.getfield 10, 3) := by decide +kernel
theorem dX4_interruptIfDue_4 : decode cX4_interruptIfDue 4 = .ok (.getfield 60, 3) := by decide +kernel
theorem dX4_interruptIfDue_7 : decode cX4_interruptIfDue 7 = .ok (.bipush 8, 2) := by decide +kernel
theorem dX4_interruptIfDue_9 : decode cX4_interruptIfDue 9 = .ok (.iaload, 1) := by decide +kernel
theorem dX4_interruptIfDue_10 : decode cX4_interruptIfDue 10 = .ok (.ifCond .eq 27, 3) := by decide +kernel
theorem dX4_interruptIfDue_13 : decode cX4_interruptIfDue 13 = .ok (.aload_n 0, 1) := by decide +kernel
theorem dX4_interruptIfDue_14 : decode cX4_interruptIfDue 14 = .ok (.getfield 28, 3) := by decide +kernel
theorem dX4_interruptIfDue_17 : decode cX4_interruptIfDue 17 = .ok (.getfield 76, 3) := by decide +kernel
theorem dX4_interruptIfDue_20 : decode cX4_interruptIfDue 20 = .ok (.ifCond .eq 17, 3) := by decide +kernel
theorem dX4_interruptIfDue_23 : decode cX4_interruptIfDue 23 = .ok (.aload_n 0, 1) := by decide +kernel
theorem dX4_interruptIfDue_24 : decode cX4_interruptIfDue 24 = .ok (.getfield 28, 3) := by decide +kernel
theorem dX4_interruptIfDue_27 : decode cX4_interruptIfDue 27 = .ok (.invokevirtual 146, 3) := by decide +kernel
theorem dX4_interruptIfDue_30 : decode cX4_interruptIfDue 30 = .ok (.aload_n 0, 1) := by decide +kernel
theorem dX4_interruptIfDue_31 : decode cX4_interruptIfDue 31 = .ok (.getfield 79, 3) := by decide +kernel
theorem dX4_interruptIfDue_34 : decode cX4_interruptIfDue 34 = .ok (.if_icmp .le 4, 3) := by decide +kernel
theorem dX4_interruptIfDue_37 : decode cX4_interruptIfDue 37 = .ok (.return_, 1) := by decide +kernel
theorem dX4_interruptIfDue_38 : decode cX4_interruptIfDue 38 = .ok (.aload_n 0, 1) := by decide +kernel
theorem dX4_interruptIfDue_39 : decode cX4_interruptIfDue 39 = .ok (.getfield 28, 3) := by decide +kernel
theorem dX4_interruptIfDue_42 : decode cX4_interruptIfDue 42 = .ok (.invokevirtual 150, 3) := by decide +kernel
theorem dX4_interruptIfDue_45 : decode cX4_interruptIfDue 45 = .ok (.pop, 1) := by decide +kernel
theorem dX4_interruptIfDue_46 : decode cX4_interruptIfDue 46 = .ok (.aload_n 0, 1) := by decide +kernel
theorem dX4_interruptIfDue_47 : decode cX4_interruptIfDue 47 = .ok (.dup, 1) := by decide +kernel
theorem dX4_interruptIfDue_48 : decode cX4_interruptIfDue 48 = .ok (.getfield 118, 3) := by decide +kernel
theorem dX4_interruptIfDue_51 : decode cX4_interruptIfDue 51 = .ok (.iconst 1, 1) := by decide +kernel
theorem dX4_interruptIfDue_52 : decode cX4_interruptIfDue 52 = .ok (.iadd, 1) := by decide +kernel
theorem dX4_interruptIfDue_53 : decode cX4_interruptIfDue 53 = .ok (.putfield 118, 3) := by decide +kernel
theorem dX4_interruptIfDue_56 : decode cX4_interruptIfDue 56 = .ok (.aload_n 0, 1) := by decide +kernel
theorem dX4_interruptIfDue_57 : decode cX4_interruptIfDue 57 = .ok (.getfield 10, 3) := by decide +kernel
theorem dX4_interruptIfDue_60 : decode cX4_interruptIfDue 60 = .ok (.invokevirtual 153, 3) := by decide +kernel
theorem dX4_interruptIfDue_63 : decode cX4_interruptIfDue 63 = .ok (.aload_n 0, 1) := by decide +kernel
theorem dX4_interruptIfDue_64 : decode cX4_interruptIfDue 64 = .ok (.invokevirtual 156, 3) := by decide +kernel
theorem dX4_interruptIfDue_67 : decode cX4_interruptIfDue 67 = .ok (.aload_n 0, 1) := by decide +kernel
theorem dX4_interruptIfDue_68 : decode cX4_interruptIfDue 68 = .ok (.iconst (-1), 1) := by decide +kernel
theorem dX4_interruptIfDue_69 : decode cX4_interruptIfDue 69 = .ok (.putfield 36, 3) := by decide +kernel
theorem dX4_interruptIfDue_72 : decode cX4_interruptIfDue 72 = .ok (.return_, 1) := by decide +kernel
set_option maxRecDepth 100000 in
theorem ggX4_findBlock_X0_isLinked : GoodIn wsX4_findBlock wsX0_isLinked := goodIn_r _ [10, 11, 12, 13, 14, 15, 9, 16, 129, 130, 131, 132, 133, 134, 135, 136, 137, 138, 139, 140, 141] rfl (by decide +kernel)
set_option maxRecDepth 100000 in
theorem gX4_findBlock_X0_isLinked : GoodIn wsX4_findBlock (wsV RX4 159 RX0 yX0_isLinked wsX0_isLinked) := goodIn_app (goodIn_of _ (by decide +kernel)) ggX4_findBlock_X0_isLinked
set_option maxRecDepth 100000 in
theorem ggX4_findBlock_X0_has : GoodIn wsX4_findBlock wsX0_has := goodIn_r _ [16, 12, 129, 130, 131, 132, 133, 134, 135, 136, 137, 138, 139, 140, 141] rfl (by decide +kernel)
set_option maxRecDepth 100000 in
theorem gX4_findBlock_X0_has : GoodIn wsX4_findBlock (wsV RX4 162 RX0 yX0_has wsX0_has) := goodIn_app (goodIn_of _ (by decide +kernel)) ggX4_findBlock_X0_has
set_option maxRecDepth 100000 in
theorem ggX4_findBlock_X0_translate : GoodIn wsX4_findBlock wsX0_translate := goodIn_r _ [21, 22, 23, 24, 25, 26, 27, 28, 12, 29, 30, 31, 32, 9, 33, 34, 35, 36, 37, 38, 39, 40, 41, 42, 43, 44, 45, 46, 47, 48, 49, 50, 51, 52, 53, 54, 55, 56, 57, 58, 59, 60, 61, 62, 63, 64, 65, 66, 67, 68, 69, 70, 71, 72, 73, 74, 75, 76, 77, 78, 79, 80, 81, 82, 83, 84, 85, 86, 87, 88, 89, 90, 91, 92, 93, 94, 95, 96, 97, 98, 99, 100, 101, 102, 103, 104, 105, 106, 107, 108, 11, 109, 110, 111, 129, 130, 131, 132, 133, 134, 135, 136, 137, 138, 139, 140, 141] rfl (by decide +kernel)
set_option maxRecDepth 100000 in
theorem gX4_findBlock_X0_translate : GoodIn wsX4_findBlock (wsV RX4 165 RX0 yX0_translate wsX0_translate) := goodIn_app (goodIn_of _ (by decide +kernel)) ggX4_findBlock_X0_translate
theorem dX4_findBlock_0 : decode cX4_findBlock 0 = .ok (.aload_n 0, 1) := by decide +kernel
theorem dX4_findBlock_1 : decode cX4_findBlock 1 = .ok (.getfield 19, 3) := by decide +kernel
theorem dX4_findBlock_4 : decode cX4_findBlock 4 = .ok (.aload_n 0, 1) := by decide +kernel
theorem dX4_findBlock_5 : decode cX4_findBlock 5 = .ok (.getfield 36, 3) := by decide +kernel
theorem dX4_findBlock_8 : decode cX4_findBlock 8 = .ok (.iload_n 1, 1) := by decide +kernel
theorem dX4_findBlock_9 : decode cX4_findBlock 9 = .ok (.invokevirtual 159, 3) := by decide +kernel
theorem dX4_findBlock_12 : decode cX4_findBlock 12 = .ok (.ifCond .eq 5, 3) := by decide +kernel
theorem dX4_findBlock_15 : decode cX4_findBlock 15 = .ok (.iconst 1, 1) := by decide +kernel
theorem dX4_findBlock_16 : decode cX4_findBlock 16 = .ok (.ireturn, 1) := by decide +kernel
theorem dX4_findBlock_17 : decode cX4_findBlock 17 = .ok (.aload_n 0, 1) := by decide +kernel
theorem dX4_findBlock_18 : decode cX4_findBlock 18 = .ok (.dup, 1) := by decide +kernel
theorem dX4_findBlock_19 : decode cX4_findBlock 19 = .ok (.getfield 112, 3) := by decide +kernel
theorem dX4_findBlock_22 : decode cX4_findBlock 22 = .ok (.iconst 1, 1) := by decide +kernel
theorem dX4_findBlock_23 : decode cX4_findBlock 23 = .ok (.iadd, 1) := by decide +kernel
theorem dX4_findBlock_24 : decode cX4_findBlock 24 = .ok (.putfield 112, 3) := by decide +kernel
theorem dX4_findBlock_27 : decode cX4_findBlock 27 = .ok (.aload_n 0, 1) := by decide +kernel
theorem dX4_findBlock_28 : decode cX4_findBlock 28 = .ok (.getfield 19, 3) := by decide +kernel
theorem dX4_findBlock_31 : decode cX4_findBlock 31 = .ok (.iload_n 1, 1) := by decide +kernel
theorem dX4_findBlock_32 : decode cX4_findBlock 32 = .ok (.invokevirtual 162, 3) := by decide +kernel
theorem dX4_findBlock_35 : decode cX4_findBlock 35 = .ok (.ifCond .ne 21, 3) := by decide +kernel
theorem dX4_findBlock_38 : decode cX4_findBlock 38 = .ok (.aload_n 0, 1) := by decide +kernel
theorem dX4_findBlock_39 : decode cX4_findBlock 39 = .ok (.getfield 19, 3) := by decide +kernel
theorem dX4_findBlock_42 : decode cX4_findBlock 42 = .ok (.aload_n 0, 1) := by decide +kernel
theorem dX4_findBlock_43 : decode cX4_findBlock 43 = .ok (.getfield 10, 3) := by decide +kernel
theorem dX4_findBlock_46 : decode cX4_findBlock 46 = .ok (.getfield 46, 3) := by decide +kernel
theorem dX4_findBlock_49 : decode cX4_findBlock 49 = .ok (.iload_n 1, 1) := by decide +kernel
theorem dX4_findBlock_50 : decode cX4_findBlock 50 = .ok (.invokevirtual 165, 3) := by decide +kernel
theorem dX4_findBlock_53 : decode cX4_findBlock 53 = .ok (.ifCond .eq 7, 3) := by decide +kernel
theorem dX4_findBlock_56 : decode cX4_findBlock 56 = .ok (.iconst 1, 1) := by decide +kernel
theorem dX4_findBlock_57 : decode cX4_findBlock 57 = .ok (.goto 4, 3) := by decide +kernel
theorem dX4_findBlock_60 : decode cX4_findBlock 60 = .ok (.iconst 0, 1) := by decide +kernel
theorem dX4_findBlock_61 : decode cX4_findBlock 61 = .ok (.ireturn, 1) := by decide +kernel
set_option maxRecDepth 100000 in
theorem ggX4_mayRunWhole_X4_requestComes : GoodIn wsX4_mayRunWhole wsX4_requestComes := goodIn_r _ [6, 7, 8, 1, 9, 10, 11, 12, 13, 14, 15, 16, 17, 18, 19, 20, 21, 22, 23, 24, 25, 26, 27, 28, 29, 30, 31, 32, 33] rfl (by decide +kernel)
set_option maxRecDepth 100000 in
theorem gX4_mayRunWhole_X4_requestComes : GoodIn wsX4_mayRunWhole (wsV RX4 169 RX4 yX4_requestComes wsX4_requestComes) := goodIn_app (goodIn_of _ (by decide +kernel)) ggX4_mayRunWhole_X4_requestComes
theorem dX4_mayRunWhole_0 : decode cX4_mayRunWhole 0 = .ok (.iload_n 1, 1) := by decide +kernel
theorem dX4_mayRunWhole_1 : decode cX4_mayRunWhole 1 = .ok (.iload_n 2, 1) := by decide +kernel
theorem dX4_mayRunWhole_2 : decode cX4_mayRunWhole 2 = .ok (.if_icmp .gt 22, 3) := by decide +kernel
theorem dX4_mayRunWhole_5 : decode cX4_mayRunWhole 5 = .ok (.aload_n 0, 1) := by decide +kernel
theorem dX4_mayRunWhole_6 : decode cX4_mayRunWhole 6 = .ok (.aload_n 0, 1) := by decide +kernel
theorem dX4_mayRunWhole_7 : decode cX4_mayRunWhole 7 = .ok (.getfield 79, 3) := by decide +kernel
theorem dX4_mayRunWhole_10 : decode cX4_mayRunWhole 10 = .ok (.iload_n 1, 1) := by decide +kernel
theorem dX4_mayRunWhole_11 : decode cX4_mayRunWhole 11 = .ok (.iadd, 1) := by decide +kernel
theorem dX4_mayRunWhole_12 : decode cX4_mayRunWhole 12 = .ok (.iconst 1, 1) := by decide +kernel
theorem dX4_mayRunWhole_13 : decode cX4_mayRunWhole 13 = .ok (.isub, 1) := by decide +kernel
theorem dX4_mayRunWhole_14 : decode cX4_mayRunWhole 14 = .ok (.invokevirtual 169, 3) := by decide +kernel
theorem dX4_mayRunWhole_17 : decode cX4_mayRunWhole 17 = .ok (.ifCond .ne 7, 3) := by decide +kernel
theorem dX4_mayRunWhole_20 : decode cX4_mayRunWhole 20 = .ok (.iconst 1, 1) := by decide +kernel
theorem dX4_mayRunWhole_21 : decode cX4_mayRunWhole 21 = .ok (.goto 4, 3) := by decide +kernel
theorem dX4_mayRunWhole_24 : decode cX4_mayRunWhole 24 = .ok (.iconst 0, 1) := by decide +kernel
theorem dX4_mayRunWhole_25 : decode cX4_mayRunWhole 25 = .ok (.ireturn, 1) := by decide +kernel
set_option maxRecDepth 100000 in
theorem ggX4_requestComes_X3_at : GoodIn wsX4_requestComes wsX3_at := goodIn_r _ [8, 9, 10, 11, 12, 13, 7, 14, 26, 27, 28] rfl (by decide +kernel)
set_option maxRecDepth 100000 in
theorem gX4_requestComes_X3_at : GoodIn wsX4_requestComes (wsV RX4 172 RX3 yX3_at wsX3_at) := goodIn_app (goodIn_of _ (by decide +kernel)) ggX4_requestComes_X3_at
theorem dX4_requestComes_0 : decode cX4_requestComes 0 = .ok (.iconst 0, 1) := by decide +kernel
theorem dX4_requestComes_1 : decode cX4_requestComes 1 = .ok (.istore_n 2, 1) := by decide +kernel
theorem dX4_requestComes_2 : decode cX4_requestComes 2 = .ok (.iload_n 2, 1) := by decide +kernel
theorem dX4_requestComes_3 : decode cX4_requestComes 3 = .ok (.aload_n 0, 1) := by decide +kernel
theorem dX4_requestComes_4 : decode cX4_requestComes 4 = .ok (.getfield 28, 3) := by decide +kernel
theorem dX4_requestComes_7 : decode cX4_requestComes 7 = .ok (.getfield 76, 3) := by decide +kernel
theorem dX4_requestComes_10 : decode cX4_requestComes 10 = .ok (.if_icmp .ge 33, 3) := by decide +kernel
theorem dX4_requestComes_13 : decode cX4_requestComes 13 = .ok (.aload_n 0, 1) := by decide +kernel
theorem dX4_requestComes_14 : decode cX4_requestComes 14 = .ok (.getfield 28, 3) := by decide +kernel
theorem dX4_requestComes_17 : decode cX4_requestComes 17 = .ok (.iload_n 2, 1) := by decide +kernel
theorem dX4_requestComes_18 : decode cX4_requestComes 18 = .ok (.invokevirtual 172, 3) := by decide +kernel
theorem dX4_requestComes_21 : decode cX4_requestComes 21 = .ok (.istore_n 3, 1) := by decide +kernel
theorem dX4_requestComes_22 : decode cX4_requestComes 22 = .ok (.iload_n 3, 1) := by decide +kernel
theorem dX4_requestComes_23 : decode cX4_requestComes 23 = .ok (.aload_n 0, 1) := by decide +kernel
theorem dX4_requestComes_24 : decode cX4_requestComes 24 = .ok (.getfield 79, 3) := by decide +kernel
theorem dX4_requestComes_27 : decode cX4_requestComes 27 = .ok (.if_icmp .le 10, 3) := by decide +kernel
theorem dX4_requestComes_30 : decode cX4_requestComes 30 = .ok (.iload_n 3, 1) := by decide +kernel
theorem dX4_requestComes_31 : decode cX4_requestComes 31 = .ok (.iload_n 1, 1) := by decide +kernel
theorem dX4_requestComes_32 : decode cX4_requestComes 32 = .ok (.if_icmp .gt 5, 3) := by decide +kernel
theorem dX4_requestComes_35 : decode cX4_requestComes 35 = .ok (.iconst 1, 1) := by decide +kernel
theorem dX4_requestComes_36 : decode cX4_requestComes 36 = .ok (.ireturn, 1) := by decide +kernel
theorem dX4_requestComes_37 : decode cX4_requestComes 37 = .ok (.iinc 2 1, 3) := by decide +kernel
theorem dX4_requestComes_40 : decode cX4_requestComes 40 = .ok (.goto (-38), 3) := by decide +kernel
theorem dX4_requestComes_43 : decode cX4_requestComes 43 = .ok (.iconst 0, 1) := by decide +kernel
theorem dX4_requestComes_44 : decode cX4_requestComes 44 = .ok (.ireturn, 1) := by decide +kernel
set_option maxRecDepth 100000 in
theorem ggX4_runBlock_X0_link : GoodIn wsX4_runBlock wsX0_link := goodIn_r _ [10, 11, 12, 13, 14, 15, 9, 16, 168, 169, 170, 171, 172, 173, 174, 175, 176, 177, 178, 179, 180] rfl (by decide +kernel)
set_option maxRecDepth 100000 in
theorem gX4_runBlock_X0_link : GoodIn wsX4_runBlock (wsV RX4 175 RX0 yX0_link wsX0_link) := goodIn_app (goodIn_of _ (by decide +kernel)) ggX4_runBlock_X0_link
set_option maxRecDepth 100000 in
theorem ggX4_runBlock_X0_has : GoodIn wsX4_runBlock wsX0_has := goodIn_r _ [16, 12, 168, 169, 170, 171, 172, 173, 174, 175, 176, 177, 178, 179, 180] rfl (by decide +kernel)
set_option maxRecDepth 100000 in
theorem gX4_runBlock_X0_has : GoodIn wsX4_runBlock (wsV RX4 162 RX0 yX0_has wsX0_has) := goodIn_app (goodIn_of _ (by decide +kernel)) ggX4_runBlock_X0_has
set_option maxRecDepth 100000 in
theorem ggX4_runBlock_X0_wordAt : GoodIn wsX4_runBlock wsX0_wordAt := goodIn_r _ [21, 22, 168, 169, 170, 171, 172, 173, 174, 175, 176, 177, 178, 179, 180] rfl (by decide +kernel)
set_option maxRecDepth 100000 in
theorem gX4_runBlock_X0_wordAt : GoodIn wsX4_runBlock (wsV RX4 179 RX0 yX0_wordAt wsX0_wordAt) := goodIn_app (goodIn_of _ (by decide +kernel)) ggX4_runBlock_X0_wordAt
set_option maxRecDepth 100000 in
theorem ggX4_runBlock_X4_perform : GoodIn wsX4_runBlock wsX4_perform := goodIn_r _ [27, 4, 28, 29, 30, 31, 32, 33, 34, 35, 36, 37, 38, 39, 40, 41, 42, 43, 44, 45, 46, 47, 48, 49, 50, 51, 52, 53, 54, 55, 56, 57, 58, 59, 60, 61, 62, 63, 64, 65, 66, 67, 68, 69, 70, 71, 72, 73, 74, 75, 76, 77, 78, 79, 80, 81, 82, 83, 84, 85, 86, 87, 88, 89, 90, 91, 92, 93, 94, 95, 96, 97, 98, 99, 100, 101, 102, 103, 104, 105, 106, 107, 108, 109, 110, 111, 112, 113, 114, 115, 116, 117, 118, 119, 120, 121, 122, 123, 124, 125, 126, 127, 128, 129, 130, 131, 132, 133, 134, 135, 26, 136, 137, 138, 1, 139, 140, 141, 9, 142, 143, 12, 144, 145, 13, 14, 15, 16, 146, 147, 148, 149, 150, 151, 157, 158, 159, 160, 161, 162, 163, 164, 165, 166, 167, 181, 182, 183, 184, 185, 186, 187, 188, 189, 168, 169, 170, 171, 172, 173, 174, 175, 176, 177, 178, 179, 180] rfl (by decide +kernel)
set_option maxRecDepth 100000 in
theorem gX4_runBlock_X4_perform : GoodIn wsX4_runBlock (wsV RX4 183 RX4 yX4_perform wsX4_perform) := goodIn_app (goodIn_of _ (by decide +kernel)) ggX4_runBlock_X4_perform
set_option maxRecDepth 100000 in
theorem ggX4_runBlock_X0_exitTo : GoodIn wsX4_runBlock wsX0_exitTo := goodIn_r _ [155, 156, 168, 169, 170, 171, 172, 173, 174, 175, 176, 177, 178, 179, 180] rfl (by decide +kernel)
set_option maxRecDepth 100000 in
theorem gX4_runBlock_X0_exitTo : GoodIn wsX4_runBlock (wsV RX4 186 RX0 yX0_exitTo wsX0_exitTo) := goodIn_app (goodIn_of _ (by decide +kernel)) ggX4_runBlock_X0_exitTo
theorem dX4_runBlock_0 : decode cX4_runBlock 0 = .ok (.aload_n 0, 1) := by decide +kernel
theorem dX4_runBlock_1 : decode cX4_runBlock 1 = .ok (.getfield 19, 3) := by decide +kernel
theorem dX4_runBlock_4 : decode cX4_runBlock 4 = .ok (.aload_n 0, 1) := by decide +kernel
theorem dX4_runBlock_5 : decode cX4_runBlock 5 = .ok (.getfield 36, 3) := by decide +kernel
theorem dX4_runBlock_8 : decode cX4_runBlock 8 = .ok (.iload_n 1, 1) := by decide +kernel
theorem dX4_runBlock_9 : decode cX4_runBlock 9 = .ok (.invokevirtual 175, 3) := by decide +kernel
theorem dX4_runBlock_12 : decode cX4_runBlock 12 = .ok (.aload_n 0, 1) := by decide +kernel
theorem dX4_runBlock_13 : decode cX4_runBlock 13 = .ok (.getfield 19, 3) := by decide +kernel
theorem dX4_runBlock_16 : decode cX4_runBlock 16 = .ok (.getfield 133, 3) := by decide +kernel
theorem dX4_runBlock_19 : decode cX4_runBlock 19 = .ok (.iload_n 1, 1) := by decide +kernel
theorem dX4_runBlock_20 : decode cX4_runBlock 20 = .ok (.iaload, 1) := by decide +kernel
theorem dX4_runBlock_21 : decode cX4_runBlock 21 = .ok (.istore_n 2, 1) := by decide +kernel
theorem dX4_runBlock_22 : decode cX4_runBlock 22 = .ok (.iconst 0, 1) := by decide +kernel
theorem dX4_runBlock_23 : decode cX4_runBlock 23 = .ok (.istore_n 3, 1) := by decide +kernel
theorem dX4_runBlock_24 : decode cX4_runBlock 24 = .ok (.iload_n 3, 1) := by decide +kernel
theorem dX4_runBlock_25 : decode cX4_runBlock 25 = .ok (.iload_n 2, 1) := by decide +kernel
theorem dX4_runBlock_26 : decode cX4_runBlock 26 = .ok (.if_icmp .ge 33, 3) := by decide +kernel
theorem dX4_runBlock_29 : decode cX4_runBlock 29 = .ok (.aload_n 0, 1) := by decide +kernel
theorem dX4_runBlock_30 : decode cX4_runBlock 30 = .ok (.getfield 19, 3) := by decide +kernel
theorem dX4_runBlock_33 : decode cX4_runBlock 33 = .ok (.iload_n 1, 1) := by decide +kernel
theorem dX4_runBlock_34 : decode cX4_runBlock 34 = .ok (.invokevirtual 162, 3) := by decide +kernel
theorem dX4_runBlock_37 : decode cX4_runBlock 37 = .ok (.ifCond .eq 22, 3) := by decide +kernel
theorem dX4_runBlock_40 : decode cX4_runBlock 40 = .ok (.aload_n 0, 1) := by decide +kernel
theorem dX4_runBlock_41 : decode cX4_runBlock 41 = .ok (.aload_n 0, 1) := by decide +kernel
theorem dX4_runBlock_42 : decode cX4_runBlock 42 = .ok (.getfield 19, 3) := by decide +kernel
theorem dX4_runBlock_45 : decode cX4_runBlock 45 = .ok (.iload_n 1, 1) := by decide +kernel
theorem dX4_runBlock_46 : decode cX4_runBlock 46 = .ok (.iload_n 3, 1) := by decide +kernel
theorem dX4_runBlock_47 : decode cX4_runBlock 47 = .ok (.invokevirtual 179, 3) := by decide +kernel
theorem dX4_runBlock_50 : decode cX4_runBlock 50 = .ok (.invokevirtual 183, 3) := by decide +kernel
theorem dX4_runBlock_53 : decode cX4_runBlock 53 = .ok (.iinc 3 1, 3) := by decide +kernel
theorem dX4_runBlock_56 : decode cX4_runBlock 56 = .ok (.goto (-32), 3) := by decide +kernel
theorem dX4_runBlock_59 : decode cX4_runBlock 59 = .ok (.aload_n 0, 1) := by decide +kernel
theorem dX4_runBlock_60 : decode cX4_runBlock 60 = .ok (.aload_n 0, 1) := by decide +kernel
theorem dX4_runBlock_61 : decode cX4_runBlock 61 = .ok (.getfield 19, 3) := by decide +kernel
theorem dX4_runBlock_64 : decode cX4_runBlock 64 = .ok (.iload_n 1, 1) := by decide +kernel
theorem dX4_runBlock_65 : decode cX4_runBlock 65 = .ok (.invokevirtual 162, 3) := by decide +kernel
theorem dX4_runBlock_68 : decode cX4_runBlock 68 = .ok (.ifCond .eq 24, 3) := by decide +kernel
theorem dX4_runBlock_71 : decode cX4_runBlock 71 = .ok (.aload_n 0, 1) := by decide +kernel
theorem dX4_runBlock_72 : decode cX4_runBlock 72 = .ok (.getfield 19, 3) := by decide +kernel
theorem dX4_runBlock_75 : decode cX4_runBlock 75 = .ok (.iload_n 1, 1) := by decide +kernel
theorem dX4_runBlock_76 : decode cX4_runBlock 76 = .ok (.aload_n 0, 1) := by decide +kernel
theorem dX4_runBlock_77 : decode cX4_runBlock 77 = .ok (.getfield 10, 3) := by decide +kernel
theorem dX4_runBlock_80 : decode cX4_runBlock 80 = .ok (.getfield 60, 3) := by decide +kernel
theorem dX4_runBlock_83 : decode cX4_runBlock 83 = .ok (.bipush 9, 2) := by decide +kernel
theorem dX4_runBlock_85 : decode cX4_runBlock 85 = .ok (.iaload, 1) := by decide +kernel
theorem dX4_runBlock_86 : decode cX4_runBlock 86 = .ok (.invokevirtual 186, 3) := by decide +kernel
theorem dX4_runBlock_89 : decode cX4_runBlock 89 = .ok (.goto 4, 3) := by decide +kernel
theorem dX4_runBlock_92 : decode cX4_runBlock 92 = .ok (.iconst (-1), 1) := by decide +kernel
theorem dX4_runBlock_93 : decode cX4_runBlock 93 = .ok (.putfield 36, 3) := by decide +kernel
theorem dX4_runBlock_96 : decode cX4_runBlock 96 = .ok (.return_, 1) := by decide +kernel
set_option maxRecDepth 100000 in
theorem ggX4_interpret_X1_decode : GoodIn wsX4_interpret wsX1_decode := goodIn_r _ [9, 10, 11, 8, 12] rfl (by decide +kernel)
set_option maxRecDepth 100000 in
theorem gX4_interpret_X1_decode : GoodIn wsX4_interpret (va_wsS RX4 189 yX1_decode wsX1_decode) := goodIn_app (goodIn_of _ (by decide +kernel)) ggX4_interpret_X1_decode
set_option maxRecDepth 100000 in
theorem ggX4_interpret_X1_kind : GoodIn wsX4_interpret wsX1_kind := goodIn_r _ [15] rfl (by decide +kernel)
set_option maxRecDepth 100000 in
theorem gX4_interpret_X1_kind : GoodIn wsX4_interpret (va_wsS RX4 195 yX1_kind wsX1_kind) := goodIn_app (goodIn_of _ (by decide +kernel)) ggX4_interpret_X1_kind
set_option maxRecDepth 100000 in
theorem ggX4_interpret_X4_perform : GoodIn wsX4_interpret wsX4_perform := goodIn_r _ [20, 2, 21, 4, 22, 23, 24, 25, 26, 27, 28, 14, 8, 15, 29, 30, 31, 32, 33, 34, 35, 36, 37, 38, 39, 40, 41, 42, 43, 44, 45, 46, 47, 48, 49, 50, 51, 52, 53, 54, 55, 56, 57, 58, 59, 60, 61, 62, 63, 64, 65, 66, 67, 68, 69, 70, 71, 72, 73, 74, 75, 76, 77, 78, 79, 80, 81, 82, 83, 84, 85, 86, 87, 88, 89, 90, 91, 92, 93, 94, 95, 96, 97, 98, 99, 100, 101, 102, 103, 104, 105, 106, 107, 108, 109, 110, 111, 112, 113, 114, 115, 116, 117, 118, 119, 120, 121, 122, 123, 124, 19, 125, 126, 127, 128, 129, 130, 131, 132, 133, 134, 135, 136, 137, 138, 139, 140, 141, 142, 143, 144, 145, 146, 13, 147, 148, 149, 150, 151, 152, 153, 154, 155, 156, 157, 158, 159, 160, 161, 162, 163, 164, 165, 166, 167, 168, 169, 170, 171, 172, 173, 174, 175, 176, 177, 178, 179] rfl (by decide +kernel)
set_option maxRecDepth 100000 in
theorem gX4_interpret_X4_perform : GoodIn wsX4_interpret (wsV RX4 183 RX4 yX4_perform wsX4_perform) := goodIn_app (goodIn_of _ (by decide +kernel)) ggX4_interpret_X4_perform
theorem dX4_interpret_0 : decode cX4_interpret 0 = .ok (.aload_n 0, 1) := by decide +kernel
theorem dX4_interpret_1 : decode cX4_interpret 1 = .ok (.iconst (-1), 1) := by decide +kernel
theorem dX4_interpret_2 : decode cX4_interpret 2 = .ok (.putfield 36, 3) := by decide +kernel
theorem dX4_interpret_5 : decode cX4_interpret 5 = .ok (.aload_n 0, 1) := by decide +kernel
theorem dX4_interpret_6 : decode cX4_interpret 6 = .ok (.getfield 10, 3) := by decide +kernel
theorem dX4_interpret_9 : decode cX4_interpret 9 = .ok (.getfield 46, 3) := by decide +kernel
theorem dX4_interpret_12 : decode cX4_interpret 12 = .ok (.iload_n 1, 1) := by decide +kernel
theorem dX4_interpret_13 : decode cX4_interpret 13 = .ok (.invokestatic 189, 3) := by decide +kernel
theorem dX4_interpret_16 : decode cX4_interpret 16 = .ok (.istore_n 2, 1) := by decide +kernel
theorem dX4_interpret_17 : decode cX4_interpret 17 = .ok (.iload_n 2, 1) := by decide +kernel
theorem dX4_interpret_18 : decode cX4_interpret 18 = .ok (.invokestatic 195, 3) := by decide +kernel
theorem dX4_interpret_21 : decode cX4_interpret 21 = .ok (.ifCond .ne 9, 3) := by decide +kernel
theorem dX4_interpret_24 : decode cX4_interpret 24 = .ok (.aload_n 0, 1) := by decide +kernel
theorem dX4_interpret_25 : decode cX4_interpret 25 = .ok (.iconst 2, 1) := by decide +kernel
theorem dX4_interpret_26 : decode cX4_interpret 26 = .ok (.putfield 88, 3) := by decide +kernel
theorem dX4_interpret_29 : decode cX4_interpret 29 = .ok (.return_, 1) := by decide +kernel
theorem dX4_interpret_30 : decode cX4_interpret 30 = .ok (.aload_n 0, 1) := by decide +kernel
theorem dX4_interpret_31 : decode cX4_interpret 31 = .ok (.dup, 1) := by decide +kernel
theorem dX4_interpret_32 : decode cX4_interpret 32 = .ok (.getfield 115, 3) := by decide +kernel
theorem dX4_interpret_35 : decode cX4_interpret 35 = .ok (.iconst 1, 1) := by decide +kernel
theorem dX4_interpret_36 : decode cX4_interpret 36 = .ok (.iadd, 1) := by decide +kernel
theorem dX4_interpret_37 : decode cX4_interpret 37 = .ok (.putfield 115, 3) := by decide +kernel
theorem dX4_interpret_40 : decode cX4_interpret 40 = .ok (.aload_n 0, 1) := by decide +kernel
theorem dX4_interpret_41 : decode cX4_interpret 41 = .ok (.iload_n 2, 1) := by decide +kernel
theorem dX4_interpret_42 : decode cX4_interpret 42 = .ok (.invokevirtual 183, 3) := by decide +kernel
theorem dX4_interpret_45 : decode cX4_interpret 45 = .ok (.return_, 1) := by decide +kernel
set_option maxRecDepth 100000 in
theorem ggX4_perform_X2_execute : GoodIn wsX4_perform wsX2_execute := goodIn_r _ [8, 9, 10, 11, 12, 13, 14, 15, 16, 17, 18, 19, 20, 21, 22, 7, 23, 24, 25, 26, 27, 28, 29, 30, 31, 32, 33, 34, 35, 36, 37, 38, 39, 40, 41, 42, 43, 44, 45, 46, 47, 48, 49, 50, 51, 52, 53, 54, 55, 56, 57, 58, 59, 60, 61, 62, 63, 64, 65, 66, 67, 68, 69, 70, 71, 72, 73, 74, 75, 76, 77, 78, 79, 80, 81, 82, 83, 84, 85, 86, 87, 88, 89, 90, 91, 92, 93, 94, 95, 96, 97, 98, 99, 100, 101, 102, 103, 104, 105, 106, 145, 146, 147, 148, 149, 150, 151, 152, 153] rfl (by decide +kernel)
set_option maxRecDepth 100000 in
theorem gX4_perform_X2_execute : GoodIn wsX4_perform (wsV RX4 198 RX2 yX2_execute wsX2_execute) := goodIn_app (goodIn_of _ (by decide +kernel)) ggX4_perform_X2_execute
set_option maxRecDepth 100000 in
theorem ggX4_perform_X4_dropWritten : GoodIn wsX4_perform wsX4_dropWritten := goodIn_r _ [111, 1, 112, 113, 114, 115, 116, 117, 118, 119, 120, 121, 122, 123, 124, 125, 126, 127, 128, 129, 130, 131, 132, 134, 135, 136, 137, 138, 139, 140, 141, 142, 143, 144, 145, 146, 147, 148, 149, 150, 154, 155, 156, 157, 158, 159, 160, 161, 162, 163, 164, 165, 166] rfl (by decide +kernel)
set_option maxRecDepth 100000 in
theorem gX4_perform_X4_dropWritten : GoodIn wsX4_perform (wsV RX4 156 RX4 yX4_dropWritten wsX4_dropWritten) := goodIn_app (goodIn_of _ (by decide +kernel)) ggX4_perform_X4_dropWritten
set_option maxRecDepth 100000 in
theorem ggX4_perform_X1_kind : GoodIn wsX4_perform wsX1_kind := goodIn_r _ [13] rfl (by decide +kernel)
set_option maxRecDepth 100000 in
theorem gX4_perform_X1_kind : GoodIn wsX4_perform (va_wsS RX4 195 yX1_kind wsX1_kind) := goodIn_app (goodIn_of _ (by decide +kernel)) ggX4_perform_X1_kind
theorem dX4_perform_0 : decode cX4_perform 0 = .ok (.aload_n 0, 1) := by decide +kernel
theorem dX4_perform_1 : decode cX4_perform 1 = .ok (.getfield 10, 3) := by decide +kernel
theorem dX4_perform_4 : decode cX4_perform 4 = .ok (.iload_n 1, 1) := by decide +kernel
theorem dX4_perform_5 : decode cX4_perform 5 = .ok (.invokevirtual 198, 3) := by decide +kernel
theorem dX4_perform_8 : decode cX4_perform 8 = .ok (.aload_n 0, 1) := by decide +kernel
theorem dX4_perform_9 : decode cX4_perform 9 = .ok (.dup, 1) := by decide +kernel
theorem dX4_perform_10 : decode cX4_perform 10 = .ok (.getfield 79, 3) := by decide +kernel
theorem dX4_perform_13 : decode cX4_perform 13 = .ok (.iconst 1, 1) := by decide +kernel
theorem dX4_perform_14 : decode cX4_perform 14 = .ok (.iadd, 1) := by decide +kernel
theorem dX4_perform_15 : decode cX4_perform 15 = .ok (.putfield 79, 3) := by decide +kernel
theorem dX4_perform_18 : decode cX4_perform 18 = .ok (.aload_n 0, 1) := by decide +kernel
theorem dX4_perform_19 : decode cX4_perform 19 = .ok (.invokevirtual 156, 3) := by decide +kernel
theorem dX4_perform_22 : decode cX4_perform 22 = .ok (.iload_n 1, 1) := by decide +kernel
theorem dX4_perform_23 : decode cX4_perform 23 = .ok (.invokestatic 195, 3) := by decide +kernel
theorem dX4_perform_26 : decode cX4_perform 26 = .ok (.iconst 1, 1) := by decide +kernel
theorem dX4_perform_27 : decode cX4_perform 27 = .ok (.if_icmp .ne 8, 3) := by decide +kernel
theorem dX4_perform_30 : decode cX4_perform 30 = .ok (.aload_n 0, 1) := by decide +kernel
theorem dX4_perform_31 : decode cX4_perform 31 = .ok (.iconst 1, 1) := by decide +kernel
theorem dX4_perform_32 : decode cX4_perform 32 = .ok (.putfield 88, 3) := by decide +kernel
theorem dX4_perform_35 : decode cX4_perform 35 = .ok (.return_, 1) := by decide +kernel
set_option maxRecDepth 100000 in
theorem ggX4_dropWritten_X0_dropPage : GoodIn wsX4_dropWritten wsX0_dropPage := goodIn_r _ [9, 10, 11, 12, 13, 14, 15, 16, 8, 17, 18, 19, 20, 21, 22, 40, 41, 42, 43, 44, 45, 46, 47, 48, 49, 50, 51, 52] rfl (by decide +kernel)
set_option maxRecDepth 100000 in
theorem gX4_dropWritten_X0_dropPage : GoodIn wsX4_dropWritten (wsV RX4 50 RX0 yX0_dropPage wsX0_dropPage) := goodIn_app (goodIn_of _ (by decide +kernel)) ggX4_dropWritten_X0_dropPage
theorem dX4_dropWritten_0 : decode cX4_dropWritten 0 = .ok (.aload_n 0, 1) := by decide +kernel
theorem dX4_dropWritten_1 : decode cX4_dropWritten 1 = .ok (.getfield 10, 3) := by decide +kernel
theorem dX4_dropWritten_4 : decode cX4_dropWritten 4 = .ok (.getfield 201, 3) := by decide +kernel
theorem dX4_dropWritten_7 : decode cX4_dropWritten 7 = .ok (.iconst (-1), 1) := by decide +kernel
theorem dX4_dropWritten_8 : decode cX4_dropWritten 8 = .ok (.if_icmp .eq 37, 3) := by decide +kernel
theorem dX4_dropWritten_11 : decode cX4_dropWritten 11 = .ok (.aload_n 0, 1) := by decide +kernel
theorem dX4_dropWritten_12 : decode cX4_dropWritten 12 = .ok (.dup, 1) := by decide +kernel
theorem dX4_dropWritten_13 : decode cX4_dropWritten 13 = .ok (.getfield 106, 3) := by decide +kernel
theorem dX4_dropWritten_16 : decode cX4_dropWritten 16 = .ok (.aload_n 0, 1) := by decide +kernel
theorem dX4_dropWritten_17 : decode cX4_dropWritten 17 = .ok (.getfield 19, 3) := by decide +kernel
theorem dX4_dropWritten_20 : decode cX4_dropWritten 20 = .ok (.aload_n 0, 1) := by decide +kernel
theorem dX4_dropWritten_21 : decode cX4_dropWritten 21 = .ok (.getfield 10, 3) := by decide +kernel
theorem dX4_dropWritten_24 : decode cX4_dropWritten 24 = .ok (.getfield 201, 3) := by decide +kernel
theorem dX4_dropWritten_27 : decode cX4_dropWritten 27 = .ok (.bipush 32, 2) := by decide +kernel
theorem dX4_dropWritten_29 : decode cX4_dropWritten 29 = .ok (.idiv, 1) := by decide +kernel
theorem dX4_dropWritten_30 : decode cX4_dropWritten 30 = .ok (.invokevirtual 50, 3) := by decide +kernel
theorem dX4_dropWritten_33 : decode cX4_dropWritten 33 = .ok (.iadd, 1) := by decide +kernel
theorem dX4_dropWritten_34 : decode cX4_dropWritten 34 = .ok (.putfield 106, 3) := by decide +kernel
theorem dX4_dropWritten_37 : decode cX4_dropWritten 37 = .ok (.aload_n 0, 1) := by decide +kernel
theorem dX4_dropWritten_38 : decode cX4_dropWritten 38 = .ok (.getfield 10, 3) := by decide +kernel
theorem dX4_dropWritten_41 : decode cX4_dropWritten 41 = .ok (.iconst (-1), 1) := by decide +kernel
theorem dX4_dropWritten_42 : decode cX4_dropWritten 42 = .ok (.putfield 201, 3) := by decide +kernel
theorem dX4_dropWritten_45 : decode cX4_dropWritten 45 = .ok (.return_, 1) := by decide +kernel
theorem dX5_init_0 : decode cX5_init 0 = .ok (.aload_n 0, 1) := by decide +kernel
theorem dX5_init_1 : decode cX5_init 1 = .ok (.invokespecial 1, 3) := by decide +kernel
theorem dX5_init_4 : decode cX5_init 4 = .ok (.aload_n 0, 1) := by decide +kernel
theorem dX5_init_5 : decode cX5_init 5 = .ok (.sipush 256, 3) := by decide +kernel
theorem dX5_init_8 : decode cX5_init 8 = .ok (.newarray .int, 2) := by decide +kernel
theorem dX5_init_10 : decode cX5_init 10 = .ok (.putfield 7, 3) := by decide +kernel
theorem dX5_init_13 : decode cX5_init 13 = .ok (.aload_n 0, 1) := by decide +kernel
theorem dX5_init_14 : decode cX5_init 14 = .ok (.bipush 10, 2) := by decide +kernel
theorem dX5_init_16 : decode cX5_init 16 = .ok (.newarray .int, 2) := by decide +kernel
theorem dX5_init_18 : decode cX5_init 18 = .ok (.putfield 13, 3) := by decide +kernel
theorem dX5_init_21 : decode cX5_init 21 = .ok (.aload_n 0, 1) := by decide +kernel
theorem dX5_init_22 : decode cX5_init 22 = .ok (.bipush 32, 2) := by decide +kernel
theorem dX5_init_24 : decode cX5_init 24 = .ok (.newarray .int, 2) := by decide +kernel
theorem dX5_init_26 : decode cX5_init 26 = .ok (.putfield 16, 3) := by decide +kernel
theorem dX5_init_29 : decode cX5_init 29 = .ok (.aload_n 0, 1) := by decide +kernel
theorem dX5_init_30 : decode cX5_init 30 = .ok (.bipush 16, 2) := by decide +kernel
theorem dX5_init_32 : decode cX5_init 32 = .ok (.newarray .int, 2) := by decide +kernel
theorem dX5_init_34 : decode cX5_init 34 = .ok (.putfield 19, 3) := by decide +kernel
theorem dX5_init_37 : decode cX5_init 37 = .ok (.aload_n 0, 1) := by decide +kernel
theorem dX5_init_38 : decode cX5_init 38 = .ok (.iconst (-1), 1) := by decide +kernel
theorem dX5_init_39 : decode cX5_init 39 = .ok (.putfield 22, 3) := by decide +kernel
theorem dX5_init_42 : decode cX5_init 42 = .ok (.aload_n 0, 1) := by decide +kernel
theorem dX5_init_43 : decode cX5_init 43 = .ok (.bipush 100, 2) := by decide +kernel
theorem dX5_init_45 : decode cX5_init 45 = .ok (.newarray .int, 2) := by decide +kernel
theorem dX5_init_47 : decode cX5_init 47 = .ok (.putfield 26, 3) := by decide +kernel
theorem dX5_init_50 : decode cX5_init 50 = .ok (.aload_n 0, 1) := by decide +kernel
theorem dX5_init_51 : decode cX5_init 51 = .ok (.sipush 256, 3) := by decide +kernel
theorem dX5_init_54 : decode cX5_init 54 = .ok (.newarray .int, 2) := by decide +kernel
theorem dX5_init_56 : decode cX5_init 56 = .ok (.putfield 29, 3) := by decide +kernel
theorem dX5_init_59 : decode cX5_init 59 = .ok (.aload_n 0, 1) := by decide +kernel
theorem dX5_init_60 : decode cX5_init 60 = .ok (.sipush 256, 3) := by decide +kernel
theorem dX5_init_63 : decode cX5_init 63 = .ok (.newarray .int, 2) := by decide +kernel
theorem dX5_init_65 : decode cX5_init 65 = .ok (.putfield 32, 3) := by decide +kernel
theorem dX5_init_68 : decode cX5_init 68 = .ok (.aload_n 0, 1) := by decide +kernel
theorem dX5_init_69 : decode cX5_init 69 = .ok (.sipush 256, 3) := by decide +kernel
theorem dX5_init_72 : decode cX5_init 72 = .ok (.newarray .int, 2) := by decide +kernel
theorem dX5_init_74 : decode cX5_init 74 = .ok (.putfield 35, 3) := by decide +kernel
theorem dX5_init_77 : decode cX5_init 77 = .ok (.aload_n 0, 1) := by decide +kernel
theorem dX5_init_78 : decode cX5_init 78 = .ok (.sipush 256, 3) := by decide +kernel
theorem dX5_init_81 : decode cX5_init 81 = .ok (.newarray .int, 2) := by decide +kernel
theorem dX5_init_83 : decode cX5_init 83 = .ok (.putfield 38, 3) := by decide +kernel
theorem dX5_init_86 : decode cX5_init 86 = .ok (.aload_n 0, 1) := by decide +kernel
theorem dX5_init_87 : decode cX5_init 87 = .ok (.sipush 512, 3) := by decide +kernel
theorem dX5_init_90 : decode cX5_init 90 = .ok (.newarray .int, 2) := by decide +kernel
theorem dX5_init_92 : decode cX5_init 92 = .ok (.putfield 41, 3) := by decide +kernel
theorem dX5_init_95 : decode cX5_init 95 = .ok (.aload_n 0, 1) := by decide +kernel
theorem dX5_init_96 : decode cX5_init 96 = .ok (.sipush 512, 3) := by decide +kernel
theorem dX5_init_99 : decode cX5_init 99 = .ok (.newarray .int, 2) := by decide +kernel
theorem dX5_init_101 : decode cX5_init 101 = .ok (.putfield 44, 3) := by decide +kernel
theorem dX5_init_104 : decode cX5_init 104 = .ok (.aload_n 0, 1) := by decide +kernel
theorem dX5_init_105 : decode cX5_init 105 = .ok (.bipush 100, 2) := by decide +kernel
theorem dX5_init_107 : decode cX5_init 107 = .ok (.putfield 47, 3) := by decide +kernel
theorem dX5_init_110 : decode cX5_init 110 = .ok (.aload_n 0, 1) := by decide +kernel
theorem dX5_init_111 : decode cX5_init 111 = .ok (.bipush 12, 2) := by decide +kernel
theorem dX5_init_113 : decode cX5_init 113 = .ok (.newarray .int, 2) := by decide +kernel
theorem dX5_init_115 : decode cX5_init 115 = .ok (.putfield 50, 3) := by decide +kernel
theorem dX5_init_118 : decode cX5_init 118 = .ok (.aload_n 0, 1) := by decide +kernel
theorem dX5_init_119 : decode cX5_init 119 = .ok (.bipush 8, 2) := by decide +kernel
theorem dX5_init_121 : decode cX5_init 121 = .ok (.newarray .int, 2) := by decide +kernel
theorem dX5_init_123 : decode cX5_init 123 = .ok (.putfield 53, 3) := by decide +kernel
theorem dX5_init_126 : decode cX5_init 126 = .ok (.aload_n 0, 1) := by decide +kernel
theorem dX5_init_127 : decode cX5_init 127 = .ok (.iconst (-1), 1) := by decide +kernel
theorem dX5_init_128 : decode cX5_init 128 = .ok (.putfield 56, 3) := by decide +kernel
theorem dX5_init_131 : decode cX5_init 131 = .ok (.return_, 1) := by decide +kernel
theorem dX5_thrown_0 : decode cX5_thrown 0 = .ok (.aload_n 0, 1) := by decide +kernel
theorem dX5_thrown_1 : decode cX5_thrown 1 = .ok (.getfield 59, 3) := by decide +kernel
theorem dX5_thrown_4 : decode cX5_thrown 4 = .ok (.ireturn, 1) := by decide +kernel
theorem dX5_refused_0 : decode cX5_refused 0 = .ok (.aload_n 0, 1) := by decide +kernel
theorem dX5_refused_1 : decode cX5_refused 1 = .ok (.iload_n 1, 1) := by decide +kernel
theorem dX5_refused_2 : decode cX5_refused 2 = .ok (.putfield 59, 3) := by decide +kernel
theorem dX5_refused_5 : decode cX5_refused 5 = .ok (.iload_n 1, 1) := by decide +kernel
theorem dX5_refused_6 : decode cX5_refused 6 = .ok (.ifCond .le 7, 3) := by decide +kernel
theorem dX5_refused_9 : decode cX5_refused 9 = .ok (.iconst 1, 1) := by decide +kernel
theorem dX5_refused_10 : decode cX5_refused 10 = .ok (.goto 4, 3) := by decide +kernel
theorem dX5_refused_13 : decode cX5_refused 13 = .ok (.iconst 0, 1) := by decide +kernel
theorem dX5_refused_14 : decode cX5_refused 14 = .ok (.ireturn, 1) := by decide +kernel
theorem dX5_isIn_0 : decode cX5_isIn 0 = .ok (.iload_n 0, 1) := by decide +kernel
theorem dX5_isIn_1 : decode cX5_isIn 1 = .ok (.iload_n 1, 1) := by decide +kernel
theorem dX5_isIn_2 : decode cX5_isIn 2 = .ok (.if_icmp .lt 12, 3) := by decide +kernel
theorem dX5_isIn_5 : decode cX5_isIn 5 = .ok (.iload_n 0, 1) := by decide +kernel
theorem dX5_isIn_6 : decode cX5_isIn 6 = .ok (.iload_n 2, 1) := by decide +kernel
theorem dX5_isIn_7 : decode cX5_isIn 7 = .ok (.if_icmp .gt 7, 3) := by decide +kernel
theorem dX5_isIn_10 : decode cX5_isIn 10 = .ok (.iconst 1, 1) := by decide +kernel
theorem dX5_isIn_11 : decode cX5_isIn 11 = .ok (.goto 4, 3) := by decide +kernel
theorem dX5_isIn_14 : decode cX5_isIn 14 = .ok (.iconst 0, 1) := by decide +kernel
theorem dX5_isIn_15 : decode cX5_isIn 15 = .ok (.ireturn, 1) := by decide +kernel
theorem dX5_kindOf_0 : decode cX5_kindOf 0 = .ok (.iload_n 0, 1) := by decide +kernel
theorem dX5_kindOf_1 : decode cX5_kindOf 1 = .ok (.bipush 15, 2) := by decide +kernel
theorem dX5_kindOf_3 : decode cX5_kindOf 3 = .ok (.iand, 1) := by decide +kernel
theorem dX5_kindOf_4 : decode cX5_kindOf 4 = .ok (.istore_n 1, 1) := by decide +kernel
theorem dX5_kindOf_5 : decode cX5_kindOf 5 = .ok (.iload_n 0, 1) := by decide +kernel
theorem dX5_kindOf_6 : decode cX5_kindOf 6 = .ok (.iconst 3, 1) := by decide +kernel
theorem dX5_kindOf_7 : decode cX5_kindOf 7 = .ok (.iand, 1) := by decide +kernel
theorem dX5_kindOf_8 : decode cX5_kindOf 8 = .ok (.istore_n 2, 1) := by decide +kernel
theorem dX5_kindOf_9 : decode cX5_kindOf 9 = .ok (.iload_n 0, 1) := by decide +kernel
theorem dX5_kindOf_10 : decode cX5_kindOf 10 = .ok (.iconst 4, 1) := by decide +kernel
theorem dX5_kindOf_11 : decode cX5_kindOf 11 = .ok (.ishr, 1) := by decide +kernel
theorem dX5_kindOf_12 : decode cX5_kindOf 12 = .ok (.tableswitch 162 0 14 #[76, 89, 89, 89, 89, 89, 89, 89, 98, 103, 108, 111, 114, 127, 148], 76) := by decide +kernel
theorem dX5_kindOf_88 : decode cX5_kindOf 88 = .ok (.iload_n 1, 1) := by decide +kernel
theorem dX5_kindOf_89 : decode cX5_kindOf 89 = .ok (.iconst 5, 1) := by decide +kernel
theorem dX5_kindOf_90 : decode cX5_kindOf 90 = .ok (.if_icmp .ge 9, 3) := by decide +kernel
theorem dX5_kindOf_93 : decode cX5_kindOf 93 = .ok (.iconst 1, 1) := by decide +kernel
theorem dX5_kindOf_94 : decode cX5_kindOf 94 = .ok (.iload_n 1, 1) := by decide +kernel
theorem dX5_kindOf_95 : decode cX5_kindOf 95 = .ok (.iadd, 1) := by decide +kernel
theorem dX5_kindOf_96 : decode cX5_kindOf 96 = .ok (.goto 4, 3) := by decide +kernel
theorem dX5_kindOf_99 : decode cX5_kindOf 99 = .ok (.iconst 0, 1) := by decide +kernel
theorem dX5_kindOf_100 : decode cX5_kindOf 100 = .ok (.ireturn, 1) := by decide +kernel
theorem dX5_kindOf_101 : decode cX5_kindOf 101 = .ok (.bipush 6, 2) := by decide +kernel
theorem dX5_kindOf_103 : decode cX5_kindOf 103 = .ok (.iload_n 0, 1) := by decide +kernel
theorem dX5_kindOf_104 : decode cX5_kindOf 104 = .ok (.iconst 4, 1) := by decide +kernel
theorem dX5_kindOf_105 : decode cX5_kindOf 105 = .ok (.ishr, 1) := by decide +kernel
theorem dX5_kindOf_106 : decode cX5_kindOf 106 = .ok (.iadd, 1) := by decide +kernel
theorem dX5_kindOf_107 : decode cX5_kindOf 107 = .ok (.iconst 1, 1) := by decide +kernel
theorem dX5_kindOf_108 : decode cX5_kindOf 108 = .ok (.isub, 1) := by decide +kernel
theorem dX5_kindOf_109 : decode cX5_kindOf 109 = .ok (.ireturn, 1) := by decide +kernel
theorem dX5_kindOf_110 : decode cX5_kindOf 110 = .ok (.bipush 13, 2) := by decide +kernel
theorem dX5_kindOf_112 : decode cX5_kindOf 112 = .ok (.iload_n 2, 1) := by decide +kernel
theorem dX5_kindOf_113 : decode cX5_kindOf 113 = .ok (.iadd, 1) := by decide +kernel
theorem dX5_kindOf_114 : decode cX5_kindOf 114 = .ok (.ireturn, 1) := by decide +kernel
theorem dX5_kindOf_115 : decode cX5_kindOf 115 = .ok (.bipush 17, 2) := by decide +kernel
theorem dX5_kindOf_117 : decode cX5_kindOf 117 = .ok (.iload_n 2, 1) := by decide +kernel
theorem dX5_kindOf_118 : decode cX5_kindOf 118 = .ok (.iadd, 1) := by decide +kernel
theorem dX5_kindOf_119 : decode cX5_kindOf 119 = .ok (.ireturn, 1) := by decide +kernel
theorem dX5_kindOf_120 : decode cX5_kindOf 120 = .ok (.bipush 21, 2) := by decide +kernel
theorem dX5_kindOf_122 : decode cX5_kindOf 122 = .ok (.ireturn, 1) := by decide +kernel
theorem dX5_kindOf_123 : decode cX5_kindOf 123 = .ok (.bipush 22, 2) := by decide +kernel
theorem dX5_kindOf_125 : decode cX5_kindOf 125 = .ok (.ireturn, 1) := by decide +kernel
theorem dX5_kindOf_126 : decode cX5_kindOf 126 = .ok (.iload_n 1, 1) := by decide +kernel
theorem dX5_kindOf_127 : decode cX5_kindOf 127 = .ok (.bipush 7, 2) := by decide +kernel
theorem dX5_kindOf_129 : decode cX5_kindOf 129 = .ok (.if_icmp .ge 8, 3) := by decide +kernel
theorem dX5_kindOf_132 : decode cX5_kindOf 132 = .ok (.bipush 23, 2) := by decide +kernel
theorem dX5_kindOf_134 : decode cX5_kindOf 134 = .ok (.goto 4, 3) := by decide +kernel
theorem dX5_kindOf_137 : decode cX5_kindOf 137 = .ok (.iconst 0, 1) := by decide +kernel
theorem dX5_kindOf_138 : decode cX5_kindOf 138 = .ok (.ireturn, 1) := by decide +kernel
theorem dX5_kindOf_139 : decode cX5_kindOf 139 = .ok (.iload_n 1, 1) := by decide +kernel
theorem dX5_kindOf_140 : decode cX5_kindOf 140 = .ok (.ifCond .ne 8, 3) := by decide +kernel
theorem dX5_kindOf_143 : decode cX5_kindOf 143 = .ok (.bipush 24, 2) := by decide +kernel
theorem dX5_kindOf_145 : decode cX5_kindOf 145 = .ok (.goto 14, 3) := by decide +kernel
theorem dX5_kindOf_148 : decode cX5_kindOf 148 = .ok (.iload_n 1, 1) := by decide +kernel
theorem dX5_kindOf_149 : decode cX5_kindOf 149 = .ok (.iconst 1, 1) := by decide +kernel
theorem dX5_kindOf_150 : decode cX5_kindOf 150 = .ok (.if_icmp .ne 8, 3) := by decide +kernel
theorem dX5_kindOf_153 : decode cX5_kindOf 153 = .ok (.bipush 25, 2) := by decide +kernel
theorem dX5_kindOf_155 : decode cX5_kindOf 155 = .ok (.goto 4, 3) := by decide +kernel
theorem dX5_kindOf_158 : decode cX5_kindOf 158 = .ok (.iconst 0, 1) := by decide +kernel
theorem dX5_kindOf_159 : decode cX5_kindOf 159 = .ok (.ireturn, 1) := by decide +kernel
theorem dX5_kindOf_160 : decode cX5_kindOf 160 = .ok (.iload_n 2, 1) := by decide +kernel
theorem dX5_kindOf_161 : decode cX5_kindOf 161 = .ok (.iconst 2, 1) := by decide +kernel
theorem dX5_kindOf_162 : decode cX5_kindOf 162 = .ok (.if_icmp .ge 10, 3) := by decide +kernel
theorem dX5_kindOf_165 : decode cX5_kindOf 165 = .ok (.bipush 26, 2) := by decide +kernel
theorem dX5_kindOf_167 : decode cX5_kindOf 167 = .ok (.iload_n 2, 1) := by decide +kernel
theorem dX5_kindOf_168 : decode cX5_kindOf 168 = .ok (.iadd, 1) := by decide +kernel
theorem dX5_kindOf_169 : decode cX5_kindOf 169 = .ok (.goto 4, 3) := by decide +kernel
theorem dX5_kindOf_172 : decode cX5_kindOf 172 = .ok (.iconst 0, 1) := by decide +kernel
theorem dX5_kindOf_173 : decode cX5_kindOf 173 = .ok (.ireturn, 1) := by decide +kernel
theorem dX5_kindOf_174 : decode cX5_kindOf 174 = .ok (.iload_n 2, 1) := by decide +kernel
theorem dX5_kindOf_175 : decode cX5_kindOf 175 = .ok (.ifCond .ne 8, 3) := by decide +kernel
theorem dX5_kindOf_178 : decode cX5_kindOf 178 = .ok (.bipush 28, 2) := by decide +kernel
theorem dX5_kindOf_180 : decode cX5_kindOf 180 = .ok (.goto 4, 3) := by decide +kernel
theorem dX5_kindOf_183 : decode cX5_kindOf 183 = .ok (.iconst 0, 1) := by decide +kernel
theorem dX5_kindOf_184 : decode cX5_kindOf 184 = .ok (.ireturn, 1) := by decide +kernel
set_option maxRecDepth 100000 in
theorem ggX5_look_X5_kindOf : GoodIn wsX5_look wsX5_kindOf := goodIn_r _ [7] rfl (by decide +kernel)
set_option maxRecDepth 100000 in
theorem gX5_look_X5_kindOf : GoodIn wsX5_look (va_wsS RX5 62 yX5_kindOf wsX5_kindOf) := goodIn_app (goodIn_of _ (by decide +kernel)) ggX5_look_X5_kindOf
theorem dX5_look_0 : decode cX5_look 0 = .ok (.aload_n 0, 1) := by decide +kernel
theorem dX5_look_1 : decode cX5_look 1 = .ok (.getfield 7, 3) := by decide +kernel
theorem dX5_look_4 : decode cX5_look 4 = .ok (.iload_n 1, 1) := by decide +kernel
theorem dX5_look_5 : decode cX5_look 5 = .ok (.iaload, 1) := by decide +kernel
theorem dX5_look_6 : decode cX5_look 6 = .ok (.istore_n 2, 1) := by decide +kernel
theorem dX5_look_7 : decode cX5_look 7 = .ok (.aload_n 0, 1) := by decide +kernel
theorem dX5_look_8 : decode cX5_look 8 = .ok (.iload_n 2, 1) := by decide +kernel
theorem dX5_look_9 : decode cX5_look 9 = .ok (.invokestatic 62, 3) := by decide +kernel
theorem dX5_look_12 : decode cX5_look 12 = .ok (.putfield 66, 3) := by decide +kernel
theorem dX5_look_15 : decode cX5_look 15 = .ok (.aload_n 0, 1) := by decide +kernel
theorem dX5_look_16 : decode cX5_look 16 = .ok (.aload_n 0, 1) := by decide +kernel
theorem dX5_look_17 : decode cX5_look 17 = .ok (.getfield 66, 3) := by decide +kernel
theorem dX5_look_20 : decode cX5_look 20 = .ok (.bipush 17, 2) := by decide +kernel
theorem dX5_look_22 : decode cX5_look 22 = .ok (.if_icmp .lt 12, 3) := by decide +kernel
theorem dX5_look_25 : decode cX5_look 25 = .ok (.aload_n 0, 1) := by decide +kernel
theorem dX5_look_26 : decode cX5_look 26 = .ok (.getfield 66, 3) := by decide +kernel
theorem dX5_look_29 : decode cX5_look 29 = .ok (.bipush 23, 2) := by decide +kernel
theorem dX5_look_31 : decode cX5_look 31 = .ok (.if_icmp .le 21, 3) := by decide +kernel
theorem dX5_look_34 : decode cX5_look 34 = .ok (.aload_n 0, 1) := by decide +kernel
theorem dX5_look_35 : decode cX5_look 35 = .ok (.getfield 66, 3) := by decide +kernel
theorem dX5_look_38 : decode cX5_look 38 = .ok (.bipush 24, 2) := by decide +kernel
theorem dX5_look_40 : decode cX5_look 40 = .ok (.if_icmp .eq 12, 3) := by decide +kernel
theorem dX5_look_43 : decode cX5_look 43 = .ok (.aload_n 0, 1) := by decide +kernel
theorem dX5_look_44 : decode cX5_look 44 = .ok (.getfield 66, 3) := by decide +kernel
theorem dX5_look_47 : decode cX5_look 47 = .ok (.bipush 28, 2) := by decide +kernel
theorem dX5_look_49 : decode cX5_look 49 = .ok (.if_icmp .ne 7, 3) := by decide +kernel
theorem dX5_look_52 : decode cX5_look 52 = .ok (.iconst 2, 1) := by decide +kernel
theorem dX5_look_53 : decode cX5_look 53 = .ok (.goto 4, 3) := by decide +kernel
theorem dX5_look_56 : decode cX5_look 56 = .ok (.iconst 1, 1) := by decide +kernel
theorem dX5_look_57 : decode cX5_look 57 = .ok (.putfield 69, 3) := by decide +kernel
theorem dX5_look_60 : decode cX5_look 60 = .ok (.return_, 1) := by decide +kernel
theorem dX5_makes_0 : decode cX5_makes 0 = .ok (.iload_n 0, 1) := by decide +kernel
theorem dX5_makes_1 : decode cX5_makes 1 = .ok (.bipush 7, 2) := by decide +kernel
theorem dX5_makes_3 : decode cX5_makes 3 = .ok (.if_icmp .lt 9, 3) := by decide +kernel
theorem dX5_makes_6 : decode cX5_makes 6 = .ok (.iload_n 0, 1) := by decide +kernel
theorem dX5_makes_7 : decode cX5_makes 7 = .ok (.bipush 16, 2) := by decide +kernel
theorem dX5_makes_9 : decode cX5_makes 9 = .ok (.if_icmp .le 15, 3) := by decide +kernel
theorem dX5_makes_12 : decode cX5_makes 12 = .ok (.iload_n 0, 1) := by decide +kernel
theorem dX5_makes_13 : decode cX5_makes 13 = .ok (.bipush 18, 2) := by decide +kernel
theorem dX5_makes_15 : decode cX5_makes 15 = .ok (.if_icmp .lt 13, 3) := by decide +kernel
theorem dX5_makes_18 : decode cX5_makes 18 = .ok (.iload_n 0, 1) := by decide +kernel
theorem dX5_makes_19 : decode cX5_makes 19 = .ok (.bipush 20, 2) := by decide +kernel
theorem dX5_makes_21 : decode cX5_makes 21 = .ok (.if_icmp .gt 7, 3) := by decide +kernel
theorem dX5_makes_24 : decode cX5_makes 24 = .ok (.iconst 1, 1) := by decide +kernel
theorem dX5_makes_25 : decode cX5_makes 25 = .ok (.goto 4, 3) := by decide +kernel
theorem dX5_makes_28 : decode cX5_makes 28 = .ok (.iconst 0, 1) := by decide +kernel
theorem dX5_makes_29 : decode cX5_makes 29 = .ok (.ireturn, 1) := by decide +kernel
theorem dX5_ends_0 : decode cX5_ends 0 = .ok (.iload_n 0, 1) := by decide +kernel
theorem dX5_ends_1 : decode cX5_ends 1 = .ok (.iconst 1, 1) := by decide +kernel
theorem dX5_ends_2 : decode cX5_ends 2 = .ok (.if_icmp .eq 32, 3) := by decide +kernel
theorem dX5_ends_5 : decode cX5_ends 5 = .ok (.iload_n 0, 1) := by decide +kernel
theorem dX5_ends_6 : decode cX5_ends 6 = .ok (.iconst 4, 1) := by decide +kernel
theorem dX5_ends_7 : decode cX5_ends 7 = .ok (.if_icmp .eq 27, 3) := by decide +kernel
theorem dX5_ends_10 : decode cX5_ends 10 = .ok (.iload_n 0, 1) := by decide +kernel
theorem dX5_ends_11 : decode cX5_ends 11 = .ok (.bipush 23, 2) := by decide +kernel
theorem dX5_ends_13 : decode cX5_ends 13 = .ok (.if_icmp .eq 21, 3) := by decide +kernel
theorem dX5_ends_16 : decode cX5_ends 16 = .ok (.iload_n 0, 1) := by decide +kernel
theorem dX5_ends_17 : decode cX5_ends 17 = .ok (.bipush 24, 2) := by decide +kernel
theorem dX5_ends_19 : decode cX5_ends 19 = .ok (.if_icmp .eq 15, 3) := by decide +kernel
theorem dX5_ends_22 : decode cX5_ends 22 = .ok (.iload_n 0, 1) := by decide +kernel
theorem dX5_ends_23 : decode cX5_ends 23 = .ok (.bipush 25, 2) := by decide +kernel
theorem dX5_ends_25 : decode cX5_ends 25 = .ok (.if_icmp .eq 9, 3) := by decide +kernel
theorem dX5_ends_28 : decode cX5_ends 28 = .ok (.iload_n 0, 1) := by decide +kernel
theorem dX5_ends_29 : decode cX5_ends 29 = .ok (.bipush 28, 2) := by decide +kernel
theorem dX5_ends_31 : decode cX5_ends 31 = .ok (.if_icmp .ne 7, 3) := by decide +kernel
theorem dX5_ends_34 : decode cX5_ends 34 = .ok (.iconst 1, 1) := by decide +kernel
theorem dX5_ends_35 : decode cX5_ends 35 = .ok (.goto 4, 3) := by decide +kernel
theorem dX5_ends_38 : decode cX5_ends 38 = .ok (.iconst 0, 1) := by decide +kernel
theorem dX5_ends_39 : decode cX5_ends 39 = .ok (.ireturn, 1) := by decide +kernel
theorem dX5_isAlways_0 : decode cX5_isAlways 0 = .ok (.iload_n 0, 1) := by decide +kernel
theorem dX5_isAlways_1 : decode cX5_isAlways 1 = .ok (.bipush 15, 2) := by decide +kernel
theorem dX5_isAlways_3 : decode cX5_isAlways 3 = .ok (.iand, 1) := by decide +kernel
theorem dX5_isAlways_4 : decode cX5_isAlways 4 = .ok (.ifCond .ne 7, 3) := by decide +kernel
theorem dX5_isAlways_7 : decode cX5_isAlways 7 = .ok (.iconst 1, 1) := by decide +kernel
theorem dX5_isAlways_8 : decode cX5_isAlways 8 = .ok (.goto 4, 3) := by decide +kernel
theorem dX5_isAlways_11 : decode cX5_isAlways 11 = .ok (.iconst 0, 1) := by decide +kernel
