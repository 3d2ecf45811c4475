set_option maxRecDepth 20000 in
theorem ggX0_init_X4_init : GoodIn wsX0_init wsX4_init := goodIn_r _ [9, 10, 2, 3, 11, 12, 13, 14, 15, 16, 17, 18, 19, 20, 21, 22, 23, 24, 25, 26, 27, 28, 29, 30, 31, 32, 33, 34, 35, 36, 37, 38, 39, 40] rfl (by decide +kernel)
set_option maxRecDepth 20000 in
theorem gX0_init_X4_init_n11 : GoodIn wsX0_init (wsX4_init) := ggX0_init_X4_init
theorem dX0_init_0 : decode cX0_init 0 = .ok (.aload_n 0, 1) := by decide +kernel
theorem dX0_init_1 : decode cX0_init 1 = .ok (.invokespecial 3, 3) := by decide +kernel
theorem dX0_init_4 : decode cX0_init 4 = .ok (.aload_n 0, 1) := by decide +kernel
theorem dX0_init_5 : decode cX0_init 5 = .ok (.new 9, 3) := by decide +kernel
theorem dX0_init_8 : decode cX0_init 8 = .ok (.dup, 1) := by decide +kernel
theorem dX0_init_9 : decode cX0_init 9 = .ok (.invokespecial 11, 3) := by decide +kernel
theorem dX0_init_12 : decode cX0_init 12 = .ok (.putfield 12, 3) := by decide +kernel
theorem dX0_init_15 : decode cX0_init 15 = .ok (.return_, 1) := by decide +kernel
set_option maxRecDepth 20000 in
theorem ggX0_firstWrong_X0_takes : GoodIn wsX0_firstWrong wsX0_takes := goodIn_r _ [8, 2, 9, 10, 11, 12, 13, 14, 15, 16, 17, 7, 18, 19, 20, 21, 22, 23, 24, 25, 26, 27, 28, 29, 30, 31, 1, 32, 33, 34, 35, 36, 37, 38, 39, 40, 41, 42, 43, 44, 45, 46, 47, 48, 49, 50, 51, 52, 53, 54, 55, 56, 57, 58, 59, 60, 61, 62, 63, 64, 65, 66, 67, 68, 69, 70, 71, 72, 73, 74, 75, 76, 77, 78, 79, 80, 81, 82, 83, 84, 85, 86, 87, 88, 89, 90, 91, 92, 93, 94, 95, 96, 97, 98, 99, 100, 101, 102, 103, 104, 105, 106, 107, 108, 109, 110, 111, 112, 113, 114, 115, 116, 117, 118, 119, 120, 3, 121, 122, 123, 124, 125, 126, 127, 128, 129, 130, 131, 132, 133, 134, 135, 136, 137, 138, 139, 140, 141, 142, 143, 144, 145, 146, 147, 148, 149, 150, 151, 152, 153, 154, 155, 156, 157, 158, 159, 160, 161, 162, 163, 164, 165, 166, 167, 168, 169, 170, 171, 172, 173, 174, 175, 176, 177, 178, 179, 180, 181, 182] rfl (by decide +kernel)
set_option maxRecDepth 20000 in
theorem gX0_firstWrong_X0_takes : GoodIn wsX0_firstWrong (wsV RX0 33 RX0 yX0_takes wsX0_takes) := goodIn_app (goodIn_r _ [4, 5, 6, 7] rfl (by decide +kernel)) ggX0_firstWrong_X0_takes
theorem dX0_firstWrong_0 : decode cX0_firstWrong 0 = .ok (.aload_n 0, 1) := by decide +kernel
theorem dX0_firstWrong_1 : decode cX0_firstWrong 1 = .ok (.iconst 0, 1) := by decide +kernel
theorem dX0_firstWrong_2 : decode cX0_firstWrong 2 = .ok (.putfield 18, 3) := by decide +kernel
theorem dX0_firstWrong_5 : decode cX0_firstWrong 5 = .ok (.aload_n 0, 1) := by decide +kernel
theorem dX0_firstWrong_6 : decode cX0_firstWrong 6 = .ok (.iconst 0, 1) := by decide +kernel
theorem dX0_firstWrong_7 : decode cX0_firstWrong 7 = .ok (.putfield 22, 3) := by decide +kernel
theorem dX0_firstWrong_10 : decode cX0_firstWrong 10 = .ok (.aload_n 0, 1) := by decide +kernel
theorem dX0_firstWrong_11 : decode cX0_firstWrong 11 = .ok (.iconst 0, 1) := by decide +kernel
theorem dX0_firstWrong_12 : decode cX0_firstWrong 12 = .ok (.putfield 25, 3) := by decide +kernel
theorem dX0_firstWrong_15 : decode cX0_firstWrong 15 = .ok (.iconst 0, 1) := by decide +kernel
theorem dX0_firstWrong_16 : decode cX0_firstWrong 16 = .ok (.istore_n 2, 1) := by decide +kernel
theorem dX0_firstWrong_17 : decode cX0_firstWrong 17 = .ok (.iload_n 2, 1) := by decide +kernel
theorem dX0_firstWrong_18 : decode cX0_firstWrong 18 = .ok (.aload_n 1, 1) := by decide +kernel
theorem dX0_firstWrong_19 : decode cX0_firstWrong 19 = .ok (.getfield 28, 3) := by decide +kernel
theorem dX0_firstWrong_22 : decode cX0_firstWrong 22 = .ok (.if_icmp .ge 20, 3) := by decide +kernel
theorem dX0_firstWrong_25 : decode cX0_firstWrong 25 = .ok (.aload_n 0, 1) := by decide +kernel
theorem dX0_firstWrong_26 : decode cX0_firstWrong 26 = .ok (.aload_n 1, 1) := by decide +kernel
theorem dX0_firstWrong_27 : decode cX0_firstWrong 27 = .ok (.iload_n 2, 1) := by decide +kernel
theorem dX0_firstWrong_28 : decode cX0_firstWrong 28 = .ok (.invokevirtual 33, 3) := by decide +kernel
theorem dX0_firstWrong_31 : decode cX0_firstWrong 31 = .ok (.ifCond .ne 5, 3) := by decide +kernel
theorem dX0_firstWrong_34 : decode cX0_firstWrong 34 = .ok (.iload_n 2, 1) := by decide +kernel
theorem dX0_firstWrong_35 : decode cX0_firstWrong 35 = .ok (.ireturn, 1) := by decide +kernel
theorem dX0_firstWrong_36 : decode cX0_firstWrong 36 = .ok (.iinc 2 1, 3) := by decide +kernel
theorem dX0_firstWrong_39 : decode cX0_firstWrong 39 = .ok (.goto (-22), 3) := by decide +kernel
theorem dX0_firstWrong_42 : decode cX0_firstWrong 42 = .ok (.iconst (-1), 1) := by decide +kernel
theorem dX0_firstWrong_43 : decode cX0_firstWrong 43 = .ok (.ireturn, 1) := by decide +kernel
set_option maxRecDepth 20000 in
theorem ggX0_takes_X1_kind : GoodIn wsX0_takes wsX1_kind := goodIn_r _ [6, 7, 160, 161, 162, 163] rfl (by decide +kernel)
set_option maxRecDepth 20000 in
theorem gX0_takes_X1_kind : GoodIn wsX0_takes (wsV RX0 37 RX1 yX1_kind wsX1_kind) := goodIn_app (goodIn_r _ [2, 3, 4, 5] rfl (by decide +kernel)) ggX0_takes_X1_kind
set_option maxRecDepth 20000 in
theorem ggX0_takes_X0_takesEntry : GoodIn wsX0_takes wsX0_takesEntry := goodIn_r _ [12, 13, 1, 14, 15, 11, 16, 17, 18, 19, 5, 20, 21, 155, 156, 157, 158, 159, 164, 165, 166, 167, 168, 169, 170, 171, 172, 173, 174, 175, 176, 177, 178, 160, 161, 162, 163] rfl (by decide +kernel)
set_option maxRecDepth 20000 in
theorem gX0_takes_X0_takesEntry : GoodIn wsX0_takes (wsV RX0 41 RX0 yX0_takesEntry wsX0_takesEntry) := goodIn_app (goodIn_r _ [8, 9, 10, 11] rfl (by decide +kernel)) ggX0_takes_X0_takesEntry
set_option maxRecDepth 20000 in
theorem ggX0_takes_X0_takesBegun : GoodIn wsX0_takes wsX0_takesBegun := goodIn_r _ [25, 26, 13, 17, 18, 19, 5, 20, 21, 14, 15, 11, 16, 27, 28, 29, 30, 31, 32, 33, 34, 35, 36, 37, 38, 39, 40, 41, 42, 43, 44, 45, 46, 155, 156, 157, 158, 159, 160, 161, 162, 163, 164, 165, 166, 167, 168, 169, 170, 171, 172, 173, 174, 175, 176, 177, 178] rfl (by decide +kernel)
set_option maxRecDepth 20000 in
theorem gX0_takes_X0_takesBegun : GoodIn wsX0_takes (wsV RX0 44 RX0 yX0_takesBegun wsX0_takesBegun) := goodIn_app (goodIn_r _ [22, 23, 24, 11] rfl (by decide +kernel)) ggX0_takes_X0_takesBegun
set_option maxRecDepth 20000 in
theorem ggX0_takes_X0_takesVoter : GoodIn wsX0_takes wsX0_takesVoter := goodIn_r _ [50, 26, 13, 17, 18, 19, 5, 20, 21, 14, 15, 11, 16, 51, 52, 53, 155, 156, 157, 158, 159, 164, 165, 166, 167, 168, 169, 170, 171, 172, 173, 174, 175, 176, 177, 178, 160, 161, 162, 163] rfl (by decide +kernel)
set_option maxRecDepth 20000 in
theorem gX0_takes_X0_takesVoter : GoodIn wsX0_takes (wsV RX0 47 RX0 yX0_takesVoter wsX0_takesVoter) := goodIn_app (goodIn_r _ [47, 48, 49, 11] rfl (by decide +kernel)) ggX0_takes_X0_takesVoter
set_option maxRecDepth 20000 in
theorem ggX0_takes_X0_takesBallot : GoodIn wsX0_takes wsX0_takesBallot := goodIn_r _ [57, 26, 13, 17, 18, 19, 5, 20, 21, 14, 15, 11, 16, 51, 52, 53, 27, 28, 29, 30, 31, 32, 33, 58, 59, 60, 37, 61, 42, 62, 63, 155, 156, 157, 158, 159, 164, 165, 166, 167, 168, 169, 170, 171, 172, 173, 174, 175, 176, 177, 178, 160, 161, 162, 163] rfl (by decide +kernel)
set_option maxRecDepth 20000 in
theorem gX0_takes_X0_takesBallot : GoodIn wsX0_takes (wsV RX0 50 RX0 yX0_takesBallot wsX0_takesBallot) := goodIn_app (goodIn_r _ [54, 55, 56, 11] rfl (by decide +kernel)) ggX0_takes_X0_takesBallot
set_option maxRecDepth 20000 in
theorem ggX0_takes_X0_takesClosed : GoodIn wsX0_takes wsX0_takesClosed := goodIn_r _ [67, 26, 13, 1, 14, 15, 11, 16, 17, 18, 19, 5, 20, 21, 68, 69, 70, 37, 71, 42, 72, 73, 74, 75, 76, 77, 62, 78, 63, 79, 155, 156, 157, 158, 159, 164, 165, 166, 167, 168, 169, 170, 171, 172, 173, 174, 175, 176, 177, 178, 160, 161, 162, 163] rfl (by decide +kernel)
set_option maxRecDepth 20000 in
theorem gX0_takes_X0_takesClosed : GoodIn wsX0_takes (wsV RX0 53 RX0 yX0_takesClosed wsX0_takesClosed) := goodIn_app (goodIn_r _ [64, 65, 66, 11] rfl (by decide +kernel)) ggX0_takes_X0_takesClosed
set_option maxRecDepth 20000 in
theorem ggX0_takes_X0_takesMixed : GoodIn wsX0_takes wsX0_takesMixed := goodIn_r _ [83, 26, 13, 1, 17, 18, 19, 5, 20, 21, 14, 15, 11, 16, 84, 85, 86, 37, 87, 76, 88, 89, 90, 91, 92, 77, 93, 78, 94, 40, 95, 96, 97, 98, 99, 100, 101, 102, 103, 104, 105, 106, 107, 108, 109, 29, 110, 31, 32, 33, 44, 45, 46, 111, 155, 156, 157, 158, 159, 164, 165, 166, 167, 168, 169, 170, 171, 172, 173, 174, 175, 176, 177, 178, 160, 161, 162, 163] rfl (by decide +kernel)
set_option maxRecDepth 20000 in
theorem gX0_takes_X0_takesMixed : GoodIn wsX0_takes (wsV RX0 56 RX0 yX0_takesMixed wsX0_takesMixed) := goodIn_app (goodIn_r _ [80, 81, 82, 11] rfl (by decide +kernel)) ggX0_takes_X0_takesMixed
set_option maxRecDepth 20000 in
theorem ggX0_takes_X0_takesShare : GoodIn wsX0_takes wsX0_takesShare := goodIn_r _ [115, 26, 13, 116, 117, 17, 18, 19, 5, 20, 21, 118, 52, 119, 120, 121, 122, 11, 123, 27, 28, 29, 30, 31, 32, 33, 124, 125, 126, 127, 128, 101, 129, 130, 100, 102, 103, 131, 105, 106, 107, 132, 109, 110, 133, 134, 45, 46, 135, 136, 137, 37, 138, 79, 44, 155, 156, 157, 158, 159, 164, 165, 166, 167, 168, 169, 170, 171, 172, 173, 174, 175, 176, 177, 178, 160, 161, 162, 163] rfl (by decide +kernel)
set_option maxRecDepth 20000 in
theorem gX0_takes_X0_takesShare : GoodIn wsX0_takes (wsV RX0 59 RX0 yX0_takesShare wsX0_takesShare) := goodIn_app (goodIn_r _ [112, 113, 114, 11] rfl (by decide +kernel)) ggX0_takes_X0_takesShare
set_option maxRecDepth 20000 in
theorem ggX0_takes_X0_takesResult : GoodIn wsX0_takes wsX0_takesResult := goodIn_r _ [142, 26, 13, 143, 144, 145, 37, 146, 43, 147, 148, 149, 150, 151, 76, 78, 79, 152, 153, 29, 154, 31, 32, 33, 44, 45, 46, 108, 109, 110, 17, 18, 19, 5, 20, 21, 14, 15, 11, 16, 155, 156, 157, 158, 159, 164, 165, 166, 167, 168, 169, 170, 171, 172, 173, 174, 175, 176, 177, 178, 160, 161, 162, 163] rfl (by decide +kernel)
set_option maxRecDepth 20000 in
theorem gX0_takes_X0_takesResult : GoodIn wsX0_takes (wsV RX0 62 RX0 yX0_takesResult wsX0_takesResult) := goodIn_app (goodIn_r _ [139, 140, 141, 11] rfl (by decide +kernel)) ggX0_takes_X0_takesResult
theorem dX0_takes_0 : decode cX0_takes 0 = .ok (.aload_n 1, 1) := by decide +kernel
theorem dX0_takes_1 : decode cX0_takes 1 = .ok (.iload_n 2, 1) := by decide +kernel
theorem dX0_takes_2 : decode cX0_takes 2 = .ok (.invokevirtual 37, 3) := by decide +kernel
theorem dX0_takes_5 : decode cX0_takes 5 = .ok (.istore_n 3, 1) := by decide +kernel
theorem dX0_takes_6 : decode cX0_takes 6 = .ok (.aload_n 0, 1) := by decide +kernel
theorem dX0_takes_7 : decode cX0_takes 7 = .ok (.getfield 22, 3) := by decide +kernel
theorem dX0_takes_10 : decode cX0_takes 10 = .ok (.ifCond .le 23, 3) := by decide +kernel
theorem dX0_takes_13 : decode cX0_takes 13 = .ok (.iload_n 3, 1) := by decide +kernel
theorem dX0_takes_14 : decode cX0_takes 14 = .ok (.iconst 5, 1) := by decide +kernel
theorem dX0_takes_15 : decode cX0_takes 15 = .ok (.if_icmp .ne 16, 3) := by decide +kernel
theorem dX0_takes_18 : decode cX0_takes 18 = .ok (.aload_n 0, 1) := by decide +kernel
theorem dX0_takes_19 : decode cX0_takes 19 = .ok (.aload_n 1, 1) := by decide +kernel
theorem dX0_takes_20 : decode cX0_takes 20 = .ok (.iload_n 2, 1) := by decide +kernel
theorem dX0_takes_21 : decode cX0_takes 21 = .ok (.invokevirtual 41, 3) := by decide +kernel
theorem dX0_takes_24 : decode cX0_takes 24 = .ok (.ifCond .eq 7, 3) := by decide +kernel
theorem dX0_takes_27 : decode cX0_takes 27 = .ok (.iconst 1, 1) := by decide +kernel
theorem dX0_takes_28 : decode cX0_takes 28 = .ok (.goto 4, 3) := by decide +kernel
theorem dX0_takes_31 : decode cX0_takes 31 = .ok (.iconst 0, 1) := by decide +kernel
theorem dX0_takes_32 : decode cX0_takes 32 = .ok (.ireturn, 1) := by decide +kernel
theorem dX0_takes_33 : decode cX0_takes 33 = .ok (.iload_n 3, 1) := by decide +kernel
theorem dX0_takes_34 : decode cX0_takes 34 = .ok (.tableswitch 95 0 7 #[46, 53, 60, 67, 74, 95, 81, 88], 46) := by decide +kernel
theorem dX0_takes_80 : decode cX0_takes 80 = .ok (.aload_n 0, 1) := by decide +kernel
theorem dX0_takes_81 : decode cX0_takes 81 = .ok (.aload_n 1, 1) := by decide +kernel
theorem dX0_takes_82 : decode cX0_takes 82 = .ok (.iload_n 2, 1) := by decide +kernel
theorem dX0_takes_83 : decode cX0_takes 83 = .ok (.invokevirtual 44, 3) := by decide +kernel
theorem dX0_takes_86 : decode cX0_takes 86 = .ok (.ireturn, 1) := by decide +kernel
theorem dX0_takes_87 : decode cX0_takes 87 = .ok (.aload_n 0, 1) := by decide +kernel
theorem dX0_takes_88 : decode cX0_takes 88 = .ok (.aload_n 1, 1) := by decide +kernel
theorem dX0_takes_89 : decode cX0_takes 89 = .ok (.iload_n 2, 1) := by decide +kernel
theorem dX0_takes_90 : decode cX0_takes 90 = .ok (.invokevirtual 47, 3) := by decide +kernel
theorem dX0_takes_93 : decode cX0_takes 93 = .ok (.ireturn, 1) := by decide +kernel
theorem dX0_takes_94 : decode cX0_takes 94 = .ok (.aload_n 0, 1) := by decide +kernel
theorem dX0_takes_95 : decode cX0_takes 95 = .ok (.aload_n 1, 1) := by decide +kernel
theorem dX0_takes_96 : decode cX0_takes 96 = .ok (.iload_n 2, 1) := by decide +kernel
theorem dX0_takes_97 : decode cX0_takes 97 = .ok (.invokevirtual 50, 3) := by decide +kernel
theorem dX0_takes_100 : decode cX0_takes 100 = .ok (.ireturn, 1) := by decide +kernel
theorem dX0_takes_101 : decode cX0_takes 101 = .ok (.aload_n 0, 1) := by decide +kernel
theorem dX0_takes_102 : decode cX0_takes 102 = .ok (.aload_n 1, 1) := by decide +kernel
theorem dX0_takes_103 : decode cX0_takes 103 = .ok (.iload_n 2, 1) := by decide +kernel
theorem dX0_takes_104 : decode cX0_takes 104 = .ok (.invokevirtual 53, 3) := by decide +kernel
theorem dX0_takes_107 : decode cX0_takes 107 = .ok (.ireturn, 1) := by decide +kernel
theorem dX0_takes_108 : decode cX0_takes 108 = .ok (.aload_n 0, 1) := by decide +kernel
theorem dX0_takes_109 : decode cX0_takes 109 = .ok (.aload_n 1, 1) := by decide +kernel
theorem dX0_takes_110 : decode cX0_takes 110 = .ok (.iload_n 2, 1) := by decide +kernel
theorem dX0_takes_111 : decode cX0_takes 111 = .ok (.invokevirtual 56, 3) := by decide +kernel
theorem dX0_takes_114 : decode cX0_takes 114 = .ok (.ireturn, 1) := by decide +kernel
theorem dX0_takes_115 : decode cX0_takes 115 = .ok (.aload_n 0, 1) := by decide +kernel
theorem dX0_takes_116 : decode cX0_takes 116 = .ok (.aload_n 1, 1) := by decide +kernel
theorem dX0_takes_117 : decode cX0_takes 117 = .ok (.iload_n 2, 1) := by decide +kernel
theorem dX0_takes_118 : decode cX0_takes 118 = .ok (.invokevirtual 59, 3) := by decide +kernel
theorem dX0_takes_121 : decode cX0_takes 121 = .ok (.ireturn, 1) := by decide +kernel
theorem dX0_takes_122 : decode cX0_takes 122 = .ok (.aload_n 0, 1) := by decide +kernel
theorem dX0_takes_123 : decode cX0_takes 123 = .ok (.aload_n 1, 1) := by decide +kernel
theorem dX0_takes_124 : decode cX0_takes 124 = .ok (.iload_n 2, 1) := by decide +kernel
theorem dX0_takes_125 : decode cX0_takes 125 = .ok (.invokevirtual 62, 3) := by decide +kernel
theorem dX0_takes_128 : decode cX0_takes 128 = .ok (.ireturn, 1) := by decide +kernel
theorem dX0_takes_129 : decode cX0_takes 129 = .ok (.iconst 0, 1) := by decide +kernel
theorem dX0_takes_130 : decode cX0_takes 130 = .ok (.ireturn, 1) := by decide +kernel
set_option maxRecDepth 20000 in
theorem ggX0_isZeroFrom_X1_number : GoodIn wsX0_isZeroFrom wsX1_number := goodIn_r _ [5, 6, 7, 8, 9, 10] rfl (by decide +kernel)
set_option maxRecDepth 20000 in
theorem gX0_isZeroFrom_X1_number : GoodIn wsX0_isZeroFrom (wsV RX0 65 RX1 yX1_number wsX1_number) := goodIn_app (goodIn_r _ [1, 2, 3, 4] rfl (by decide +kernel)) ggX0_isZeroFrom_X1_number
theorem dX0_isZeroFrom_0 : decode cX0_isZeroFrom 0 = .ok (.iload_n 2, 1) := by decide +kernel
theorem dX0_isZeroFrom_1 : decode cX0_isZeroFrom 1 = .ok (.istore_n 3, 1) := by decide +kernel
theorem dX0_isZeroFrom_2 : decode cX0_isZeroFrom 2 = .ok (.iload_n 3, 1) := by decide +kernel
theorem dX0_isZeroFrom_3 : decode cX0_isZeroFrom 3 = .ok (.bipush 6, 2) := by decide +kernel
theorem dX0_isZeroFrom_5 : decode cX0_isZeroFrom 5 = .ok (.if_icmp .ge 20, 3) := by decide +kernel
theorem dX0_isZeroFrom_8 : decode cX0_isZeroFrom 8 = .ok (.aload_n 0, 1) := by decide +kernel
theorem dX0_isZeroFrom_9 : decode cX0_isZeroFrom 9 = .ok (.iload_n 1, 1) := by decide +kernel
theorem dX0_isZeroFrom_10 : decode cX0_isZeroFrom 10 = .ok (.iload_n 3, 1) := by decide +kernel
theorem dX0_isZeroFrom_11 : decode cX0_isZeroFrom 11 = .ok (.invokevirtual 65, 3) := by decide +kernel
theorem dX0_isZeroFrom_14 : decode cX0_isZeroFrom 14 = .ok (.ifCond .eq 5, 3) := by decide +kernel
theorem dX0_isZeroFrom_17 : decode cX0_isZeroFrom 17 = .ok (.iconst 0, 1) := by decide +kernel
theorem dX0_isZeroFrom_18 : decode cX0_isZeroFrom 18 = .ok (.ireturn, 1) := by decide +kernel
theorem dX0_isZeroFrom_19 : decode cX0_isZeroFrom 19 = .ok (.iinc 3 1, 3) := by decide +kernel
theorem dX0_isZeroFrom_22 : decode cX0_isZeroFrom 22 = .ok (.goto (-20), 3) := by decide +kernel
theorem dX0_isZeroFrom_25 : decode cX0_isZeroFrom 25 = .ok (.iconst 1, 1) := by decide +kernel
theorem dX0_isZeroFrom_26 : decode cX0_isZeroFrom 26 = .ok (.ireturn, 1) := by decide +kernel
set_option maxRecDepth 20000 in
theorem ggX0_takesBegun_X1_number : GoodIn wsX0_takesBegun wsX1_number := goodIn_r _ [7, 8, 38, 39, 40, 41] rfl (by decide +kernel)
set_option maxRecDepth 20000 in
theorem gX0_takesBegun_X1_number : GoodIn wsX0_takesBegun (wsV RX0 65 RX1 yX1_number wsX1_number) := goodIn_app (goodIn_r _ [3, 4, 5, 6] rfl (by decide +kernel)) ggX0_takesBegun_X1_number
set_option maxRecDepth 20000 in
theorem ggX0_takesBegun_X0_isZeroFrom : GoodIn wsX0_takesBegun wsX0_isZeroFrom := goodIn_r _ [12, 3, 4, 5, 6, 7, 8, 38, 39, 40, 41] rfl (by decide +kernel)
set_option maxRecDepth 20000 in
theorem gX0_takesBegun_X0_isZeroFrom : GoodIn wsX0_takesBegun (va_wsS RX0 69 yX0_isZeroFrom wsX0_isZeroFrom) := goodIn_app (goodIn_r _ [9, 10, 11] rfl (by decide +kernel)) ggX0_takesBegun_X0_isZeroFrom
set_option maxRecDepth 20000 in
theorem ggX0_takesBegun_X3_isElement : GoodIn wsX0_takesBegun wsX3_isElement := goodIn_r _ [16, 17, 18, 15, 19] rfl (by decide +kernel)
set_option maxRecDepth 20000 in
theorem gX0_takesBegun_X3_isElement : GoodIn wsX0_takesBegun (va_wsS RX0 73 yX3_isElement wsX3_isElement) := goodIn_app (goodIn_r _ [13, 14, 15] rfl (by decide +kernel)) ggX0_takesBegun_X3_isElement
set_option maxRecDepth 20000 in
theorem ggX0_takesBegun_X4_start : GoodIn wsX0_takesBegun wsX4_start := goodIn_r _ [24, 25, 26, 27, 28, 29, 30, 31, 15, 32, 42, 43, 44, 45, 46, 47, 48, 49, 50, 51, 52, 53, 54, 55, 56] rfl (by decide +kernel)
set_option maxRecDepth 20000 in
theorem gX0_takesBegun_X4_start : GoodIn wsX0_takesBegun (wsV RX0 79 RX4 yX4_start wsX4_start) := goodIn_app (goodIn_r _ [20, 21, 22, 23] rfl (by decide +kernel)) ggX0_takesBegun_X4_start
theorem dX0_takesBegun_0 : decode cX0_takesBegun 0 = .ok (.aload_n 1, 1) := by decide +kernel
theorem dX0_takesBegun_1 : decode cX0_takesBegun 1 = .ok (.iload_n 2, 1) := by decide +kernel
theorem dX0_takesBegun_2 : decode cX0_takesBegun 2 = .ok (.iconst 0, 1) := by decide +kernel
theorem dX0_takesBegun_3 : decode cX0_takesBegun 3 = .ok (.invokevirtual 65, 3) := by decide +kernel
theorem dX0_takesBegun_6 : decode cX0_takesBegun 6 = .ok (.istore_n 3, 1) := by decide +kernel
theorem dX0_takesBegun_7 : decode cX0_takesBegun 7 = .ok (.aload_n 1, 1) := by decide +kernel
theorem dX0_takesBegun_8 : decode cX0_takesBegun 8 = .ok (.iload_n 2, 1) := by decide +kernel
theorem dX0_takesBegun_9 : decode cX0_takesBegun 9 = .ok (.iconst 1, 1) := by decide +kernel
theorem dX0_takesBegun_10 : decode cX0_takesBegun 10 = .ok (.invokevirtual 65, 3) := by decide +kernel
theorem dX0_takesBegun_13 : decode cX0_takesBegun 13 = .ok (.istore 4, 2) := by decide +kernel
theorem dX0_takesBegun_15 : decode cX0_takesBegun 15 = .ok (.aload_n 1, 1) := by decide +kernel
theorem dX0_takesBegun_16 : decode cX0_takesBegun 16 = .ok (.iload_n 2, 1) := by decide +kernel
theorem dX0_takesBegun_17 : decode cX0_takesBegun 17 = .ok (.iconst 2, 1) := by decide +kernel
theorem dX0_takesBegun_18 : decode cX0_takesBegun 18 = .ok (.invokevirtual 65, 3) := by decide +kernel
theorem dX0_takesBegun_21 : decode cX0_takesBegun 21 = .ok (.istore 5, 2) := by decide +kernel
theorem dX0_takesBegun_23 : decode cX0_takesBegun 23 = .ok (.aload_n 0, 1) := by decide +kernel
theorem dX0_takesBegun_24 : decode cX0_takesBegun 24 = .ok (.getfield 18, 3) := by decide +kernel
theorem dX0_takesBegun_27 : decode cX0_takesBegun 27 = .ok (.ifCond .ne 12, 3) := by decide +kernel
theorem dX0_takesBegun_30 : decode cX0_takesBegun 30 = .ok (.aload_n 1, 1) := by decide +kernel
theorem dX0_takesBegun_31 : decode cX0_takesBegun 31 = .ok (.iload_n 2, 1) := by decide +kernel
theorem dX0_takesBegun_32 : decode cX0_takesBegun 32 = .ok (.iconst 3, 1) := by decide +kernel
theorem dX0_takesBegun_33 : decode cX0_takesBegun 33 = .ok (.invokestatic 69, 3) := by decide +kernel
theorem dX0_takesBegun_36 : decode cX0_takesBegun 36 = .ok (.ifCond .ne 5, 3) := by decide +kernel
theorem dX0_takesBegun_39 : decode cX0_takesBegun 39 = .ok (.iconst 0, 1) := by decide +kernel
theorem dX0_takesBegun_40 : decode cX0_takesBegun 40 = .ok (.ireturn, 1) := by decide +kernel
theorem dX0_takesBegun_41 : decode cX0_takesBegun 41 = .ok (.iload_n 3, 1) := by decide +kernel
theorem dX0_takesBegun_42 : decode cX0_takesBegun 42 = .ok (.invokestatic 73, 3) := by decide +kernel
theorem dX0_takesBegun_45 : decode cX0_takesBegun 45 = .ok (.ifCond .eq 19, 3) := by decide +kernel
theorem dX0_takesBegun_48 : decode cX0_takesBegun 48 = .ok (.iload 4, 2) := by decide +kernel
theorem dX0_takesBegun_50 : decode cX0_takesBegun 50 = .ok (.invokestatic 73, 3) := by decide +kernel
theorem dX0_takesBegun_53 : decode cX0_takesBegun 53 = .ok (.ifCond .eq 11, 3) := by decide +kernel
theorem dX0_takesBegun_56 : decode cX0_takesBegun 56 = .ok (.iload 5, 2) := by decide +kernel
theorem dX0_takesBegun_58 : decode cX0_takesBegun 58 = .ok (.invokestatic 73, 3) := by decide +kernel
theorem dX0_takesBegun_61 : decode cX0_takesBegun 61 = .ok (.ifCond .ne 5, 3) := by decide +kernel
theorem dX0_takesBegun_64 : decode cX0_takesBegun 64 = .ok (.iconst 0, 1) := by decide +kernel
theorem dX0_takesBegun_65 : decode cX0_takesBegun 65 = .ok (.ireturn, 1) := by decide +kernel
theorem dX0_takesBegun_66 : decode cX0_takesBegun 66 = .ok (.aload_n 0, 1) := by decide +kernel
theorem dX0_takesBegun_67 : decode cX0_takesBegun 67 = .ok (.getfield 12, 3) := by decide +kernel
theorem dX0_takesBegun_70 : decode cX0_takesBegun 70 = .ok (.iload_n 3, 1) := by decide +kernel
theorem dX0_takesBegun_71 : decode cX0_takesBegun 71 = .ok (.iload 4, 2) := by decide +kernel
theorem dX0_takesBegun_73 : decode cX0_takesBegun 73 = .ok (.iload 5, 2) := by decide +kernel
theorem dX0_takesBegun_75 : decode cX0_takesBegun 75 = .ok (.invokevirtual 79, 3) := by decide +kernel
theorem dX0_takesBegun_78 : decode cX0_takesBegun 78 = .ok (.aload_n 0, 1) := by decide +kernel
theorem dX0_takesBegun_79 : decode cX0_takesBegun 79 = .ok (.iconst 1, 1) := by decide +kernel
theorem dX0_takesBegun_80 : decode cX0_takesBegun 80 = .ok (.putfield 18, 3) := by decide +kernel
theorem dX0_takesBegun_83 : decode cX0_takesBegun 83 = .ok (.iconst 1, 1) := by decide +kernel
theorem dX0_takesBegun_84 : decode cX0_takesBegun 84 = .ok (.ireturn, 1) := by decide +kernel
set_option maxRecDepth 20000 in
theorem ggX0_takesVoter_X1_number : GoodIn wsX0_takesVoter wsX1_number := goodIn_r _ [7, 8, 36, 37, 38, 39] rfl (by decide +kernel)
set_option maxRecDepth 20000 in
theorem gX0_takesVoter_X1_number : GoodIn wsX0_takesVoter (wsV RX0 65 RX1 yX1_number wsX1_number) := goodIn_app (goodIn_r _ [3, 4, 5, 6] rfl (by decide +kernel)) ggX0_takesVoter_X1_number
set_option maxRecDepth 20000 in
theorem ggX0_takesVoter_X0_isZeroFrom : GoodIn wsX0_takesVoter wsX0_isZeroFrom := goodIn_r _ [12, 3, 4, 5, 6, 7, 8, 36, 37, 38, 39] rfl (by decide +kernel)
set_option maxRecDepth 20000 in
theorem gX0_takesVoter_X0_isZeroFrom : GoodIn wsX0_takesVoter (va_wsS RX0 69 yX0_isZeroFrom wsX0_isZeroFrom) := goodIn_app (goodIn_r _ [9, 10, 11] rfl (by decide +kernel)) ggX0_takesVoter_X0_isZeroFrom
set_option maxRecDepth 20000 in
theorem ggX0_takesVoter_X6_isVoter : GoodIn wsX0_takesVoter wsX6_isVoter := goodIn_r _ [15] rfl (by decide +kernel)
set_option maxRecDepth 20000 in
theorem gX0_takesVoter_X6_isVoter_n83 : GoodIn wsX0_takesVoter (wsX6_isVoter) := ggX0_takesVoter_X6_isVoter
theorem dX0_takesVoter_0 : decode cX0_takesVoter 0 = .ok (.aload_n 1, 1) := by decide +kernel
theorem dX0_takesVoter_1 : decode cX0_takesVoter 1 = .ok (.iload_n 2, 1) := by decide +kernel
theorem dX0_takesVoter_2 : decode cX0_takesVoter 2 = .ok (.iconst 0, 1) := by decide +kernel
theorem dX0_takesVoter_3 : decode cX0_takesVoter 3 = .ok (.invokevirtual 65, 3) := by decide +kernel
theorem dX0_takesVoter_6 : decode cX0_takesVoter 6 = .ok (.istore_n 3, 1) := by decide +kernel
theorem dX0_takesVoter_7 : decode cX0_takesVoter 7 = .ok (.aload_n 0, 1) := by decide +kernel
theorem dX0_takesVoter_8 : decode cX0_takesVoter 8 = .ok (.getfield 18, 3) := by decide +kernel
theorem dX0_takesVoter_11 : decode cX0_takesVoter 11 = .ok (.iconst 1, 1) := by decide +kernel
theorem dX0_takesVoter_12 : decode cX0_takesVoter 12 = .ok (.if_icmp .ne 31, 3) := by decide +kernel
theorem dX0_takesVoter_15 : decode cX0_takesVoter 15 = .ok (.aload_n 1, 1) := by decide +kernel
theorem dX0_takesVoter_16 : decode cX0_takesVoter 16 = .ok (.iload_n 2, 1) := by decide +kernel
theorem dX0_takesVoter_17 : decode cX0_takesVoter 17 = .ok (.iconst 1, 1) := by decide +kernel
theorem dX0_takesVoter_18 : decode cX0_takesVoter 18 = .ok (.invokestatic 69, 3) := by decide +kernel
theorem dX0_takesVoter_21 : decode cX0_takesVoter 21 = .ok (.ifCond .eq 22, 3) := by decide +kernel
theorem dX0_takesVoter_24 : decode cX0_takesVoter 24 = .ok (.iload_n 3, 1) := by decide +kernel
theorem dX0_takesVoter_25 : decode cX0_takesVoter 25 = .ok (.invokestatic 83, 3) := by decide +kernel
theorem dX0_takesVoter_28 : decode cX0_takesVoter 28 = .ok (.ifCond .eq 15, 3) := by decide +kernel
theorem dX0_takesVoter_31 : decode cX0_takesVoter 31 = .ok (.aload_n 0, 1) := by decide +kernel
theorem dX0_takesVoter_32 : decode cX0_takesVoter 32 = .ok (.getfield 12, 3) := by decide +kernel
theorem dX0_takesVoter_35 : decode cX0_takesVoter 35 = .ok (.getfield 86, 3) := by decide +kernel
theorem dX0_takesVoter_38 : decode cX0_takesVoter 38 = .ok (.iload_n 3, 1) := by decide +kernel
theorem dX0_takesVoter_39 : decode cX0_takesVoter 39 = .ok (.baload, 1) := by decide +kernel
theorem dX0_takesVoter_40 : decode cX0_takesVoter 40 = .ok (.ifCond .eq 5, 3) := by decide +kernel
theorem dX0_takesVoter_43 : decode cX0_takesVoter 43 = .ok (.iconst 0, 1) := by decide +kernel
theorem dX0_takesVoter_44 : decode cX0_takesVoter 44 = .ok (.ireturn, 1) := by decide +kernel
theorem dX0_takesVoter_45 : decode cX0_takesVoter 45 = .ok (.aload_n 0, 1) := by decide +kernel
theorem dX0_takesVoter_46 : decode cX0_takesVoter 46 = .ok (.getfield 12, 3) := by decide +kernel
theorem dX0_takesVoter_49 : decode cX0_takesVoter 49 = .ok (.getfield 86, 3) := by decide +kernel
theorem dX0_takesVoter_52 : decode cX0_takesVoter 52 = .ok (.iload_n 3, 1) := by decide +kernel
theorem dX0_takesVoter_53 : decode cX0_takesVoter 53 = .ok (.iconst 1, 1) := by decide +kernel
theorem dX0_takesVoter_54 : decode cX0_takesVoter 54 = .ok (.bastore, 1) := by decide +kernel
theorem dX0_takesVoter_55 : decode cX0_takesVoter 55 = .ok (.iconst 1, 1) := by decide +kernel
theorem dX0_takesVoter_56 : decode cX0_takesVoter 56 = .ok (.ireturn, 1) := by decide +kernel
set_option maxRecDepth 20000 in
theorem ggX0_takesBallot_X1_number : GoodIn wsX0_takesBallot wsX1_number := goodIn_r _ [7, 8, 51, 52, 53, 54] rfl (by decide +kernel)
set_option maxRecDepth 20000 in
theorem gX0_takesBallot_X1_number : GoodIn wsX0_takesBallot (wsV RX0 65 RX1 yX1_number wsX1_number) := goodIn_app (goodIn_r _ [3, 4, 5, 6] rfl (by decide +kernel)) ggX0_takesBallot_X1_number
set_option maxRecDepth 20000 in
theorem ggX0_takesBallot_X0_isZeroFrom : GoodIn wsX0_takesBallot wsX0_isZeroFrom := goodIn_r _ [12, 3, 4, 5, 6, 7, 8, 51, 52, 53, 54] rfl (by decide +kernel)
set_option maxRecDepth 20000 in
theorem gX0_takesBallot_X0_isZeroFrom : GoodIn wsX0_takesBallot (va_wsS RX0 69 yX0_isZeroFrom wsX0_isZeroFrom) := goodIn_app (goodIn_r _ [9, 10, 11] rfl (by decide +kernel)) ggX0_takesBallot_X0_isZeroFrom
set_option maxRecDepth 20000 in
theorem ggX0_takesBallot_X6_isVoter : GoodIn wsX0_takesBallot wsX6_isVoter := goodIn_r _ [15] rfl (by decide +kernel)
set_option maxRecDepth 20000 in
theorem gX0_takesBallot_X6_isVoter_n83 : GoodIn wsX0_takesBallot (wsX6_isVoter) := ggX0_takesBallot_X6_isVoter
set_option maxRecDepth 20000 in
theorem ggX0_takesBallot_X3_isElement : GoodIn wsX0_takesBallot wsX3_isElement := goodIn_r _ [19, 20, 21, 18, 22] rfl (by decide +kernel)
set_option maxRecDepth 20000 in
theorem gX0_takesBallot_X3_isElement : GoodIn wsX0_takesBallot (va_wsS RX0 73 yX3_isElement wsX3_isElement) := goodIn_app (goodIn_r _ [16, 17, 18] rfl (by decide +kernel)) ggX0_takesBallot_X3_isElement
set_option maxRecDepth 20000 in
theorem ggX0_takesBallot_X4_keepBallot : GoodIn wsX0_takesBallot wsX4_keepBallot := goodIn_r _ [27, 28, 29, 30, 36, 37, 38, 39, 40, 41, 42, 43, 44, 45, 46, 47, 48, 49, 50] rfl (by decide +kernel)
set_option maxRecDepth 20000 in
theorem gX0_takesBallot_X4_keepBallot : GoodIn wsX0_takesBallot (wsV RX0 90 RX4 yX4_keepBallot wsX4_keepBallot) := goodIn_app (goodIn_r _ [23, 24, 25, 26] rfl (by decide +kernel)) ggX0_takesBallot_X4_keepBallot
theorem dX0_takesBallot_0 : decode cX0_takesBallot 0 = .ok (.aload_n 1, 1) := by decide +kernel
theorem dX0_takesBallot_1 : decode cX0_takesBallot 1 = .ok (.iload_n 2, 1) := by decide +kernel
theorem dX0_takesBallot_2 : decode cX0_takesBallot 2 = .ok (.iconst 0, 1) := by decide +kernel
theorem dX0_takesBallot_3 : decode cX0_takesBallot 3 = .ok (.invokevirtual 65, 3) := by decide +kernel
theorem dX0_takesBallot_6 : decode cX0_takesBallot 6 = .ok (.istore_n 3, 1) := by decide +kernel
theorem dX0_takesBallot_7 : decode cX0_takesBallot 7 = .ok (.aload_n 1, 1) := by decide +kernel
theorem dX0_takesBallot_8 : decode cX0_takesBallot 8 = .ok (.iload_n 2, 1) := by decide +kernel
theorem dX0_takesBallot_9 : decode cX0_takesBallot 9 = .ok (.iconst 1, 1) := by decide +kernel
theorem dX0_takesBallot_10 : decode cX0_takesBallot 10 = .ok (.invokevirtual 65, 3) := by decide +kernel
theorem dX0_takesBallot_13 : decode cX0_takesBallot 13 = .ok (.istore 4, 2) := by decide +kernel
theorem dX0_takesBallot_15 : decode cX0_takesBallot 15 = .ok (.aload_n 1, 1) := by decide +kernel
theorem dX0_takesBallot_16 : decode cX0_takesBallot 16 = .ok (.iload_n 2, 1) := by decide +kernel
theorem dX0_takesBallot_17 : decode cX0_takesBallot 17 = .ok (.iconst 2, 1) := by decide +kernel
theorem dX0_takesBallot_18 : decode cX0_takesBallot 18 = .ok (.invokevirtual 65, 3) := by decide +kernel
theorem dX0_takesBallot_21 : decode cX0_takesBallot 21 = .ok (.istore 5, 2) := by decide +kernel
theorem dX0_takesBallot_23 : decode cX0_takesBallot 23 = .ok (.aload_n 0, 1) := by decide +kernel
theorem dX0_takesBallot_24 : decode cX0_takesBallot 24 = .ok (.getfield 18, 3) := by decide +kernel
theorem dX0_takesBallot_27 : decode cX0_takesBallot 27 = .ok (.iconst 1, 1) := by decide +kernel
theorem dX0_takesBallot_28 : decode cX0_takesBallot 28 = .ok (.if_icmp .ne 31, 3) := by decide +kernel
theorem dX0_takesBallot_31 : decode cX0_takesBallot 31 = .ok (.aload_n 1, 1) := by decide +kernel
theorem dX0_takesBallot_32 : decode cX0_takesBallot 32 = .ok (.iload_n 2, 1) := by decide +kernel
theorem dX0_takesBallot_33 : decode cX0_takesBallot 33 = .ok (.iconst 3, 1) := by decide +kernel
theorem dX0_takesBallot_34 : decode cX0_takesBallot 34 = .ok (.invokestatic 69, 3) := by decide +kernel
theorem dX0_takesBallot_37 : decode cX0_takesBallot 37 = .ok (.ifCond .eq 22, 3) := by decide +kernel
theorem dX0_takesBallot_40 : decode cX0_takesBallot 40 = .ok (.iload_n 3, 1) := by decide +kernel
theorem dX0_takesBallot_41 : decode cX0_takesBallot 41 = .ok (.invokestatic 83, 3) := by decide +kernel
theorem dX0_takesBallot_44 : decode cX0_takesBallot 44 = .ok (.ifCond .eq 15, 3) := by decide +kernel
theorem dX0_takesBallot_47 : decode cX0_takesBallot 47 = .ok (.aload_n 0, 1) := by decide +kernel
theorem dX0_takesBallot_48 : decode cX0_takesBallot 48 = .ok (.getfield 12, 3) := by decide +kernel
theorem dX0_takesBallot_51 : decode cX0_takesBallot 51 = .ok (.getfield 86, 3) := by decide +kernel
theorem dX0_takesBallot_54 : decode cX0_takesBallot 54 = .ok (.iload_n 3, 1) := by decide +kernel
theorem dX0_takesBallot_55 : decode cX0_takesBallot 55 = .ok (.baload, 1) := by decide +kernel
theorem dX0_takesBallot_56 : decode cX0_takesBallot 56 = .ok (.ifCond .ne 5, 3) := by decide +kernel
theorem dX0_takesBallot_59 : decode cX0_takesBallot 59 = .ok (.iconst 0, 1) := by decide +kernel
theorem dX0_takesBallot_60 : decode cX0_takesBallot 60 = .ok (.ireturn, 1) := by decide +kernel
theorem dX0_takesBallot_61 : decode cX0_takesBallot 61 = .ok (.iload 4, 2) := by decide +kernel
theorem dX0_takesBallot_63 : decode cX0_takesBallot 63 = .ok (.invokestatic 73, 3) := by decide +kernel
theorem dX0_takesBallot_66 : decode cX0_takesBallot 66 = .ok (.ifCond .eq 11, 3) := by decide +kernel
theorem dX0_takesBallot_69 : decode cX0_takesBallot 69 = .ok (.iload 5, 2) := by decide +kernel
theorem dX0_takesBallot_71 : decode cX0_takesBallot 71 = .ok (.invokestatic 73, 3) := by decide +kernel
theorem dX0_takesBallot_74 : decode cX0_takesBallot 74 = .ok (.ifCond .ne 5, 3) := by decide +kernel
theorem dX0_takesBallot_77 : decode cX0_takesBallot 77 = .ok (.iconst 0, 1) := by decide +kernel
theorem dX0_takesBallot_78 : decode cX0_takesBallot 78 = .ok (.ireturn, 1) := by decide +kernel
theorem dX0_takesBallot_79 : decode cX0_takesBallot 79 = .ok (.aload_n 0, 1) := by decide +kernel
theorem dX0_takesBallot_80 : decode cX0_takesBallot 80 = .ok (.getfield 12, 3) := by decide +kernel
theorem dX0_takesBallot_83 : decode cX0_takesBallot 83 = .ok (.iload_n 3, 1) := by decide +kernel
theorem dX0_takesBallot_84 : decode cX0_takesBallot 84 = .ok (.iload 4, 2) := by decide +kernel
theorem dX0_takesBallot_86 : decode cX0_takesBallot 86 = .ok (.iload 5, 2) := by decide +kernel
theorem dX0_takesBallot_88 : decode cX0_takesBallot 88 = .ok (.invokevirtual 90, 3) := by decide +kernel
theorem dX0_takesBallot_91 : decode cX0_takesBallot 91 = .ok (.iconst 1, 1) := by decide +kernel
theorem dX0_takesBallot_92 : decode cX0_takesBallot 92 = .ok (.ireturn, 1) := by decide +kernel
set_option maxRecDepth 20000 in
theorem ggX0_takesClosed_X0_isZeroFrom : GoodIn wsX0_takesClosed wsX0_isZeroFrom := goodIn_r _ [7, 8, 9, 10, 11, 12, 13, 50, 51, 52, 53] rfl (by decide +kernel)
set_option maxRecDepth 20000 in
theorem gX0_takesClosed_X0_isZeroFrom : GoodIn wsX0_takesClosed (va_wsS RX0 69 yX0_isZeroFrom wsX0_isZeroFrom) := goodIn_app (goodIn_r _ [4, 5, 6] rfl (by decide +kernel)) ggX0_takesClosed_X0_isZeroFrom
set_option maxRecDepth 20000 in
theorem ggX0_takesClosed_X4_ballotVoters : GoodIn wsX0_takesClosed wsX4_ballotVoters := goodIn_r _ [18, 19, 35, 36, 37, 38, 39, 40, 41, 42, 43, 44, 45, 46, 47, 48, 49] rfl (by decide +kernel)
set_option maxRecDepth 20000 in
theorem gX0_takesClosed_X4_ballotVoters : GoodIn wsX0_takesClosed (wsV RX0 93 RX4 yX4_ballotVoters wsX4_ballotVoters) := goodIn_app (goodIn_r _ [14, 15, 16, 17] rfl (by decide +kernel)) ggX0_takesClosed_X4_ballotVoters
set_option maxRecDepth 20000 in
theorem ggX0_takesClosed_X4_gatherEntries : GoodIn wsX0_takesClosed wsX4_gatherEntries := goodIn_r _ [23, 24, 19, 25, 26, 27, 28, 29, 35, 36, 37, 38, 39, 40, 41, 42, 43, 44, 45, 46, 47, 48, 49] rfl (by decide +kernel)
set_option maxRecDepth 20000 in
theorem gX0_takesClosed_X4_gatherEntries : GoodIn wsX0_takesClosed (wsV RX0 97 RX4 yX4_gatherEntries wsX4_gatherEntries) := goodIn_app (goodIn_r _ [20, 21, 22, 17] rfl (by decide +kernel)) ggX0_takesClosed_X4_gatherEntries
theorem dX0_takesClosed_0 : decode cX0_takesClosed 0 = .ok (.aload_n 0, 1) := by decide +kernel
theorem dX0_takesClosed_1 : decode cX0_takesClosed 1 = .ok (.getfield 18, 3) := by decide +kernel
theorem dX0_takesClosed_4 : decode cX0_takesClosed 4 = .ok (.iconst 1, 1) := by decide +kernel
theorem dX0_takesClosed_5 : decode cX0_takesClosed 5 = .ok (.if_icmp .ne 29, 3) := by decide +kernel
theorem dX0_takesClosed_8 : decode cX0_takesClosed 8 = .ok (.aload_n 1, 1) := by decide +kernel
theorem dX0_takesClosed_9 : decode cX0_takesClosed 9 = .ok (.iload_n 2, 1) := by decide +kernel
theorem dX0_takesClosed_10 : decode cX0_takesClosed 10 = .ok (.iconst 0, 1) := by decide +kernel
theorem dX0_takesClosed_11 : decode cX0_takesClosed 11 = .ok (.invokestatic 69, 3) := by decide +kernel
theorem dX0_takesClosed_14 : decode cX0_takesClosed 14 = .ok (.ifCond .eq 20, 3) := by decide +kernel
theorem dX0_takesClosed_17 : decode cX0_takesClosed 17 = .ok (.iload_n 2, 1) := by decide +kernel
theorem dX0_takesClosed_18 : decode cX0_takesClosed 18 = .ok (.iconst 1, 1) := by decide +kernel
theorem dX0_takesClosed_19 : decode cX0_takesClosed 19 = .ok (.iadd, 1) := by decide +kernel
theorem dX0_takesClosed_20 : decode cX0_takesClosed 20 = .ok (.aload_n 0, 1) := by decide +kernel
theorem dX0_takesClosed_21 : decode cX0_takesClosed 21 = .ok (.getfield 12, 3) := by decide +kernel
theorem dX0_takesClosed_24 : decode cX0_takesClosed 24 = .ok (.invokevirtual 93, 3) := by decide +kernel
theorem dX0_takesClosed_27 : decode cX0_takesClosed 27 = .ok (.iadd, 1) := by decide +kernel
theorem dX0_takesClosed_28 : decode cX0_takesClosed 28 = .ok (.sipush 160, 3) := by decide +kernel
theorem dX0_takesClosed_31 : decode cX0_takesClosed 31 = .ok (.if_icmp .le 5, 3) := by decide +kernel
theorem dX0_takesClosed_34 : decode cX0_takesClosed 34 = .ok (.iconst 0, 1) := by decide +kernel
theorem dX0_takesClosed_35 : decode cX0_takesClosed 35 = .ok (.ireturn, 1) := by decide +kernel
theorem dX0_takesClosed_36 : decode cX0_takesClosed 36 = .ok (.aload_n 0, 1) := by decide +kernel
theorem dX0_takesClosed_37 : decode cX0_takesClosed 37 = .ok (.getfield 12, 3) := by decide +kernel
theorem dX0_takesClosed_40 : decode cX0_takesClosed 40 = .ok (.invokevirtual 97, 3) := by decide +kernel
theorem dX0_takesClosed_43 : decode cX0_takesClosed 43 = .ok (.aload_n 0, 1) := by decide +kernel
theorem dX0_takesClosed_44 : decode cX0_takesClosed 44 = .ok (.aload_n 0, 1) := by decide +kernel
theorem dX0_takesClosed_45 : decode cX0_takesClosed 45 = .ok (.getfield 12, 3) := by decide +kernel
theorem dX0_takesClosed_48 : decode cX0_takesClosed 48 = .ok (.getfield 100, 3) := by decide +kernel
theorem dX0_takesClosed_51 : decode cX0_takesClosed 51 = .ok (.putfield 22, 3) := by decide +kernel
theorem dX0_takesClosed_54 : decode cX0_takesClosed 54 = .ok (.aload_n 0, 1) := by decide +kernel
theorem dX0_takesClosed_55 : decode cX0_takesClosed 55 = .ok (.iconst 2, 1) := by decide +kernel
theorem dX0_takesClosed_56 : decode cX0_takesClosed 56 = .ok (.putfield 18, 3) := by decide +kernel
theorem dX0_takesClosed_59 : decode cX0_takesClosed 59 = .ok (.iconst 1, 1) := by decide +kernel
theorem dX0_takesClosed_60 : decode cX0_takesClosed 60 = .ok (.ireturn, 1) := by decide +kernel
set_option maxRecDepth 20000 in
theorem ggX0_takesMixed_X1_number : GoodIn wsX0_takesMixed wsX1_number := goodIn_r _ [8, 9, 74, 75, 76, 77] rfl (by decide +kernel)
set_option maxRecDepth 20000 in
theorem gX0_takesMixed_X1_number : GoodIn wsX0_takesMixed (wsV RX0 65 RX1 yX1_number wsX1_number) := goodIn_app (goodIn_r _ [4, 5, 6, 7] rfl (by decide +kernel)) ggX0_takesMixed_X1_number
set_option maxRecDepth 20000 in
theorem ggX0_takesMixed_X0_isZeroFrom : GoodIn wsX0_takesMixed wsX0_isZeroFrom := goodIn_r _ [13, 4, 5, 6, 7, 8, 9, 74, 75, 76, 77] rfl (by decide +kernel)
set_option maxRecDepth 20000 in
theorem gX0_takesMixed_X0_isZeroFrom : GoodIn wsX0_takesMixed (va_wsS RX0 69 yX0_isZeroFrom wsX0_isZeroFrom) := goodIn_app (goodIn_r _ [10, 11, 12] rfl (by decide +kernel)) ggX0_takesMixed_X0_isZeroFrom
set_option maxRecDepth 20000 in
theorem ggX0_takesMixed_X4_isOrder : GoodIn wsX0_takesMixed wsX4_isOrder := goodIn_r _ [18, 19, 59, 60, 61, 62, 63, 64, 65, 66, 67, 68, 69, 70, 71, 72, 73] rfl (by decide +kernel)
set_option maxRecDepth 20000 in
theorem gX0_takesMixed_X4_isOrder : GoodIn wsX0_takesMixed (wsV RX0 103 RX4 yX4_isOrder wsX4_isOrder) := goodIn_app (goodIn_r _ [14, 15, 16, 17] rfl (by decide +kernel)) ggX0_takesMixed_X4_isOrder
set_option maxRecDepth 20000 in
theorem ggX0_takesMixed_X4_mixEntries : GoodIn wsX0_takesMixed wsX4_mixEntries := goodIn_r _ [23, 19, 24, 25, 26, 27, 28, 29, 30, 31, 32, 17, 33, 34, 35, 36, 37, 38, 39, 40, 41, 42, 43, 44, 45, 46, 47, 48, 49, 50, 51, 52, 53, 59, 60, 61, 62, 63, 64, 65, 66, 67, 68, 69, 70, 71, 72, 73] rfl (by decide +kernel)
set_option maxRecDepth 20000 in
theorem gX0_takesMixed_X4_mixEntries : GoodIn wsX0_takesMixed (wsV RX0 106 RX4 yX4_mixEntries wsX4_mixEntries) := goodIn_app (goodIn_r _ [20, 21, 22, 17] rfl (by decide +kernel)) ggX0_takesMixed_X4_mixEntries
theorem dX0_takesMixed_0 : decode cX0_takesMixed 0 = .ok (.aload_n 1, 1) := by decide +kernel
theorem dX0_takesMixed_1 : decode cX0_takesMixed 1 = .ok (.iload_n 2, 1) := by decide +kernel
theorem dX0_takesMixed_2 : decode cX0_takesMixed 2 = .ok (.iconst 0, 1) := by decide +kernel
theorem dX0_takesMixed_3 : decode cX0_takesMixed 3 = .ok (.invokevirtual 65, 3) := by decide +kernel
theorem dX0_takesMixed_6 : decode cX0_takesMixed 6 = .ok (.istore_n 3, 1) := by decide +kernel
theorem dX0_takesMixed_7 : decode cX0_takesMixed 7 = .ok (.aload_n 1, 1) := by decide +kernel
theorem dX0_takesMixed_8 : decode cX0_takesMixed 8 = .ok (.iload_n 2, 1) := by decide +kernel
theorem dX0_takesMixed_9 : decode cX0_takesMixed 9 = .ok (.iconst 1, 1) := by decide +kernel
theorem dX0_takesMixed_10 : decode cX0_takesMixed 10 = .ok (.invokevirtual 65, 3) := by decide +kernel
theorem dX0_takesMixed_13 : decode cX0_takesMixed 13 = .ok (.istore 4, 2) := by decide +kernel
theorem dX0_takesMixed_15 : decode cX0_takesMixed 15 = .ok (.aload_n 0, 1) := by decide +kernel
theorem dX0_takesMixed_16 : decode cX0_takesMixed 16 = .ok (.getfield 18, 3) := by decide +kernel
theorem dX0_takesMixed_19 : decode cX0_takesMixed 19 = .ok (.iconst 2, 1) := by decide +kernel
theorem dX0_takesMixed_20 : decode cX0_takesMixed 20 = .ok (.if_icmp .ne 24, 3) := by decide +kernel
theorem dX0_takesMixed_23 : decode cX0_takesMixed 23 = .ok (.aload_n 1, 1) := by decide +kernel
theorem dX0_takesMixed_24 : decode cX0_takesMixed 24 = .ok (.iload_n 2, 1) := by decide +kernel
theorem dX0_takesMixed_25 : decode cX0_takesMixed 25 = .ok (.iconst 2, 1) := by decide +kernel
theorem dX0_takesMixed_26 : decode cX0_takesMixed 26 = .ok (.invokestatic 69, 3) := by decide +kernel
theorem dX0_takesMixed_29 : decode cX0_takesMixed 29 = .ok (.ifCond .eq 15, 3) := by decide +kernel
theorem dX0_takesMixed_32 : decode cX0_takesMixed 32 = .ok (.aload_n 0, 1) := by decide +kernel
theorem dX0_takesMixed_33 : decode cX0_takesMixed 33 = .ok (.getfield 12, 3) := by decide +kernel
theorem dX0_takesMixed_36 : decode cX0_takesMixed 36 = .ok (.iload 4, 2) := by decide +kernel
theorem dX0_takesMixed_38 : decode cX0_takesMixed 38 = .ok (.invokevirtual 103, 3) := by decide +kernel
theorem dX0_takesMixed_41 : decode cX0_takesMixed 41 = .ok (.ifCond .ne 5, 3) := by decide +kernel
theorem dX0_takesMixed_44 : decode cX0_takesMixed 44 = .ok (.iconst 0, 1) := by decide +kernel
theorem dX0_takesMixed_45 : decode cX0_takesMixed 45 = .ok (.ireturn, 1) := by decide +kernel
theorem dX0_takesMixed_46 : decode cX0_takesMixed 46 = .ok (.aload_n 0, 1) := by decide +kernel
theorem dX0_takesMixed_47 : decode cX0_takesMixed 47 = .ok (.getfield 12, 3) := by decide +kernel
theorem dX0_takesMixed_50 : decode cX0_takesMixed 50 = .ok (.iload_n 3, 1) := by decide +kernel
theorem dX0_takesMixed_51 : decode cX0_takesMixed 51 = .ok (.iload 4, 2) := by decide +kernel
theorem dX0_takesMixed_53 : decode cX0_takesMixed 53 = .ok (.invokevirtual 106, 3) := by decide +kernel
theorem dX0_takesMixed_56 : decode cX0_takesMixed 56 = .ok (.aload_n 0, 1) := by decide +kernel
theorem dX0_takesMixed_57 : decode cX0_takesMixed 57 = .ok (.aload_n 0, 1) := by decide +kernel
theorem dX0_takesMixed_58 : decode cX0_takesMixed 58 = .ok (.getfield 12, 3) := by decide +kernel
theorem dX0_takesMixed_61 : decode cX0_takesMixed 61 = .ok (.getfield 100, 3) := by decide +kernel
theorem dX0_takesMixed_64 : decode cX0_takesMixed 64 = .ok (.putfield 22, 3) := by decide +kernel
theorem dX0_takesMixed_67 : decode cX0_takesMixed 67 = .ok (.iconst 1, 1) := by decide +kernel
theorem dX0_takesMixed_68 : decode cX0_takesMixed 68 = .ok (.ireturn, 1) := by decide +kernel
set_option maxRecDepth 20000 in
theorem ggX0_takesEntry_X0_isZeroFrom : GoodIn wsX0_takesEntry wsX0_isZeroFrom := goodIn_r _ [6, 7, 8, 9, 10, 11, 12, 33, 34, 35, 36] rfl (by decide +kernel)
set_option maxRecDepth 20000 in
theorem gX0_takesEntry_X0_isZeroFrom : GoodIn wsX0_takesEntry (va_wsS RX0 69 yX0_isZeroFrom wsX0_isZeroFrom) := goodIn_app (goodIn_r _ [3, 4, 5] rfl (by decide +kernel)) ggX0_takesEntry_X0_isZeroFrom
set_option maxRecDepth 20000 in
theorem ggX0_takesEntry_X1_number : GoodIn wsX0_takesEntry wsX1_number := goodIn_r _ [11, 12, 33, 34, 35, 36] rfl (by decide +kernel)
set_option maxRecDepth 20000 in
theorem gX0_takesEntry_X1_number : GoodIn wsX0_takesEntry (wsV RX0 65 RX1 yX1_number wsX1_number) := goodIn_app (goodIn_r _ [7, 8, 9, 10] rfl (by decide +kernel)) ggX0_takesEntry_X1_number
theorem dX0_takesEntry_0 : decode cX0_takesEntry 0 = .ok (.aload_n 0, 1) := by decide +kernel
theorem dX0_takesEntry_1 : decode cX0_takesEntry 1 = .ok (.getfield 12, 3) := by decide +kernel
theorem dX0_takesEntry_4 : decode cX0_takesEntry 4 = .ok (.getfield 100, 3) := by decide +kernel
theorem dX0_takesEntry_7 : decode cX0_takesEntry 7 = .ok (.aload_n 0, 1) := by decide +kernel
theorem dX0_takesEntry_8 : decode cX0_takesEntry 8 = .ok (.getfield 22, 3) := by decide +kernel
theorem dX0_takesEntry_11 : decode cX0_takesEntry 11 = .ok (.isub, 1) := by decide +kernel
theorem dX0_takesEntry_12 : decode cX0_takesEntry 12 = .ok (.istore_n 3, 1) := by decide +kernel
theorem dX0_takesEntry_13 : decode cX0_takesEntry 13 = .ok (.aload_n 1, 1) := by decide +kernel
theorem dX0_takesEntry_14 : decode cX0_takesEntry 14 = .ok (.iload_n 2, 1) := by decide +kernel
theorem dX0_takesEntry_15 : decode cX0_takesEntry 15 = .ok (.iconst 2, 1) := by decide +kernel
theorem dX0_takesEntry_16 : decode cX0_takesEntry 16 = .ok (.invokestatic 69, 3) := by decide +kernel
theorem dX0_takesEntry_19 : decode cX0_takesEntry 19 = .ok (.ifCond .eq 39, 3) := by decide +kernel
theorem dX0_takesEntry_22 : decode cX0_takesEntry 22 = .ok (.aload_n 1, 1) := by decide +kernel
theorem dX0_takesEntry_23 : decode cX0_takesEntry 23 = .ok (.iload_n 2, 1) := by decide +kernel
theorem dX0_takesEntry_24 : decode cX0_takesEntry 24 = .ok (.iconst 0, 1) := by decide +kernel
theorem dX0_takesEntry_25 : decode cX0_takesEntry 25 = .ok (.invokevirtual 65, 3) := by decide +kernel
theorem dX0_takesEntry_28 : decode cX0_takesEntry 28 = .ok (.aload_n 0, 1) := by decide +kernel
theorem dX0_takesEntry_29 : decode cX0_takesEntry 29 = .ok (.getfield 12, 3) := by decide +kernel
theorem dX0_takesEntry_32 : decode cX0_takesEntry 32 = .ok (.getfield 110, 3) := by decide +kernel
theorem dX0_takesEntry_35 : decode cX0_takesEntry 35 = .ok (.iload_n 3, 1) := by decide +kernel
theorem dX0_takesEntry_36 : decode cX0_takesEntry 36 = .ok (.iaload, 1) := by decide +kernel
theorem dX0_takesEntry_37 : decode cX0_takesEntry 37 = .ok (.if_icmp .ne 21, 3) := by decide +kernel
theorem dX0_takesEntry_40 : decode cX0_takesEntry 40 = .ok (.aload_n 1, 1) := by decide +kernel
theorem dX0_takesEntry_41 : decode cX0_takesEntry 41 = .ok (.iload_n 2, 1) := by decide +kernel
theorem dX0_takesEntry_42 : decode cX0_takesEntry 42 = .ok (.iconst 1, 1) := by decide +kernel
theorem dX0_takesEntry_43 : decode cX0_takesEntry 43 = .ok (.invokevirtual 65, 3) := by decide +kernel
theorem dX0_takesEntry_46 : decode cX0_takesEntry 46 = .ok (.aload_n 0, 1) := by decide +kernel
theorem dX0_takesEntry_47 : decode cX0_takesEntry 47 = .ok (.getfield 12, 3) := by decide +kernel
theorem dX0_takesEntry_50 : decode cX0_takesEntry 50 = .ok (.getfield 114, 3) := by decide +kernel
theorem dX0_takesEntry_53 : decode cX0_takesEntry 53 = .ok (.iload_n 3, 1) := by decide +kernel
theorem dX0_takesEntry_54 : decode cX0_takesEntry 54 = .ok (.iaload, 1) := by decide +kernel
theorem dX0_takesEntry_55 : decode cX0_takesEntry 55 = .ok (.if_icmp .eq 5, 3) := by decide +kernel
theorem dX0_takesEntry_58 : decode cX0_takesEntry 58 = .ok (.iconst 0, 1) := by decide +kernel
theorem dX0_takesEntry_59 : decode cX0_takesEntry 59 = .ok (.ireturn, 1) := by decide +kernel
theorem dX0_takesEntry_60 : decode cX0_takesEntry 60 = .ok (.aload_n 0, 1) := by decide +kernel
theorem dX0_takesEntry_61 : decode cX0_takesEntry 61 = .ok (.dup, 1) := by decide +kernel
theorem dX0_takesEntry_62 : decode cX0_takesEntry 62 = .ok (.getfield 22, 3) := by decide +kernel
theorem dX0_takesEntry_65 : decode cX0_takesEntry 65 = .ok (.iconst 1, 1) := by decide +kernel
theorem dX0_takesEntry_66 : decode cX0_takesEntry 66 = .ok (.isub, 1) := by decide +kernel
theorem dX0_takesEntry_67 : decode cX0_takesEntry 67 = .ok (.putfield 22, 3) := by decide +kernel
theorem dX0_takesEntry_70 : decode cX0_takesEntry 70 = .ok (.iconst 1, 1) := by decide +kernel
theorem dX0_takesEntry_71 : decode cX0_takesEntry 71 = .ok (.ireturn, 1) := by decide +kernel
set_option maxRecDepth 20000 in
theorem ggX0_takesShare_X1_number : GoodIn wsX0_takesShare wsX1_number := goodIn_r _ [9, 10, 75, 76, 77, 78] rfl (by decide +kernel)
set_option maxRecDepth 20000 in
theorem gX0_takesShare_X1_number : GoodIn wsX0_takesShare (wsV RX0 65 RX1 yX1_number wsX1_number) := goodIn_app (goodIn_r _ [5, 6, 7, 8] rfl (by decide +kernel)) ggX0_takesShare_X1_number
set_option maxRecDepth 20000 in
theorem ggX0_takesShare_X6_isTrustee : GoodIn wsX0_takesShare wsX6_isTrustee := goodIn_r _ [13] rfl (by decide +kernel)
set_option maxRecDepth 20000 in
theorem gX0_takesShare_X6_isTrustee_n117 : GoodIn wsX0_takesShare (wsX6_isTrustee) := ggX0_takesShare_X6_isTrustee
set_option maxRecDepth 20000 in
theorem ggX0_takesShare_X0_provesShare : GoodIn wsX0_takesShare wsX0_provesShare := goodIn_r _ [18, 2, 5, 6, 7, 8, 9, 10, 19, 20, 21, 22, 23, 24, 25, 26, 27, 28, 29, 30, 31, 32, 33, 34, 35, 36, 37, 38, 39, 40, 41, 42, 43, 44, 45, 46, 47, 55, 56, 57, 58, 59, 60, 61, 62, 63, 64, 65, 66, 67, 68, 69, 70, 71, 72, 73, 74, 75, 76, 77, 78] rfl (by decide +kernel)
set_option maxRecDepth 20000 in
theorem gX0_takesShare_X0_provesShare : GoodIn wsX0_takesShare (wsV RX0 126 RX0 yX0_provesShare wsX0_provesShare) := goodIn_app (goodIn_r _ [14, 15, 16, 17] rfl (by decide +kernel)) ggX0_takesShare_X0_provesShare
set_option maxRecDepth 20000 in
theorem ggX0_takesShare_X4_addShare : GoodIn wsX0_takesShare wsX4_addShare := goodIn_r _ [52, 53, 54, 46, 21, 47, 60, 61, 62, 63, 64, 65, 66, 67, 68, 69, 70, 71, 72, 73, 74] rfl (by decide +kernel)
set_option maxRecDepth 20000 in
theorem gX0_takesShare_X4_addShare : GoodIn wsX0_takesShare (wsV RX0 130 RX4 yX4_addShare wsX4_addShare) := goodIn_app (goodIn_r _ [48, 49, 50, 51] rfl (by decide +kernel)) ggX0_takesShare_X4_addShare
theorem dX0_takesShare_0 : decode cX0_takesShare 0 = .ok (.aload_n 1, 1) := by decide +kernel
theorem dX0_takesShare_1 : decode cX0_takesShare 1 = .ok (.iload_n 2, 1) := by decide +kernel
theorem dX0_takesShare_2 : decode cX0_takesShare 2 = .ok (.iconst 0, 1) := by decide +kernel
theorem dX0_takesShare_3 : decode cX0_takesShare 3 = .ok (.invokevirtual 65, 3) := by decide +kernel
theorem dX0_takesShare_6 : decode cX0_takesShare 6 = .ok (.istore_n 3, 1) := by decide +kernel
theorem dX0_takesShare_7 : decode cX0_takesShare 7 = .ok (.aload_n 1, 1) := by decide +kernel
theorem dX0_takesShare_8 : decode cX0_takesShare 8 = .ok (.iload_n 2, 1) := by decide +kernel
theorem dX0_takesShare_9 : decode cX0_takesShare 9 = .ok (.iconst 1, 1) := by decide +kernel
theorem dX0_takesShare_10 : decode cX0_takesShare 10 = .ok (.invokevirtual 65, 3) := by decide +kernel
theorem dX0_takesShare_13 : decode cX0_takesShare 13 = .ok (.istore 4, 2) := by decide +kernel
theorem dX0_takesShare_15 : decode cX0_takesShare 15 = .ok (.aload_n 0, 1) := by decide +kernel
theorem dX0_takesShare_16 : decode cX0_takesShare 16 = .ok (.getfield 18, 3) := by decide +kernel
theorem dX0_takesShare_19 : decode cX0_takesShare 19 = .ok (.iconst 2, 1) := by decide +kernel
theorem dX0_takesShare_20 : decode cX0_takesShare 20 = .ok (.if_icmp .eq 11, 3) := by decide +kernel
theorem dX0_takesShare_23 : decode cX0_takesShare 23 = .ok (.aload_n 0, 1) := by decide +kernel
theorem dX0_takesShare_24 : decode cX0_takesShare 24 = .ok (.getfield 18, 3) := by decide +kernel
theorem dX0_takesShare_27 : decode cX0_takesShare 27 = .ok (.iconst 3, 1) := by decide +kernel
theorem dX0_takesShare_28 : decode cX0_takesShare 28 = .ok (.if_icmp .ne 22, 3) := by decide +kernel
theorem dX0_takesShare_31 : decode cX0_takesShare 31 = .ok (.iload_n 3, 1) := by decide +kernel
theorem dX0_takesShare_32 : decode cX0_takesShare 32 = .ok (.invokestatic 117, 3) := by decide +kernel
theorem dX0_takesShare_35 : decode cX0_takesShare 35 = .ok (.ifCond .eq 15, 3) := by decide +kernel
theorem dX0_takesShare_38 : decode cX0_takesShare 38 = .ok (.aload_n 0, 1) := by decide +kernel
theorem dX0_takesShare_39 : decode cX0_takesShare 39 = .ok (.getfield 12, 3) := by decide +kernel
theorem dX0_takesShare_42 : decode cX0_takesShare 42 = .ok (.getfield 120, 3) := by decide +kernel
theorem dX0_takesShare_45 : decode cX0_takesShare 45 = .ok (.iload_n 3, 1) := by decide +kernel
theorem dX0_takesShare_46 : decode cX0_takesShare 46 = .ok (.baload, 1) := by decide +kernel
theorem dX0_takesShare_47 : decode cX0_takesShare 47 = .ok (.ifCond .eq 5, 3) := by decide +kernel
theorem dX0_takesShare_50 : decode cX0_takesShare 50 = .ok (.iconst 0, 1) := by decide +kernel
theorem dX0_takesShare_51 : decode cX0_takesShare 51 = .ok (.ireturn, 1) := by decide +kernel
theorem dX0_takesShare_52 : decode cX0_takesShare 52 = .ok (.aload_n 0, 1) := by decide +kernel
theorem dX0_takesShare_53 : decode cX0_takesShare 53 = .ok (.getfield 25, 3) := by decide +kernel
theorem dX0_takesShare_56 : decode cX0_takesShare 56 = .ok (.aload_n 0, 1) := by decide +kernel
theorem dX0_takesShare_57 : decode cX0_takesShare 57 = .ok (.getfield 12, 3) := by decide +kernel
theorem dX0_takesShare_60 : decode cX0_takesShare 60 = .ok (.getfield 100, 3) := by decide +kernel
theorem dX0_takesShare_63 : decode cX0_takesShare 63 = .ok (.if_icmp .ge 25, 3) := by decide +kernel
theorem dX0_takesShare_66 : decode cX0_takesShare 66 = .ok (.iload 4, 2) := by decide +kernel
theorem dX0_takesShare_68 : decode cX0_takesShare 68 = .ok (.aload_n 0, 1) := by decide +kernel
theorem dX0_takesShare_69 : decode cX0_takesShare 69 = .ok (.getfield 25, 3) := by decide +kernel
theorem dX0_takesShare_72 : decode cX0_takesShare 72 = .ok (.if_icmp .ne 16, 3) := by decide +kernel
theorem dX0_takesShare_75 : decode cX0_takesShare 75 = .ok (.iload 4, 2) := by decide +kernel
theorem dX0_takesShare_77 : decode cX0_takesShare 77 = .ok (.ifCond .le 13, 3) := by decide +kernel
theorem dX0_takesShare_80 : decode cX0_takesShare 80 = .ok (.iload_n 3, 1) := by decide +kernel
theorem dX0_takesShare_81 : decode cX0_takesShare 81 = .ok (.aload_n 0, 1) := by decide +kernel
theorem dX0_takesShare_82 : decode cX0_takesShare 82 = .ok (.getfield 123, 3) := by decide +kernel
theorem dX0_takesShare_85 : decode cX0_takesShare 85 = .ok (.if_icmp .eq 5, 3) := by decide +kernel
theorem dX0_takesShare_88 : decode cX0_takesShare 88 = .ok (.iconst 0, 1) := by decide +kernel
theorem dX0_takesShare_89 : decode cX0_takesShare 89 = .ok (.ireturn, 1) := by decide +kernel
theorem dX0_takesShare_90 : decode cX0_takesShare 90 = .ok (.aload_n 0, 1) := by decide +kernel
theorem dX0_takesShare_91 : decode cX0_takesShare 91 = .ok (.aload_n 1, 1) := by decide +kernel
theorem dX0_takesShare_92 : decode cX0_takesShare 92 = .ok (.iload_n 2, 1) := by decide +kernel
theorem dX0_takesShare_93 : decode cX0_takesShare 93 = .ok (.iload_n 3, 1) := by decide +kernel
theorem dX0_takesShare_94 : decode cX0_takesShare 94 = .ok (.iload 4, 2) := by decide +kernel
theorem dX0_takesShare_96 : decode cX0_takesShare 96 = .ok (.invokevirtual 126, 3) := by decide +kernel
theorem dX0_takesShare_99 : decode cX0_takesShare 99 = .ok (.ifCond .ne 5, 3) := by decide +kernel
theorem dX0_takesShare_102 : decode cX0_takesShare 102 = .ok (.iconst 0, 1) := by decide +kernel
theorem dX0_takesShare_103 : decode cX0_takesShare 103 = .ok (.ireturn, 1) := by decide +kernel
theorem dX0_takesShare_104 : decode cX0_takesShare 104 = .ok (.aload_n 0, 1) := by decide +kernel
theorem dX0_takesShare_105 : decode cX0_takesShare 105 = .ok (.getfield 12, 3) := by decide +kernel
theorem dX0_takesShare_108 : decode cX0_takesShare 108 = .ok (.iload 4, 2) := by decide +kernel
theorem dX0_takesShare_110 : decode cX0_takesShare 110 = .ok (.aload_n 1, 1) := by decide +kernel
theorem dX0_takesShare_111 : decode cX0_takesShare 111 = .ok (.iload_n 2, 1) := by decide +kernel
theorem dX0_takesShare_112 : decode cX0_takesShare 112 = .ok (.iconst 2, 1) := by decide +kernel
theorem dX0_takesShare_113 : decode cX0_takesShare 113 = .ok (.invokevirtual 65, 3) := by decide +kernel
theorem dX0_takesShare_116 : decode cX0_takesShare 116 = .ok (.invokevirtual 130, 3) := by decide +kernel
theorem dX0_takesShare_119 : decode cX0_takesShare 119 = .ok (.aload_n 0, 1) := by decide +kernel
theorem dX0_takesShare_120 : decode cX0_takesShare 120 = .ok (.iconst 3, 1) := by decide +kernel
theorem dX0_takesShare_121 : decode cX0_takesShare 121 = .ok (.putfield 18, 3) := by decide +kernel
theorem dX0_takesShare_124 : decode cX0_takesShare 124 = .ok (.aload_n 0, 1) := by decide +kernel
theorem dX0_takesShare_125 : decode cX0_takesShare 125 = .ok (.iload_n 3, 1) := by decide +kernel
theorem dX0_takesShare_126 : decode cX0_takesShare 126 = .ok (.putfield 123, 3) := by decide +kernel
theorem dX0_takesShare_129 : decode cX0_takesShare 129 = .ok (.aload_n 0, 1) := by decide +kernel
theorem dX0_takesShare_130 : decode cX0_takesShare 130 = .ok (.dup, 1) := by decide +kernel
theorem dX0_takesShare_131 : decode cX0_takesShare 131 = .ok (.getfield 25, 3) := by decide +kernel
theorem dX0_takesShare_134 : decode cX0_takesShare 134 = .ok (.iconst 1, 1) := by decide +kernel
theorem dX0_takesShare_135 : decode cX0_takesShare 135 = .ok (.iadd, 1) := by decide +kernel
theorem dX0_takesShare_136 : decode cX0_takesShare 136 = .ok (.putfield 25, 3) := by decide +kernel
theorem dX0_takesShare_139 : decode cX0_takesShare 139 = .ok (.aload_n 0, 1) := by decide +kernel
theorem dX0_takesShare_140 : decode cX0_takesShare 140 = .ok (.getfield 25, 3) := by decide +kernel
theorem dX0_takesShare_143 : decode cX0_takesShare 143 = .ok (.aload_n 0, 1) := by decide +kernel
theorem dX0_takesShare_144 : decode cX0_takesShare 144 = .ok (.getfield 12, 3) := by decide +kernel
theorem dX0_takesShare_147 : decode cX0_takesShare 147 = .ok (.getfield 100, 3) := by decide +kernel
theorem dX0_takesShare_150 : decode cX0_takesShare 150 = .ok (.if_icmp .ne 18, 3) := by decide +kernel
theorem dX0_takesShare_153 : decode cX0_takesShare 153 = .ok (.aload_n 0, 1) := by decide +kernel
theorem dX0_takesShare_154 : decode cX0_takesShare 154 = .ok (.getfield 12, 3) := by decide +kernel
theorem dX0_takesShare_157 : decode cX0_takesShare 157 = .ok (.getfield 120, 3) := by decide +kernel
theorem dX0_takesShare_160 : decode cX0_takesShare 160 = .ok (.iload_n 3, 1) := by decide +kernel
theorem dX0_takesShare_161 : decode cX0_takesShare 161 = .ok (.iconst 1, 1) := by decide +kernel
theorem dX0_takesShare_162 : decode cX0_takesShare 162 = .ok (.bastore, 1) := by decide +kernel
theorem dX0_takesShare_163 : decode cX0_takesShare 163 = .ok (.aload_n 0, 1) := by decide +kernel
theorem dX0_takesShare_164 : decode cX0_takesShare 164 = .ok (.iconst 0, 1) := by decide +kernel
theorem dX0_takesShare_165 : decode cX0_takesShare 165 = .ok (.putfield 25, 3) := by decide +kernel
theorem dX0_takesShare_168 : decode cX0_takesShare 168 = .ok (.iconst 1, 1) := by decide +kernel
theorem dX0_takesShare_169 : decode cX0_takesShare 169 = .ok (.ireturn, 1) := by decide +kernel
set_option maxRecDepth 20000 in
theorem ggX0_provesShare_X1_number : GoodIn wsX0_provesShare wsX1_number := goodIn_r _ [6, 7, 57, 58, 59, 60] rfl (by decide +kernel)
set_option maxRecDepth 20000 in
theorem gX0_provesShare_X1_number : GoodIn wsX0_provesShare (wsV RX0 65 RX1 yX1_number wsX1_number) := goodIn_app (goodIn_r _ [2, 3, 4, 5] rfl (by decide +kernel)) ggX0_provesShare_X1_number
set_option maxRecDepth 20000 in
theorem ggX0_provesShare_X3_isElement : GoodIn wsX0_provesShare wsX3_isElement := goodIn_r _ [11, 12, 13, 10, 14] rfl (by decide +kernel)
set_option maxRecDepth 20000 in
theorem gX0_provesShare_X3_isElement : GoodIn wsX0_provesShare (va_wsS RX0 73 yX3_isElement wsX3_isElement) := goodIn_app (goodIn_r _ [8, 9, 10] rfl (by decide +kernel)) ggX0_provesShare_X3_isElement
set_option maxRecDepth 20000 in
theorem ggX0_provesShare_X3_isNumber : GoodIn wsX0_provesShare wsX3_isNumber := goodIn_r _ [17] rfl (by decide +kernel)
set_option maxRecDepth 20000 in
theorem gX0_provesShare_X3_isNumber : GoodIn wsX0_provesShare (va_wsS RX0 133 yX3_isNumber wsX3_isNumber) := goodIn_app (goodIn_r _ [15, 16, 10] rfl (by decide +kernel)) ggX0_provesShare_X3_isNumber
set_option maxRecDepth 20000 in
theorem ggX0_provesShare_X2_challenge : GoodIn wsX0_provesShare wsX2_challenge := goodIn_r _ [21, 22, 23, 20, 24, 25, 26, 27, 28, 29] rfl (by decide +kernel)
set_option maxRecDepth 20000 in
theorem gX0_provesShare_X2_challenge : GoodIn wsX0_provesShare (va_wsS RX0 139 yX2_challenge wsX2_challenge) := goodIn_app (goodIn_r _ [18, 19, 20] rfl (by decide +kernel)) ggX0_provesShare_X2_challenge
set_option maxRecDepth 20000 in
theorem ggX0_provesShare_X3_ofBase : GoodIn wsX0_provesShare wsX3_ofBase := goodIn_r _ [32, 12, 13, 10, 14] rfl (by decide +kernel)
set_option maxRecDepth 20000 in
theorem gX0_provesShare_X3_ofBase : GoodIn wsX0_provesShare (va_wsS RX0 145 yX3_ofBase wsX3_ofBase) := goodIn_app (goodIn_r _ [30, 31, 10] rfl (by decide +kernel)) ggX0_provesShare_X3_ofBase
set_option maxRecDepth 20000 in
theorem ggX0_provesShare_X3_power : GoodIn wsX0_provesShare wsX3_power := goodIn_r _ [14] rfl (by decide +kernel)
set_option maxRecDepth 20000 in
theorem gX0_provesShare_X3_power : GoodIn wsX0_provesShare (va_wsS RX0 148 yX3_power wsX3_power) := goodIn_app (goodIn_r _ [33, 13, 10] rfl (by decide +kernel)) ggX0_provesShare_X3_power
set_option maxRecDepth 20000 in
theorem ggX0_provesShare_X3_times : GoodIn wsX0_provesShare wsX3_times := goodIn_r _ [36] rfl (by decide +kernel)
set_option maxRecDepth 20000 in
theorem gX0_provesShare_X3_times : GoodIn wsX0_provesShare (va_wsS RX0 151 yX3_times wsX3_times) := goodIn_app (goodIn_r _ [34, 35, 10] rfl (by decide +kernel)) ggX0_provesShare_X3_times
theorem dX0_provesShare_0 : decode cX0_provesShare 0 = .ok (.aload_n 1, 1) := by decide +kernel
theorem dX0_provesShare_1 : decode cX0_provesShare 1 = .ok (.iload_n 2, 1) := by decide +kernel
theorem dX0_provesShare_2 : decode cX0_provesShare 2 = .ok (.iconst 2, 1) := by decide +kernel
theorem dX0_provesShare_3 : decode cX0_provesShare 3 = .ok (.invokevirtual 65, 3) := by decide +kernel
theorem dX0_provesShare_6 : decode cX0_provesShare 6 = .ok (.istore 5, 2) := by decide +kernel
theorem dX0_provesShare_8 : decode cX0_provesShare 8 = .ok (.aload_n 1, 1) := by decide +kernel
theorem dX0_provesShare_9 : decode cX0_provesShare 9 = .ok (.iload_n 2, 1) := by decide +kernel
theorem dX0_provesShare_10 : decode cX0_provesShare 10 = .ok (.iconst 3, 1) := by decide +kernel
theorem dX0_provesShare_11 : decode cX0_provesShare 11 = .ok (.invokevirtual 65, 3) := by decide +kernel
theorem dX0_provesShare_14 : decode cX0_provesShare 14 = .ok (.istore 6, 2) := by decide +kernel
theorem dX0_provesShare_16 : decode cX0_provesShare 16 = .ok (.aload_n 1, 1) := by decide +kernel
theorem dX0_provesShare_17 : decode cX0_provesShare 17 = .ok (.iload_n 2, 1) := by decide +kernel
theorem dX0_provesShare_18 : decode cX0_provesShare 18 = .ok (.iconst 4, 1) := by decide +kernel
theorem dX0_provesShare_19 : decode cX0_provesShare 19 = .ok (.invokevirtual 65, 3) := by decide +kernel
theorem dX0_provesShare_22 : decode cX0_provesShare 22 = .ok (.istore 7, 2) := by decide +kernel
theorem dX0_provesShare_24 : decode cX0_provesShare 24 = .ok (.aload_n 1, 1) := by decide +kernel
theorem dX0_provesShare_25 : decode cX0_provesShare 25 = .ok (.iload_n 2, 1) := by decide +kernel
theorem dX0_provesShare_26 : decode cX0_provesShare 26 = .ok (.iconst 5, 1) := by decide +kernel
theorem dX0_provesShare_27 : decode cX0_provesShare 27 = .ok (.invokevirtual 65, 3) := by decide +kernel
theorem dX0_provesShare_30 : decode cX0_provesShare 30 = .ok (.istore 8, 2) := by decide +kernel
theorem dX0_provesShare_32 : decode cX0_provesShare 32 = .ok (.iload 5, 2) := by decide +kernel
theorem dX0_provesShare_34 : decode cX0_provesShare 34 = .ok (.invokestatic 73, 3) := by decide +kernel
theorem dX0_provesShare_37 : decode cX0_provesShare 37 = .ok (.ifCond .eq 27, 3) := by decide +kernel
theorem dX0_provesShare_40 : decode cX0_provesShare 40 = .ok (.iload 6, 2) := by decide +kernel
theorem dX0_provesShare_42 : decode cX0_provesShare 42 = .ok (.invokestatic 133, 3) := by decide +kernel
theorem dX0_provesShare_45 : decode cX0_provesShare 45 = .ok (.ifCond .eq 19, 3) := by decide +kernel
theorem dX0_provesShare_48 : decode cX0_provesShare 48 = .ok (.iload 7, 2) := by decide +kernel
theorem dX0_provesShare_50 : decode cX0_provesShare 50 = .ok (.invokestatic 73, 3) := by decide +kernel
theorem dX0_provesShare_53 : decode cX0_provesShare 53 = .ok (.ifCond .eq 11, 3) := by decide +kernel
theorem dX0_provesShare_56 : decode cX0_provesShare 56 = .ok (.iload 8, 2) := by decide +kernel
theorem dX0_provesShare_58 : decode cX0_provesShare 58 = .ok (.invokestatic 73, 3) := by decide +kernel
theorem dX0_provesShare_61 : decode cX0_provesShare 61 = .ok (.ifCond .ne 5, 3) := by decide +kernel
theorem dX0_provesShare_64 : decode cX0_provesShare 64 = .ok (.iconst 0, 1) := by decide +kernel
theorem dX0_provesShare_65 : decode cX0_provesShare 65 = .ok (.ireturn, 1) := by decide +kernel
theorem dX0_provesShare_66 : decode cX0_provesShare 66 = .ok (.aload_n 0, 1) := by decide +kernel
theorem dX0_provesShare_67 : decode cX0_provesShare 67 = .ok (.getfield 12, 3) := by decide +kernel
theorem dX0_provesShare_70 : decode cX0_provesShare 70 = .ok (.getfield 136, 3) := by decide +kernel
theorem dX0_provesShare_73 : decode cX0_provesShare 73 = .ok (.iload_n 3, 1) := by decide +kernel
theorem dX0_provesShare_74 : decode cX0_provesShare 74 = .ok (.iaload, 1) := by decide +kernel
theorem dX0_provesShare_75 : decode cX0_provesShare 75 = .ok (.istore 9, 2) := by decide +kernel
theorem dX0_provesShare_77 : decode cX0_provesShare 77 = .ok (.aload_n 0, 1) := by decide +kernel
theorem dX0_provesShare_78 : decode cX0_provesShare 78 = .ok (.getfield 12, 3) := by decide +kernel
theorem dX0_provesShare_81 : decode cX0_provesShare 81 = .ok (.getfield 110, 3) := by decide +kernel
theorem dX0_provesShare_84 : decode cX0_provesShare 84 = .ok (.iload 4, 2) := by decide +kernel
theorem dX0_provesShare_86 : decode cX0_provesShare 86 = .ok (.iaload, 1) := by decide +kernel
theorem dX0_provesShare_87 : decode cX0_provesShare 87 = .ok (.istore 10, 2) := by decide +kernel
theorem dX0_provesShare_89 : decode cX0_provesShare 89 = .ok (.iload 9, 2) := by decide +kernel
theorem dX0_provesShare_91 : decode cX0_provesShare 91 = .ok (.iload 10, 2) := by decide +kernel
theorem dX0_provesShare_93 : decode cX0_provesShare 93 = .ok (.iload 5, 2) := by decide +kernel
theorem dX0_provesShare_95 : decode cX0_provesShare 95 = .ok (.iload 7, 2) := by decide +kernel
theorem dX0_provesShare_97 : decode cX0_provesShare 97 = .ok (.iload 8, 2) := by decide +kernel
theorem dX0_provesShare_99 : decode cX0_provesShare 99 = .ok (.invokestatic 139, 3) := by decide +kernel
theorem dX0_provesShare_102 : decode cX0_provesShare 102 = .ok (.istore 11, 2) := by decide +kernel
theorem dX0_provesShare_104 : decode cX0_provesShare 104 = .ok (.iload 6, 2) := by decide +kernel
theorem dX0_provesShare_106 : decode cX0_provesShare 106 = .ok (.invokestatic 145, 3) := by decide +kernel
theorem dX0_provesShare_109 : decode cX0_provesShare 109 = .ok (.iload 7, 2) := by decide +kernel
theorem dX0_provesShare_111 : decode cX0_provesShare 111 = .ok (.iload 9, 2) := by decide +kernel
theorem dX0_provesShare_113 : decode cX0_provesShare 113 = .ok (.iload 11, 2) := by decide +kernel
theorem dX0_provesShare_115 : decode cX0_provesShare 115 = .ok (.invokestatic 148, 3) := by decide +kernel
theorem dX0_provesShare_118 : decode cX0_provesShare 118 = .ok (.invokestatic 151, 3) := by decide +kernel
theorem dX0_provesShare_121 : decode cX0_provesShare 121 = .ok (.if_icmp .ne 29, 3) := by decide +kernel
theorem dX0_provesShare_124 : decode cX0_provesShare 124 = .ok (.iload 10, 2) := by decide +kernel
theorem dX0_provesShare_126 : decode cX0_provesShare 126 = .ok (.iload 6, 2) := by decide +kernel
theorem dX0_provesShare_128 : decode cX0_provesShare 128 = .ok (.invokestatic 148, 3) := by decide +kernel
theorem dX0_provesShare_131 : decode cX0_provesShare 131 = .ok (.iload 8, 2) := by decide +kernel
theorem dX0_provesShare_133 : decode cX0_provesShare 133 = .ok (.iload 5, 2) := by decide +kernel
theorem dX0_provesShare_135 : decode cX0_provesShare 135 = .ok (.iload 11, 2) := by decide +kernel
theorem dX0_provesShare_137 : decode cX0_provesShare 137 = .ok (.invokestatic 148, 3) := by decide +kernel
theorem dX0_provesShare_140 : decode cX0_provesShare 140 = .ok (.invokestatic 151, 3) := by decide +kernel
theorem dX0_provesShare_143 : decode cX0_provesShare 143 = .ok (.if_icmp .ne 7, 3) := by decide +kernel
theorem dX0_provesShare_146 : decode cX0_provesShare 146 = .ok (.iconst 1, 1) := by decide +kernel
theorem dX0_provesShare_147 : decode cX0_provesShare 147 = .ok (.goto 4, 3) := by decide +kernel
theorem dX0_provesShare_150 : decode cX0_provesShare 150 = .ok (.iconst 0, 1) := by decide +kernel
theorem dX0_provesShare_151 : decode cX0_provesShare 151 = .ok (.ireturn, 1) := by decide +kernel
set_option maxRecDepth 20000 in
theorem ggX0_takesResult_X4_allOpened : GoodIn wsX0_takesResult wsX4_allOpened := goodIn_r _ [7, 8, 45, 46, 47, 48, 49, 50, 51, 52, 53, 54, 55, 56, 57, 58, 59] rfl (by decide +kernel)
set_option maxRecDepth 20000 in
theorem gX0_takesResult_X4_allOpened : GoodIn wsX0_takesResult (wsV RX0 154 RX4 yX4_allOpened wsX4_allOpened) := goodIn_app (goodIn_r _ [3, 4, 5, 6] rfl (by decide +kernel)) ggX0_takesResult_X4_allOpened
set_option maxRecDepth 20000 in
theorem ggX0_takesResult_X4_countVotes : GoodIn wsX0_takesResult wsX4_countVotes := goodIn_r _ [12, 13, 14, 15, 16, 17, 18, 19, 20, 21, 22, 23, 24, 25, 26, 27, 28, 29, 45, 46, 47, 48, 49, 50, 51, 52, 53, 54, 55, 56, 57, 58, 59] rfl (by decide +kernel)
set_option maxRecDepth 20000 in
theorem gX0_takesResult_X4_countVotes : GoodIn wsX0_takesResult (wsV RX0 158 RX4 yX4_countVotes wsX4_countVotes) := goodIn_app (goodIn_r _ [9, 10, 11, 6] rfl (by decide +kernel)) ggX0_takesResult_X4_countVotes
set_option maxRecDepth 20000 in
theorem ggX0_takesResult_X1_number : GoodIn wsX0_takesResult wsX1_number := goodIn_r _ [34, 35, 60, 61, 62, 63] rfl (by decide +kernel)
set_option maxRecDepth 20000 in
theorem gX0_takesResult_X1_number : GoodIn wsX0_takesResult (wsV RX0 65 RX1 yX1_number wsX1_number) := goodIn_app (goodIn_r _ [30, 31, 32, 33] rfl (by decide +kernel)) ggX0_takesResult_X1_number
set_option maxRecDepth 20000 in
theorem ggX0_takesResult_X0_isZeroFrom : GoodIn wsX0_takesResult wsX0_isZeroFrom := goodIn_r _ [39, 30, 31, 32, 33, 34, 35, 60, 61, 62, 63] rfl (by decide +kernel)
set_option maxRecDepth 20000 in
theorem gX0_takesResult_X0_isZeroFrom : GoodIn wsX0_takesResult (va_wsS RX0 69 yX0_isZeroFrom wsX0_isZeroFrom) := goodIn_app (goodIn_r _ [36, 37, 38] rfl (by decide +kernel)) ggX0_takesResult_X0_isZeroFrom
theorem dX0_takesResult_0 : decode cX0_takesResult 0 = .ok (.aload_n 0, 1) := by decide +kernel
theorem dX0_takesResult_1 : decode cX0_takesResult 1 = .ok (.getfield 18, 3) := by decide +kernel
theorem dX0_takesResult_4 : decode cX0_takesResult 4 = .ok (.iconst 2, 1) := by decide +kernel
theorem dX0_takesResult_5 : decode cX0_takesResult 5 = .ok (.if_icmp .eq 11, 3) := by decide +kernel
theorem dX0_takesResult_8 : decode cX0_takesResult 8 = .ok (.aload_n 0, 1) := by decide +kernel
theorem dX0_takesResult_9 : decode cX0_takesResult 9 = .ok (.getfield 18, 3) := by decide +kernel
theorem dX0_takesResult_12 : decode cX0_takesResult 12 = .ok (.iconst 3, 1) := by decide +kernel
theorem dX0_takesResult_13 : decode cX0_takesResult 13 = .ok (.if_icmp .ne 23, 3) := by decide +kernel
theorem dX0_takesResult_16 : decode cX0_takesResult 16 = .ok (.aload_n 0, 1) := by decide +kernel
theorem dX0_takesResult_17 : decode cX0_takesResult 17 = .ok (.getfield 12, 3) := by decide +kernel
theorem dX0_takesResult_20 : decode cX0_takesResult 20 = .ok (.getfield 100, 3) := by decide +kernel
theorem dX0_takesResult_23 : decode cX0_takesResult 23 = .ok (.ifCond .eq 15, 3) := by decide +kernel
theorem dX0_takesResult_26 : decode cX0_takesResult 26 = .ok (.aload_n 0, 1) := by decide +kernel
theorem dX0_takesResult_27 : decode cX0_takesResult 27 = .ok (.getfield 12, 3) := by decide +kernel
theorem dX0_takesResult_30 : decode cX0_takesResult 30 = .ok (.invokevirtual 154, 3) := by decide +kernel
theorem dX0_takesResult_33 : decode cX0_takesResult 33 = .ok (.ifCond .ne 5, 3) := by decide +kernel
theorem dX0_takesResult_36 : decode cX0_takesResult 36 = .ok (.iconst 0, 1) := by decide +kernel
theorem dX0_takesResult_37 : decode cX0_takesResult 37 = .ok (.ireturn, 1) := by decide +kernel
theorem dX0_takesResult_38 : decode cX0_takesResult 38 = .ok (.aload_n 0, 1) := by decide +kernel
theorem dX0_takesResult_39 : decode cX0_takesResult 39 = .ok (.getfield 12, 3) := by decide +kernel
theorem dX0_takesResult_42 : decode cX0_takesResult 42 = .ok (.invokevirtual 158, 3) := by decide +kernel
theorem dX0_takesResult_45 : decode cX0_takesResult 45 = .ok (.iconst 0, 1) := by decide +kernel
theorem dX0_takesResult_46 : decode cX0_takesResult 46 = .ok (.istore_n 3, 1) := by decide +kernel
theorem dX0_takesResult_47 : decode cX0_takesResult 47 = .ok (.iload_n 3, 1) := by decide +kernel
theorem dX0_takesResult_48 : decode cX0_takesResult 48 = .ok (.iconst 4, 1) := by decide +kernel
theorem dX0_takesResult_49 : decode cX0_takesResult 49 = .ok (.if_icmp .ge 29, 3) := by decide +kernel
theorem dX0_takesResult_52 : decode cX0_takesResult 52 = .ok (.aload_n 1, 1) := by decide +kernel
theorem dX0_takesResult_53 : decode cX0_takesResult 53 = .ok (.iload_n 2, 1) := by decide +kernel
theorem dX0_takesResult_54 : decode cX0_takesResult 54 = .ok (.iload_n 3, 1) := by decide +kernel
theorem dX0_takesResult_55 : decode cX0_takesResult 55 = .ok (.invokevirtual 65, 3) := by decide +kernel
theorem dX0_takesResult_58 : decode cX0_takesResult 58 = .ok (.aload_n 0, 1) := by decide +kernel
theorem dX0_takesResult_59 : decode cX0_takesResult 59 = .ok (.getfield 12, 3) := by decide +kernel
theorem dX0_takesResult_62 : decode cX0_takesResult 62 = .ok (.getfield 161, 3) := by decide +kernel
theorem dX0_takesResult_65 : decode cX0_takesResult 65 = .ok (.iload_n 3, 1) := by decide +kernel
theorem dX0_takesResult_66 : decode cX0_takesResult 66 = .ok (.iaload, 1) := by decide +kernel
theorem dX0_takesResult_67 : decode cX0_takesResult 67 = .ok (.if_icmp .eq 5, 3) := by decide +kernel
theorem dX0_takesResult_70 : decode cX0_takesResult 70 = .ok (.iconst 0, 1) := by decide +kernel
theorem dX0_takesResult_71 : decode cX0_takesResult 71 = .ok (.ireturn, 1) := by decide +kernel
theorem dX0_takesResult_72 : decode cX0_takesResult 72 = .ok (.iinc 3 1, 3) := by decide +kernel
theorem dX0_takesResult_75 : decode cX0_takesResult 75 = .ok (.goto (-28), 3) := by decide +kernel
theorem dX0_takesResult_78 : decode cX0_takesResult 78 = .ok (.aload_n 0, 1) := by decide +kernel
theorem dX0_takesResult_79 : decode cX0_takesResult 79 = .ok (.iconst 4, 1) := by decide +kernel
theorem dX0_takesResult_80 : decode cX0_takesResult 80 = .ok (.putfield 18, 3) := by decide +kernel
theorem dX0_takesResult_83 : decode cX0_takesResult 83 = .ok (.aload_n 1, 1) := by decide +kernel
theorem dX0_takesResult_84 : decode cX0_takesResult 84 = .ok (.iload_n 2, 1) := by decide +kernel
theorem dX0_takesResult_85 : decode cX0_takesResult 85 = .ok (.iconst 4, 1) := by decide +kernel
theorem dX0_takesResult_86 : decode cX0_takesResult 86 = .ok (.invokestatic 69, 3) := by decide +kernel
theorem dX0_takesResult_89 : decode cX0_takesResult 89 = .ok (.ireturn, 1) := by decide +kernel
theorem dX1_init_0 : decode cX1_init 0 = .ok (.aload_n 0, 1) := by decide +kernel
theorem dX1_init_1 : decode cX1_init 1 = .ok (.invokespecial 1, 3) := by decide +kernel
theorem dX1_init_4 : decode cX1_init 4 = .ok (.aload_n 0, 1) := by decide +kernel
theorem dX1_init_5 : decode cX1_init 5 = .ok (.sipush 160, 3) := by decide +kernel
theorem dX1_init_8 : decode cX1_init 8 = .ok (.newarray .int, 2) := by decide +kernel
theorem dX1_init_10 : decode cX1_init 10 = .ok (.putfield 9, 3) := by decide +kernel
theorem dX1_init_13 : decode cX1_init 13 = .ok (.aload_n 0, 1) := by decide +kernel
theorem dX1_init_14 : decode cX1_init 14 = .ok (.sipush 960, 3) := by decide +kernel
theorem dX1_init_17 : decode cX1_init 17 = .ok (.newarray .int, 2) := by decide +kernel
theorem dX1_init_19 : decode cX1_init 19 = .ok (.putfield 13, 3) := by decide +kernel
theorem dX1_init_22 : decode cX1_init 22 = .ok (.aload_n 0, 1) := by decide +kernel
theorem dX1_init_23 : decode cX1_init 23 = .ok (.sipush 160, 3) := by decide +kernel
theorem dX1_init_26 : decode cX1_init 26 = .ok (.newarray .long, 2) := by decide +kernel
theorem dX1_init_28 : decode cX1_init 28 = .ok (.putfield 16, 3) := by decide +kernel
theorem dX1_init_31 : decode cX1_init 31 = .ok (.return_, 1) := by decide +kernel
theorem dX1_empty_0 : decode cX1_empty 0 = .ok (.aload_n 0, 1) := by decide +kernel
theorem dX1_empty_1 : decode cX1_empty 1 = .ok (.iconst 0, 1) := by decide +kernel
theorem dX1_empty_2 : decode cX1_empty 2 = .ok (.putfield 20, 3) := by decide +kernel
theorem dX1_empty_5 : decode cX1_empty 5 = .ok (.return_, 1) := by decide +kernel
theorem dX1_has_0 : decode cX1_has 0 = .ok (.iload_n 1, 1) := by decide +kernel
theorem dX1_has_1 : decode cX1_has 1 = .ok (.ifCond .lt 15, 3) := by decide +kernel
theorem dX1_has_4 : decode cX1_has 4 = .ok (.iload_n 1, 1) := by decide +kernel
theorem dX1_has_5 : decode cX1_has 5 = .ok (.aload_n 0, 1) := by decide +kernel
theorem dX1_has_6 : decode cX1_has 6 = .ok (.getfield 20, 3) := by decide +kernel
theorem dX1_has_9 : decode cX1_has 9 = .ok (.if_icmp .ge 7, 3) := by decide +kernel
theorem dX1_has_12 : decode cX1_has 12 = .ok (.iconst 1, 1) := by decide +kernel
theorem dX1_has_13 : decode cX1_has 13 = .ok (.goto 4, 3) := by decide +kernel
theorem dX1_has_16 : decode cX1_has 16 = .ok (.iconst 0, 1) := by decide +kernel
theorem dX1_has_17 : decode cX1_has 17 = .ok (.ireturn, 1) := by decide +kernel
theorem dX1_hasRoom_0 : decode cX1_hasRoom 0 = .ok (.iload_n 1, 1) := by decide +kernel
theorem dX1_hasRoom_1 : decode cX1_hasRoom 1 = .ok (.sipush 160, 3) := by decide +kernel
theorem dX1_hasRoom_4 : decode cX1_hasRoom 4 = .ok (.aload_n 0, 1) := by decide +kernel
theorem dX1_hasRoom_5 : decode cX1_hasRoom 5 = .ok (.getfield 20, 3) := by decide +kernel
theorem dX1_hasRoom_8 : decode cX1_hasRoom 8 = .ok (.isub, 1) := by decide +kernel
theorem dX1_hasRoom_9 : decode cX1_hasRoom 9 = .ok (.if_icmp .gt 7, 3) := by decide +kernel
theorem dX1_hasRoom_12 : decode cX1_hasRoom 12 = .ok (.iconst 1, 1) := by decide +kernel
theorem dX1_hasRoom_13 : decode cX1_hasRoom 13 = .ok (.goto 4, 3) := by decide +kernel
theorem dX1_hasRoom_16 : decode cX1_hasRoom 16 = .ok (.iconst 0, 1) := by decide +kernel
theorem dX1_hasRoom_17 : decode cX1_hasRoom 17 = .ok (.ireturn, 1) := by decide +kernel
set_option maxRecDepth 20000 in
theorem ggX1_put_X1_write : GoodIn wsX1_put wsX1_write := goodIn_r _ [7, 8, 9, 10, 11, 12] rfl (by decide +kernel)
set_option maxRecDepth 20000 in
theorem gX1_put_X1_write : GoodIn wsX1_put (wsV RX1 24 RX1 yX1_write wsX1_write) := goodIn_app (goodIn_r _ [3, 4, 5, 6] rfl (by decide +kernel)) ggX1_put_X1_write
theorem dX1_put_0 : decode cX1_put 0 = .ok (.aload_n 0, 1) := by decide +kernel
theorem dX1_put_1 : decode cX1_put 1 = .ok (.getfield 20, 3) := by decide +kernel
theorem dX1_put_4 : decode cX1_put 4 = .ok (.istore 5, 2) := by decide +kernel
theorem dX1_put_6 : decode cX1_put 6 = .ok (.aload_n 0, 1) := by decide +kernel
theorem dX1_put_7 : decode cX1_put 7 = .ok (.getfield 9, 3) := by decide +kernel
theorem dX1_put_10 : decode cX1_put 10 = .ok (.iload 5, 2) := by decide +kernel
theorem dX1_put_12 : decode cX1_put 12 = .ok (.iload_n 1, 1) := by decide +kernel
theorem dX1_put_13 : decode cX1_put 13 = .ok (.iastore, 1) := by decide +kernel
theorem dX1_put_14 : decode cX1_put 14 = .ok (.aload_n 0, 1) := by decide +kernel
theorem dX1_put_15 : decode cX1_put 15 = .ok (.iload 5, 2) := by decide +kernel
theorem dX1_put_17 : decode cX1_put 17 = .ok (.iconst 0, 1) := by decide +kernel
theorem dX1_put_18 : decode cX1_put 18 = .ok (.iload_n 2, 1) := by decide +kernel
theorem dX1_put_19 : decode cX1_put 19 = .ok (.invokevirtual 24, 3) := by decide +kernel
theorem dX1_put_22 : decode cX1_put 22 = .ok (.aload_n 0, 1) := by decide +kernel
theorem dX1_put_23 : decode cX1_put 23 = .ok (.iload 5, 2) := by decide +kernel
theorem dX1_put_25 : decode cX1_put 25 = .ok (.iconst 1, 1) := by decide +kernel
theorem dX1_put_26 : decode cX1_put 26 = .ok (.iload_n 3, 1) := by decide +kernel
theorem dX1_put_27 : decode cX1_put 27 = .ok (.invokevirtual 24, 3) := by decide +kernel
theorem dX1_put_30 : decode cX1_put 30 = .ok (.aload_n 0, 1) := by decide +kernel
theorem dX1_put_31 : decode cX1_put 31 = .ok (.iload 5, 2) := by decide +kernel
theorem dX1_put_33 : decode cX1_put 33 = .ok (.iconst 2, 1) := by decide +kernel
theorem dX1_put_34 : decode cX1_put 34 = .ok (.iload 4, 2) := by decide +kernel
theorem dX1_put_36 : decode cX1_put 36 = .ok (.invokevirtual 24, 3) := by decide +kernel
theorem dX1_put_39 : decode cX1_put 39 = .ok (.iconst 3, 1) := by decide +kernel
theorem dX1_put_40 : decode cX1_put 40 = .ok (.istore 6, 2) := by decide +kernel
theorem dX1_put_42 : decode cX1_put 42 = .ok (.iload 6, 2) := by decide +kernel
theorem dX1_put_44 : decode cX1_put 44 = .ok (.bipush 6, 2) := by decide +kernel
theorem dX1_put_46 : decode cX1_put 46 = .ok (.if_icmp .ge 18, 3) := by decide +kernel
theorem dX1_put_49 : decode cX1_put 49 = .ok (.aload_n 0, 1) := by decide +kernel
theorem dX1_put_50 : decode cX1_put 50 = .ok (.iload 5, 2) := by decide +kernel
theorem dX1_put_52 : decode cX1_put 52 = .ok (.iload 6, 2) := by decide +kernel
theorem dX1_put_54 : decode cX1_put 54 = .ok (.iconst 0, 1) := by decide +kernel
theorem dX1_put_55 : decode cX1_put 55 = .ok (.invokevirtual 24, 3) := by decide +kernel
theorem dX1_put_58 : decode cX1_put 58 = .ok (.iinc 6 1, 3) := by decide +kernel
theorem dX1_put_61 : decode cX1_put 61 = .ok (.goto (-19), 3) := by decide +kernel
theorem dX1_put_64 : decode cX1_put 64 = .ok (.aload_n 0, 1) := by decide +kernel
theorem dX1_put_65 : decode cX1_put 65 = .ok (.dup, 1) := by decide +kernel
theorem dX1_put_66 : decode cX1_put 66 = .ok (.getfield 20, 3) := by decide +kernel
theorem dX1_put_69 : decode cX1_put 69 = .ok (.iconst 1, 1) := by decide +kernel
theorem dX1_put_70 : decode cX1_put 70 = .ok (.iadd, 1) := by decide +kernel
theorem dX1_put_71 : decode cX1_put 71 = .ok (.putfield 20, 3) := by decide +kernel
theorem dX1_put_74 : decode cX1_put 74 = .ok (.iload 5, 2) := by decide +kernel
theorem dX1_put_76 : decode cX1_put 76 = .ok (.ireturn, 1) := by decide +kernel
theorem dX1_kind_0 : decode cX1_kind 0 = .ok (.aload_n 0, 1) := by decide +kernel
theorem dX1_kind_1 : decode cX1_kind 1 = .ok (.getfield 9, 3) := by decide +kernel
theorem dX1_kind_4 : decode cX1_kind 4 = .ok (.iload_n 1, 1) := by decide +kernel
theorem dX1_kind_5 : decode cX1_kind 5 = .ok (.iaload, 1) := by decide +kernel
theorem dX1_kind_6 : decode cX1_kind 6 = .ok (.ireturn, 1) := by decide +kernel
theorem dX1_number_0 : decode cX1_number 0 = .ok (.aload_n 0, 1) := by decide +kernel
theorem dX1_number_1 : decode cX1_number 1 = .ok (.getfield 13, 3) := by decide +kernel
theorem dX1_number_4 : decode cX1_number 4 = .ok (.iload_n 1, 1) := by decide +kernel
theorem dX1_number_5 : decode cX1_number 5 = .ok (.bipush 6, 2) := by decide +kernel
theorem dX1_number_7 : decode cX1_number 7 = .ok (.imul, 1) := by decide +kernel
theorem dX1_number_8 : decode cX1_number 8 = .ok (.iload_n 2, 1) := by decide +kernel
theorem dX1_number_9 : decode cX1_number 9 = .ok (.iadd, 1) := by decide +kernel
theorem dX1_number_10 : decode cX1_number 10 = .ok (.iaload, 1) := by decide +kernel
theorem dX1_number_11 : decode cX1_number 11 = .ok (.ireturn, 1) := by decide +kernel
theorem dX1_write_0 : decode cX1_write 0 = .ok (.aload_n 0, 1) := by decide +kernel
theorem dX1_write_1 : decode cX1_write 1 = .ok (.getfield 13, 3) := by decide +kernel
theorem dX1_write_4 : decode cX1_write 4 = .ok (.iload_n 1, 1) := by decide +kernel
theorem dX1_write_5 : decode cX1_write 5 = .ok (.bipush 6, 2) := by decide +kernel
theorem dX1_write_7 : decode cX1_write 7 = .ok (.imul, 1) := by decide +kernel
theorem dX1_write_8 : decode cX1_write 8 = .ok (.iload_n 2, 1) := by decide +kernel
theorem dX1_write_9 : decode cX1_write 9 = .ok (.iadd, 1) := by decide +kernel
theorem dX1_write_10 : decode cX1_write 10 = .ok (.iload_n 3, 1) := by decide +kernel
theorem dX1_write_11 : decode cX1_write 11 = .ok (.iastore, 1) := by decide +kernel
theorem dX1_write_12 : decode cX1_write 12 = .ok (.return_, 1) := by decide +kernel
set_option maxRecDepth 20000 in
theorem ggX1_leafOf_X2_with : GoodIn wsX1_leafOf wsX2_with := goodIn_r _ [4, 5] rfl (by decide +kernel)
set_option maxRecDepth 20000 in
theorem gX1_leafOf_X2_with : GoodIn wsX1_leafOf (va_wsS RX1 28 yX2_with wsX2_with) := goodIn_app (goodIn_r _ [1, 2, 3] rfl (by decide +kernel)) ggX1_leafOf_X2_with
set_option maxRecDepth 20000 in
theorem ggX1_leafOf_X1_kind : GoodIn wsX1_leafOf wsX1_kind := goodIn_r _ [10, 11, 20, 21, 22, 23] rfl (by decide +kernel)
set_option maxRecDepth 20000 in
theorem gX1_leafOf_X1_kind : GoodIn wsX1_leafOf (wsV RX1 34 RX1 yX1_kind wsX1_kind) := goodIn_app (goodIn_r _ [6, 7, 8, 9] rfl (by decide +kernel)) ggX1_leafOf_X1_kind
set_option maxRecDepth 20000 in
theorem ggX1_leafOf_X1_number : GoodIn wsX1_leafOf wsX1_number := goodIn_r _ [15, 16, 20, 21, 22, 23] rfl (by decide +kernel)
set_option maxRecDepth 20000 in
theorem gX1_leafOf_X1_number : GoodIn wsX1_leafOf (wsV RX1 38 RX1 yX1_number wsX1_number) := goodIn_app (goodIn_r _ [12, 13, 14, 9] rfl (by decide +kernel)) ggX1_leafOf_X1_number
set_option maxRecDepth 20000 in
theorem ggX1_leafOf_X2_ended : GoodIn wsX1_leafOf wsX2_ended := goodIn_r _ [19] rfl (by decide +kernel)
set_option maxRecDepth 20000 in
theorem gX1_leafOf_X2_ended : GoodIn wsX1_leafOf (va_wsS RX1 42 yX2_ended wsX2_ended) := goodIn_app (goodIn_r _ [17, 18, 3] rfl (by decide +kernel)) ggX1_leafOf_X2_ended
theorem dX1_leafOf_0 : decode cX1_leafOf 0 = .ok (.lconst 0, 1) := by decide +kernel
theorem dX1_leafOf_1 : decode cX1_leafOf 1 = .ok (.lconst 0, 1) := by decide +kernel
theorem dX1_leafOf_2 : decode cX1_leafOf 2 = .ok (.invokestatic 28, 3) := by decide +kernel
theorem dX1_leafOf_5 : decode cX1_leafOf 5 = .ok (.aload_n 0, 1) := by decide +kernel
theorem dX1_leafOf_6 : decode cX1_leafOf 6 = .ok (.iload_n 1, 1) := by decide +kernel
theorem dX1_leafOf_7 : decode cX1_leafOf 7 = .ok (.invokevirtual 34, 3) := by decide +kernel
theorem dX1_leafOf_10 : decode cX1_leafOf 10 = .ok (.i2l, 1) := by decide +kernel
theorem dX1_leafOf_11 : decode cX1_leafOf 11 = .ok (.invokestatic 28, 3) := by decide +kernel
theorem dX1_leafOf_14 : decode cX1_leafOf 14 = .ok (.lstore_n 2, 1) := by decide +kernel
theorem dX1_leafOf_15 : decode cX1_leafOf 15 = .ok (.iconst 0, 1) := by decide +kernel
theorem dX1_leafOf_16 : decode cX1_leafOf 16 = .ok (.istore 4, 2) := by decide +kernel
theorem dX1_leafOf_18 : decode cX1_leafOf 18 = .ok (.iload 4, 2) := by decide +kernel
theorem dX1_leafOf_20 : decode cX1_leafOf 20 = .ok (.bipush 6, 2) := by decide +kernel
theorem dX1_leafOf_22 : decode cX1_leafOf 22 = .ok (.if_icmp .ge 22, 3) := by decide +kernel
theorem dX1_leafOf_25 : decode cX1_leafOf 25 = .ok (.lload_n 2, 1) := by decide +kernel
theorem dX1_leafOf_26 : decode cX1_leafOf 26 = .ok (.aload_n 0, 1) := by decide +kernel
theorem dX1_leafOf_27 : decode cX1_leafOf 27 = .ok (.iload_n 1, 1) := by decide +kernel
theorem dX1_leafOf_28 : decode cX1_leafOf 28 = .ok (.iload 4, 2) := by decide +kernel
theorem dX1_leafOf_30 : decode cX1_leafOf 30 = .ok (.invokevirtual 38, 3) := by decide +kernel
theorem dX1_leafOf_33 : decode cX1_leafOf 33 = .ok (.i2l, 1) := by decide +kernel
theorem dX1_leafOf_34 : decode cX1_leafOf 34 = .ok (.invokestatic 28, 3) := by decide +kernel
theorem dX1_leafOf_37 : decode cX1_leafOf 37 = .ok (.lstore_n 2, 1) := by decide +kernel
theorem dX1_leafOf_38 : decode cX1_leafOf 38 = .ok (.iinc 4 1, 3) := by decide +kernel
theorem dX1_leafOf_41 : decode cX1_leafOf 41 = .ok (.goto (-23), 3) := by decide +kernel
theorem dX1_leafOf_44 : decode cX1_leafOf 44 = .ok (.lload_n 2, 1) := by decide +kernel
theorem dX1_leafOf_45 : decode cX1_leafOf 45 = .ok (.invokestatic 42, 3) := by decide +kernel
theorem dX1_leafOf_48 : decode cX1_leafOf 48 = .ok (.lreturn, 1) := by decide +kernel
set_option maxRecDepth 20000 in
theorem ggX1_headOf_X1_leafOf : GoodIn wsX1_headOf wsX1_leafOf := goodIn_r _ [6, 7, 8, 9, 10, 11, 12, 13, 14, 5, 15, 16, 17, 18, 19, 20, 21, 22, 23, 24, 34, 35, 36, 37] rfl (by decide +kernel)
set_option maxRecDepth 20000 in
theorem gX1_headOf_X1_leafOf : GoodIn wsX1_headOf (wsV RX1 46 RX1 yX1_leafOf wsX1_leafOf) := goodIn_app (goodIn_r _ [2, 3, 4, 5] rfl (by decide +kernel)) ggX1_headOf_X1_leafOf
set_option maxRecDepth 20000 in
theorem ggX1_headOf_X1_joinNeighbours : GoodIn wsX1_headOf wsX1_joinNeighbours := goodIn_r _ [28, 1, 29, 30, 9, 31, 32, 8, 10, 11, 33, 23, 24, 34, 35, 36, 37] rfl (by decide +kernel)
set_option maxRecDepth 20000 in
theorem gX1_headOf_X1_joinNeighbours : GoodIn wsX1_headOf (wsV RX1 50 RX1 yX1_joinNeighbours wsX1_joinNeighbours) := goodIn_app (goodIn_r _ [25, 26, 27, 5] rfl (by decide +kernel)) ggX1_headOf_X1_joinNeighbours
theorem dX1_headOf_0 : decode cX1_headOf 0 = .ok (.iload_n 2, 1) := by decide +kernel
theorem dX1_headOf_1 : decode cX1_headOf 1 = .ok (.ifCond .ne 5, 3) := by decide +kernel
theorem dX1_headOf_4 : decode cX1_headOf 4 = .ok (.lconst 0, 1) := by decide +kernel
theorem dX1_headOf_5 : decode cX1_headOf 5 = .ok (.lreturn, 1) := by decide +kernel
theorem dX1_headOf_6 : decode cX1_headOf 6 = .ok (.iconst 0, 1) := by decide +kernel
theorem dX1_headOf_7 : decode cX1_headOf 7 = .ok (.istore_n 3, 1) := by decide +kernel
theorem dX1_headOf_8 : decode cX1_headOf 8 = .ok (.iload_n 3, 1) := by decide +kernel
theorem dX1_headOf_9 : decode cX1_headOf 9 = .ok (.iload_n 2, 1) := by decide +kernel
theorem dX1_headOf_10 : decode cX1_headOf 10 = .ok (.if_icmp .ge 22, 3) := by decide +kernel
theorem dX1_headOf_13 : decode cX1_headOf 13 = .ok (.aload_n 0, 1) := by decide +kernel
theorem dX1_headOf_14 : decode cX1_headOf 14 = .ok (.getfield 16, 3) := by decide +kernel
theorem dX1_headOf_17 : decode cX1_headOf 17 = .ok (.iload_n 3, 1) := by decide +kernel
theorem dX1_headOf_18 : decode cX1_headOf 18 = .ok (.aload_n 0, 1) := by decide +kernel
theorem dX1_headOf_19 : decode cX1_headOf 19 = .ok (.iload_n 1, 1) := by decide +kernel
theorem dX1_headOf_20 : decode cX1_headOf 20 = .ok (.iload_n 3, 1) := by decide +kernel
theorem dX1_headOf_21 : decode cX1_headOf 21 = .ok (.iadd, 1) := by decide +kernel
theorem dX1_headOf_22 : decode cX1_headOf 22 = .ok (.invokevirtual 46, 3) := by decide +kernel
theorem dX1_headOf_25 : decode cX1_headOf 25 = .ok (.lastore, 1) := by decide +kernel
theorem dX1_headOf_26 : decode cX1_headOf 26 = .ok (.iinc 3 1, 3) := by decide +kernel
theorem dX1_headOf_29 : decode cX1_headOf 29 = .ok (.goto (-21), 3) := by decide +kernel
theorem dX1_headOf_32 : decode cX1_headOf 32 = .ok (.iload_n 2, 1) := by decide +kernel
theorem dX1_headOf_33 : decode cX1_headOf 33 = .ok (.istore_n 3, 1) := by decide +kernel
theorem dX1_headOf_34 : decode cX1_headOf 34 = .ok (.iload_n 3, 1) := by decide +kernel
theorem dX1_headOf_35 : decode cX1_headOf 35 = .ok (.iconst 1, 1) := by decide +kernel
theorem dX1_headOf_36 : decode cX1_headOf 36 = .ok (.if_icmp .le 17, 3) := by decide +kernel
theorem dX1_headOf_39 : decode cX1_headOf 39 = .ok (.aload_n 0, 1) := by decide +kernel
theorem dX1_headOf_40 : decode cX1_headOf 40 = .ok (.iload_n 3, 1) := by decide +kernel
theorem dX1_headOf_41 : decode cX1_headOf 41 = .ok (.invokevirtual 50, 3) := by decide +kernel
theorem dX1_headOf_44 : decode cX1_headOf 44 = .ok (.iload_n 3, 1) := by decide +kernel
theorem dX1_headOf_45 : decode cX1_headOf 45 = .ok (.iconst 1, 1) := by decide +kernel
theorem dX1_headOf_46 : decode cX1_headOf 46 = .ok (.iadd, 1) := by decide +kernel
theorem dX1_headOf_47 : decode cX1_headOf 47 = .ok (.iconst 2, 1) := by decide +kernel
theorem dX1_headOf_48 : decode cX1_headOf 48 = .ok (.idiv, 1) := by decide +kernel
theorem dX1_headOf_49 : decode cX1_headOf 49 = .ok (.istore_n 3, 1) := by decide +kernel
theorem dX1_headOf_50 : decode cX1_headOf 50 = .ok (.goto (-16), 3) := by decide +kernel
theorem dX1_headOf_53 : decode cX1_headOf 53 = .ok (.aload_n 0, 1) := by decide +kernel
theorem dX1_headOf_54 : decode cX1_headOf 54 = .ok (.getfield 16, 3) := by decide +kernel
theorem dX1_headOf_57 : decode cX1_headOf 57 = .ok (.iconst 0, 1) := by decide +kernel
theorem dX1_headOf_58 : decode cX1_headOf 58 = .ok (.laload, 1) := by decide +kernel
theorem dX1_headOf_59 : decode cX1_headOf 59 = .ok (.lreturn, 1) := by decide +kernel
set_option maxRecDepth 20000 in
theorem ggX1_joinNeighbours_X2_ofParts : GoodIn wsX1_joinNeighbours wsX2_ofParts := goodIn_r _ [5, 6, 7, 4, 8, 9, 10, 11, 12] rfl (by decide +kernel)
set_option maxRecDepth 20000 in
theorem gX1_joinNeighbours_X2_ofParts : GoodIn wsX1_joinNeighbours (va_wsS RX1 54 yX2_ofParts wsX2_ofParts) := goodIn_app (goodIn_r _ [2, 3, 4] rfl (by decide +kernel)) ggX1_joinNeighbours_X2_ofParts
theorem dX1_joinNeighbours_0 : decode cX1_joinNeighbours 0 = .ok (.iconst 0, 1) := by decide +kernel
theorem dX1_joinNeighbours_1 : decode cX1_joinNeighbours 1 = .ok (.istore_n 2, 1) := by decide +kernel
theorem dX1_joinNeighbours_2 : decode cX1_joinNeighbours 2 = .ok (.iload_n 2, 1) := by decide +kernel
theorem dX1_joinNeighbours_3 : decode cX1_joinNeighbours 3 = .ok (.iload_n 1, 1) := by decide +kernel
theorem dX1_joinNeighbours_4 : decode cX1_joinNeighbours 4 = .ok (.iconst 2, 1) := by decide +kernel
theorem dX1_joinNeighbours_5 : decode cX1_joinNeighbours 5 = .ok (.idiv, 1) := by decide +kernel
theorem dX1_joinNeighbours_6 : decode cX1_joinNeighbours 6 = .ok (.if_icmp .ge 36, 3) := by decide +kernel
theorem dX1_joinNeighbours_9 : decode cX1_joinNeighbours 9 = .ok (.aload_n 0, 1) := by decide +kernel
theorem dX1_joinNeighbours_10 : decode cX1_joinNeighbours 10 = .ok (.getfield 16, 3) := by decide +kernel
theorem dX1_joinNeighbours_13 : decode cX1_joinNeighbours 13 = .ok (.iload_n 2, 1) := by decide +kernel
theorem dX1_joinNeighbours_14 : decode cX1_joinNeighbours 14 = .ok (.aload_n 0, 1) := by decide +kernel
theorem dX1_joinNeighbours_15 : decode cX1_joinNeighbours 15 = .ok (.getfield 16, 3) := by decide +kernel
theorem dX1_joinNeighbours_18 : decode cX1_joinNeighbours 18 = .ok (.iconst 2, 1) := by decide +kernel
theorem dX1_joinNeighbours_19 : decode cX1_joinNeighbours 19 = .ok (.iload_n 2, 1) := by decide +kernel
theorem dX1_joinNeighbours_20 : decode cX1_joinNeighbours 20 = .ok (.imul, 1) := by decide +kernel
theorem dX1_joinNeighbours_21 : decode cX1_joinNeighbours 21 = .ok (.laload, 1) := by decide +kernel
theorem dX1_joinNeighbours_22 : decode cX1_joinNeighbours 22 = .ok (.aload_n 0, 1) := by decide +kernel
theorem dX1_joinNeighbours_23 : decode cX1_joinNeighbours 23 = .ok (.getfield 16, 3) := by decide +kernel
theorem dX1_joinNeighbours_26 : decode cX1_joinNeighbours 26 = .ok (.iconst 2, 1) := by decide +kernel
theorem dX1_joinNeighbours_27 : decode cX1_joinNeighbours 27 = .ok (.iload_n 2, 1) := by decide +kernel
theorem dX1_joinNeighbours_28 : decode cX1_joinNeighbours 28 = .ok (.imul, 1) := by decide +kernel
theorem dX1_joinNeighbours_29 : decode cX1_joinNeighbours 29 = .ok (.iconst 1, 1) := by decide +kernel
theorem dX1_joinNeighbours_30 : decode cX1_joinNeighbours 30 = .ok (.iadd, 1) := by decide +kernel
theorem dX1_joinNeighbours_31 : decode cX1_joinNeighbours 31 = .ok (.laload, 1) := by decide +kernel
theorem dX1_joinNeighbours_32 : decode cX1_joinNeighbours 32 = .ok (.invokestatic 54, 3) := by decide +kernel
theorem dX1_joinNeighbours_35 : decode cX1_joinNeighbours 35 = .ok (.lastore, 1) := by decide +kernel
theorem dX1_joinNeighbours_36 : decode cX1_joinNeighbours 36 = .ok (.iinc 2 1, 3) := by decide +kernel
theorem dX1_joinNeighbours_39 : decode cX1_joinNeighbours 39 = .ok (.goto (-37), 3) := by decide +kernel
theorem dX1_joinNeighbours_42 : decode cX1_joinNeighbours 42 = .ok (.iload_n 1, 1) := by decide +kernel
theorem dX1_joinNeighbours_43 : decode cX1_joinNeighbours 43 = .ok (.iconst 2, 1) := by decide +kernel
theorem dX1_joinNeighbours_44 : decode cX1_joinNeighbours 44 = .ok (.irem, 1) := by decide +kernel
theorem dX1_joinNeighbours_45 : decode cX1_joinNeighbours 45 = .ok (.iconst 1, 1) := by decide +kernel
theorem dX1_joinNeighbours_46 : decode cX1_joinNeighbours 46 = .ok (.if_icmp .ne 19, 3) := by decide +kernel
theorem dX1_joinNeighbours_49 : decode cX1_joinNeighbours 49 = .ok (.aload_n 0, 1) := by decide +kernel
theorem dX1_joinNeighbours_50 : decode cX1_joinNeighbours 50 = .ok (.getfield 16, 3) := by decide +kernel
theorem dX1_joinNeighbours_53 : decode cX1_joinNeighbours 53 = .ok (.iload_n 1, 1) := by decide +kernel
theorem dX1_joinNeighbours_54 : decode cX1_joinNeighbours 54 = .ok (.iconst 2, 1) := by decide +kernel
theorem dX1_joinNeighbours_55 : decode cX1_joinNeighbours 55 = .ok (.idiv, 1) := by decide +kernel
theorem dX1_joinNeighbours_56 : decode cX1_joinNeighbours 56 = .ok (.aload_n 0, 1) := by decide +kernel
theorem dX1_joinNeighbours_57 : decode cX1_joinNeighbours 57 = .ok (.getfield 16, 3) := by decide +kernel
theorem dX1_joinNeighbours_60 : decode cX1_joinNeighbours 60 = .ok (.iload_n 1, 1) := by decide +kernel
theorem dX1_joinNeighbours_61 : decode cX1_joinNeighbours 61 = .ok (.iconst 1, 1) := by decide +kernel
theorem dX1_joinNeighbours_62 : decode cX1_joinNeighbours 62 = .ok (.isub, 1) := by decide +kernel
theorem dX1_joinNeighbours_63 : decode cX1_joinNeighbours 63 = .ok (.laload, 1) := by decide +kernel
theorem dX1_joinNeighbours_64 : decode cX1_joinNeighbours 64 = .ok (.lastore, 1) := by decide +kernel
theorem dX1_joinNeighbours_65 : decode cX1_joinNeighbours 65 = .ok (.return_, 1) := by decide +kernel
theorem dX2_with_0 : decode cX2_with 0 = .ok (.lload_n 0, 1) := by decide +kernel
theorem dX2_with_1 : decode cX2_with 1 = .ok (.lload_n 2, 1) := by decide +kernel
theorem dX2_with_2 : decode cX2_with 2 = .ok (.lxor, 1) := by decide +kernel
theorem dX2_with_3 : decode cX2_with 3 = .ok (.ldc2_w 9, 3) := by decide +kernel
theorem dX2_with_6 : decode cX2_with 6 = .ok (.lmul, 1) := by decide +kernel
theorem dX2_with_7 : decode cX2_with 7 = .ok (.lstore 4, 2) := by decide +kernel
theorem dX2_with_9 : decode cX2_with 9 = .ok (.lload 4, 2) := by decide +kernel
theorem dX2_with_11 : decode cX2_with 11 = .ok (.lload 4, 2) := by decide +kernel
theorem dX2_with_13 : decode cX2_with 13 = .ok (.bipush 29, 2) := by decide +kernel
theorem dX2_with_15 : decode cX2_with 15 = .ok (.lushr, 1) := by decide +kernel
theorem dX2_with_16 : decode cX2_with 16 = .ok (.lxor, 1) := by decide +kernel
theorem dX2_with_17 : decode cX2_with 17 = .ok (.lreturn, 1) := by decide +kernel
theorem dX2_ended_0 : decode cX2_ended 0 = .ok (.lload_n 0, 1) := by decide +kernel
theorem dX2_ended_1 : decode cX2_ended 1 = .ok (.iconst 1, 1) := by decide +kernel
theorem dX2_ended_2 : decode cX2_ended 2 = .ok (.lushr, 1) := by decide +kernel
theorem dX2_ended_3 : decode cX2_ended 3 = .ok (.lreturn, 1) := by decide +kernel
theorem dX2_number_0 : decode cX2_number 0 = .ok (.lload_n 0, 1) := by decide +kernel
theorem dX2_number_1 : decode cX2_number 1 = .ok (.iconst 1, 1) := by decide +kernel
theorem dX2_number_2 : decode cX2_number 2 = .ok (.lushr, 1) := by decide +kernel
theorem dX2_number_3 : decode cX2_number 3 = .ok (.ldc2_w 13, 3) := by decide +kernel
theorem dX2_number_6 : decode cX2_number 6 = .ok (.lrem, 1) := by decide +kernel
theorem dX2_number_7 : decode cX2_number 7 = .ok (.l2i, 1) := by decide +kernel
theorem dX2_number_8 : decode cX2_number 8 = .ok (.ireturn, 1) := by decide +kernel
set_option maxRecDepth 20000 in
theorem ggX2_ofParts_X2_with : GoodIn wsX2_ofParts wsX2_with := goodIn_r _ [4, 5] rfl (by decide +kernel)
set_option maxRecDepth 20000 in
theorem gX2_ofParts_X2_with : GoodIn wsX2_ofParts (va_wsS RX2 15 yX2_with wsX2_with) := goodIn_app (goodIn_r _ [1, 2, 3] rfl (by decide +kernel)) ggX2_ofParts_X2_with
set_option maxRecDepth 20000 in
theorem ggX2_ofParts_X2_ended : GoodIn wsX2_ofParts wsX2_ended := goodIn_r _ [8] rfl (by decide +kernel)
set_option maxRecDepth 20000 in
theorem gX2_ofParts_X2_ended : GoodIn wsX2_ofParts (va_wsS RX2 19 yX2_ended wsX2_ended) := goodIn_app (goodIn_r _ [6, 7, 3] rfl (by decide +kernel)) ggX2_ofParts_X2_ended
theorem dX2_ofParts_0 : decode cX2_ofParts 0 = .ok (.lconst 0, 1) := by decide +kernel
theorem dX2_ofParts_1 : decode cX2_ofParts 1 = .ok (.lconst 1, 1) := by decide +kernel
theorem dX2_ofParts_2 : decode cX2_ofParts 2 = .ok (.invokestatic 15, 3) := by decide +kernel
theorem dX2_ofParts_5 : decode cX2_ofParts 5 = .ok (.lload_n 0, 1) := by decide +kernel
theorem dX2_ofParts_6 : decode cX2_ofParts 6 = .ok (.invokestatic 15, 3) := by decide +kernel
theorem dX2_ofParts_9 : decode cX2_ofParts 9 = .ok (.lload_n 2, 1) := by decide +kernel
theorem dX2_ofParts_10 : decode cX2_ofParts 10 = .ok (.invokestatic 15, 3) := by decide +kernel
theorem dX2_ofParts_13 : decode cX2_ofParts 13 = .ok (.invokestatic 19, 3) := by decide +kernel
theorem dX2_ofParts_16 : decode cX2_ofParts 16 = .ok (.lreturn, 1) := by decide +kernel
set_option maxRecDepth 20000 in
theorem ggX2_challenge_X2_with : GoodIn wsX2_challenge wsX2_with := goodIn_r _ [4, 5] rfl (by decide +kernel)
set_option maxRecDepth 20000 in
theorem gX2_challenge_X2_with : GoodIn wsX2_challenge (va_wsS RX2 15 yX2_with wsX2_with) := goodIn_app (goodIn_r _ [1, 2, 3] rfl (by decide +kernel)) ggX2_challenge_X2_with
set_option maxRecDepth 20000 in
theorem ggX2_challenge_X2_number : GoodIn wsX2_challenge wsX2_number := goodIn_r _ [8, 9] rfl (by decide +kernel)
set_option maxRecDepth 20000 in
theorem gX2_challenge_X2_number : GoodIn wsX2_challenge (va_wsS RX2 23 yX2_number wsX2_number) := goodIn_app (goodIn_r _ [6, 7, 3] rfl (by decide +kernel)) ggX2_challenge_X2_number
theorem dX2_challenge_0 : decode cX2_challenge 0 = .ok (.lconst 0, 1) := by decide +kernel
theorem dX2_challenge_1 : decode cX2_challenge 1 = .ok (.iload_n 0, 1) := by decide +kernel
theorem dX2_challenge_2 : decode cX2_challenge 2 = .ok (.i2l, 1) := by decide +kernel
theorem dX2_challenge_3 : decode cX2_challenge 3 = .ok (.invokestatic 15, 3) := by decide +kernel
theorem dX2_challenge_6 : decode cX2_challenge 6 = .ok (.iload_n 1, 1) := by decide +kernel
theorem dX2_challenge_7 : decode cX2_challenge 7 = .ok (.i2l, 1) := by decide +kernel
theorem dX2_challenge_8 : decode cX2_challenge 8 = .ok (.invokestatic 15, 3) := by decide +kernel
theorem dX2_challenge_11 : decode cX2_challenge 11 = .ok (.iload_n 2, 1) := by decide +kernel
theorem dX2_challenge_12 : decode cX2_challenge 12 = .ok (.i2l, 1) := by decide +kernel
theorem dX2_challenge_13 : decode cX2_challenge 13 = .ok (.invokestatic 15, 3) := by decide +kernel
theorem dX2_challenge_16 : decode cX2_challenge 16 = .ok (.iload_n 3, 1) := by decide +kernel
theorem dX2_challenge_17 : decode cX2_challenge 17 = .ok (.i2l, 1) := by decide +kernel
theorem dX2_challenge_18 : decode cX2_challenge 18 = .ok (.invokestatic 15, 3) := by decide +kernel
theorem dX2_challenge_21 : decode cX2_challenge 21 = .ok (.iload 4, 2) := by decide +kernel
theorem dX2_challenge_23 : decode cX2_challenge 23 = .ok (.i2l, 1) := by decide +kernel
theorem dX2_challenge_24 : decode cX2_challenge 24 = .ok (.invokestatic 15, 3) := by decide +kernel
theorem dX2_challenge_27 : decode cX2_challenge 27 = .ok (.invokestatic 23, 3) := by decide +kernel
theorem dX2_challenge_30 : decode cX2_challenge 30 = .ok (.ireturn, 1) := by decide +kernel
theorem dX3_isNumber_0 : decode cX3_isNumber 0 = .ok (.iload_n 0, 1) := by decide +kernel
theorem dX3_isNumber_1 : decode cX3_isNumber 1 = .ok (.ifCond .lt 14, 3) := by decide +kernel
theorem dX3_isNumber_4 : decode cX3_isNumber 4 = .ok (.iload_n 0, 1) := by decide +kernel
theorem dX3_isNumber_5 : decode cX3_isNumber 5 = .ok (.sipush 2039, 3) := by decide +kernel
theorem dX3_isNumber_8 : decode cX3_isNumber 8 = .ok (.if_icmp .ge 7, 3) := by decide +kernel
theorem dX3_isNumber_11 : decode cX3_isNumber 11 = .ok (.iconst 1, 1) := by decide +kernel
theorem dX3_isNumber_12 : decode cX3_isNumber 12 = .ok (.goto 4, 3) := by decide +kernel
theorem dX3_isNumber_15 : decode cX3_isNumber 15 = .ok (.iconst 0, 1) := by decide +kernel
theorem dX3_isNumber_16 : decode cX3_isNumber 16 = .ok (.ireturn, 1) := by decide +kernel
set_option maxRecDepth 20000 in
theorem ggX3_isElement_X3_power : GoodIn wsX3_isElement wsX3_power := goodIn_r _ [4] rfl (by decide +kernel)
set_option maxRecDepth 20000 in
theorem gX3_isElement_X3_power : GoodIn wsX3_isElement (va_wsS RX3 9 yX3_power wsX3_power) := goodIn_app (goodIn_r _ [1, 2, 3] rfl (by decide +kernel)) ggX3_isElement_X3_power
theorem dX3_isElement_0 : decode cX3_isElement 0 = .ok (.iload_n 0, 1) := by decide +kernel
theorem dX3_isElement_1 : decode cX3_isElement 1 = .ok (.iconst 1, 1) := by decide +kernel
theorem dX3_isElement_2 : decode cX3_isElement 2 = .ok (.if_icmp .lt 25, 3) := by decide +kernel
theorem dX3_isElement_5 : decode cX3_isElement 5 = .ok (.iload_n 0, 1) := by decide +kernel
theorem dX3_isElement_6 : decode cX3_isElement 6 = .ok (.sipush 4079, 3) := by decide +kernel
theorem dX3_isElement_9 : decode cX3_isElement 9 = .ok (.if_icmp .ge 18, 3) := by decide +kernel
theorem dX3_isElement_12 : decode cX3_isElement 12 = .ok (.iload_n 0, 1) := by decide +kernel
theorem dX3_isElement_13 : decode cX3_isElement 13 = .ok (.sipush 2039, 3) := by decide +kernel
theorem dX3_isElement_16 : decode cX3_isElement 16 = .ok (.invokestatic 9, 3) := by decide +kernel
theorem dX3_isElement_19 : decode cX3_isElement 19 = .ok (.iconst 1, 1) := by decide +kernel
theorem dX3_isElement_20 : decode cX3_isElement 20 = .ok (.if_icmp .ne 7, 3) := by decide +kernel
theorem dX3_isElement_23 : decode cX3_isElement 23 = .ok (.iconst 1, 1) := by decide +kernel
theorem dX3_isElement_24 : decode cX3_isElement 24 = .ok (.goto 4, 3) := by decide +kernel
theorem dX3_isElement_27 : decode cX3_isElement 27 = .ok (.iconst 0, 1) := by decide +kernel
theorem dX3_isElement_28 : decode cX3_isElement 28 = .ok (.ireturn, 1) := by decide +kernel
theorem dX3_times_0 : decode cX3_times 0 = .ok (.iload_n 0, 1) := by decide +kernel
theorem dX3_times_1 : decode cX3_times 1 = .ok (.iload_n 1, 1) := by decide +kernel
theorem dX3_times_2 : decode cX3_times 2 = .ok (.imul, 1) := by decide +kernel
theorem dX3_times_3 : decode cX3_times 3 = .ok (.sipush 4079, 3) := by decide +kernel
theorem dX3_times_6 : decode cX3_times 6 = .ok (.irem, 1) := by decide +kernel
theorem dX3_times_7 : decode cX3_times 7 = .ok (.ireturn, 1) := by decide +kernel
theorem dX3_power_0 : decode cX3_power 0 = .ok (.iconst 1, 1) := by decide +kernel
theorem dX3_power_1 : decode cX3_power 1 = .ok (.istore_n 2, 1) := by decide +kernel
theorem dX3_power_2 : decode cX3_power 2 = .ok (.iload_n 0, 1) := by decide +kernel
theorem dX3_power_3 : decode cX3_power 3 = .ok (.istore_n 3, 1) := by decide +kernel
theorem dX3_power_4 : decode cX3_power 4 = .ok (.iload_n 1, 1) := by decide +kernel
theorem dX3_power_5 : decode cX3_power 5 = .ok (.istore 4, 2) := by decide +kernel
theorem dX3_power_7 : decode cX3_power 7 = .ok (.iload 4, 2) := by decide +kernel
theorem dX3_power_9 : decode cX3_power 9 = .ok (.ifCond .le 36, 3) := by decide +kernel
theorem dX3_power_12 : decode cX3_power 12 = .ok (.iload 4, 2) := by decide +kernel
theorem dX3_power_14 : decode cX3_power 14 = .ok (.iconst 1, 1) := by decide +kernel
theorem dX3_power_15 : decode cX3_power 15 = .ok (.iand, 1) := by decide +kernel
theorem dX3_power_16 : decode cX3_power 16 = .ok (.iconst 1, 1) := by decide +kernel
theorem dX3_power_17 : decode cX3_power 17 = .ok (.if_icmp .ne 11, 3) := by decide +kernel
theorem dX3_power_20 : decode cX3_power 20 = .ok (.iload_n 2, 1) := by decide +kernel
theorem dX3_power_21 : decode cX3_power 21 = .ok (.iload_n 3, 1) := by decide +kernel
theorem dX3_power_22 : decode cX3_power 22 = .ok (.imul, 1) := by decide +kernel
theorem dX3_power_23 : decode cX3_power 23 = .ok (.sipush 4079, 3) := by decide +kernel
theorem dX3_power_26 : decode cX3_power 26 = .ok (.irem, 1) := by decide +kernel
theorem dX3_power_27 : decode cX3_power 27 = .ok (.istore_n 2, 1) := by decide +kernel
theorem dX3_power_28 : decode cX3_power 28 = .ok (.iload_n 3, 1) := by decide +kernel
theorem dX3_power_29 : decode cX3_power 29 = .ok (.iload_n 3, 1) := by decide +kernel
theorem dX3_power_30 : decode cX3_power 30 = .ok (.imul, 1) := by decide +kernel
theorem dX3_power_31 : decode cX3_power 31 = .ok (.sipush 4079, 3) := by decide +kernel
theorem dX3_power_34 : decode cX3_power 34 = .ok (.irem, 1) := by decide +kernel
theorem dX3_power_35 : decode cX3_power 35 = .ok (.istore_n 3, 1) := by decide +kernel
theorem dX3_power_36 : decode cX3_power 36 = .ok (.iload 4, 2) := by decide +kernel
theorem dX3_power_38 : decode cX3_power 38 = .ok (.iconst 1, 1) := by decide +kernel
theorem dX3_power_39 : decode cX3_power 39 = .ok (.ishr, 1) := by decide +kernel
theorem dX3_power_40 : decode cX3_power 40 = .ok (.istore 4, 2) := by decide +kernel
theorem dX3_power_42 : decode cX3_power 42 = .ok (.goto (-35), 3) := by decide +kernel
theorem dX3_power_45 : decode cX3_power 45 = .ok (.iload_n 2, 1) := by decide +kernel
theorem dX3_power_46 : decode cX3_power 46 = .ok (.ireturn, 1) := by decide +kernel
set_option maxRecDepth 20000 in
theorem ggX3_ofBase_X3_power : GoodIn wsX3_ofBase wsX3_power := goodIn_r _ [4] rfl (by decide +kernel)
set_option maxRecDepth 20000 in
theorem gX3_ofBase_X3_power : GoodIn wsX3_ofBase (va_wsS RX3 9 yX3_power wsX3_power) := goodIn_app (goodIn_r _ [1, 2, 3] rfl (by decide +kernel)) ggX3_ofBase_X3_power
theorem dX3_ofBase_0 : decode cX3_ofBase 0 = .ok (.iconst 4, 1) := by decide +kernel
theorem dX3_ofBase_1 : decode cX3_ofBase 1 = .ok (.iload_n 0, 1) := by decide +kernel
theorem dX3_ofBase_2 : decode cX3_ofBase 2 = .ok (.invokestatic 9, 3) := by decide +kernel
theorem dX3_ofBase_5 : decode cX3_ofBase 5 = .ok (.ireturn, 1) := by decide +kernel
set_option maxRecDepth 20000 in
theorem ggX3_inverse_X3_power : GoodIn wsX3_inverse wsX3_power := goodIn_r _ [4] rfl (by decide +kernel)
set_option maxRecDepth 20000 in
theorem gX3_inverse_X3_power : GoodIn wsX3_inverse (va_wsS RX3 9 yX3_power wsX3_power) := goodIn_app (goodIn_r _ [1, 2, 3] rfl (by decide +kernel)) ggX3_inverse_X3_power
theorem dX3_inverse_0 : decode cX3_inverse 0 = .ok (.iload_n 0, 1) := by decide +kernel
theorem dX3_inverse_1 : decode cX3_inverse 1 = .ok (.sipush 2038, 3) := by decide +kernel
theorem dX3_inverse_4 : decode cX3_inverse 4 = .ok (.invokestatic 9, 3) := by decide +kernel
theorem dX3_inverse_7 : decode cX3_inverse 7 = .ok (.ireturn, 1) := by decide +kernel
theorem dX4_init_0 : decode cX4_init 0 = .ok (.aload_n 0, 1) := by decide +kernel
theorem dX4_init_1 : decode cX4_init 1 = .ok (.invokespecial 3, 3) := by decide +kernel
theorem dX4_init_4 : decode cX4_init 4 = .ok (.aload_n 0, 1) := by decide +kernel
theorem dX4_init_5 : decode cX4_init 5 = .ok (.iconst 3, 1) := by decide +kernel
theorem dX4_init_6 : decode cX4_init 6 = .ok (.newarray .int, 2) := by decide +kernel
theorem dX4_init_8 : decode cX4_init 8 = .ok (.putfield 9, 3) := by decide +kernel
theorem dX4_init_11 : decode cX4_init 11 = .ok (.aload_n 0, 1) := by decide +kernel
theorem dX4_init_12 : decode cX4_init 12 = .ok (.bipush 10, 2) := by decide +kernel
theorem dX4_init_14 : decode cX4_init 14 = .ok (.newarray .boolean, 2) := by decide +kernel
theorem dX4_init_16 : decode cX4_init 16 = .ok (.putfield 15, 3) := by decide +kernel
theorem dX4_init_19 : decode cX4_init 19 = .ok (.aload_n 0, 1) := by decide +kernel
theorem dX4_init_20 : decode cX4_init 20 = .ok (.bipush 10, 2) := by decide +kernel
theorem dX4_init_22 : decode cX4_init 22 = .ok (.newarray .boolean, 2) := by decide +kernel
theorem dX4_init_24 : decode cX4_init 24 = .ok (.putfield 19, 3) := by decide +kernel
theorem dX4_init_27 : decode cX4_init 27 = .ok (.aload_n 0, 1) := by decide +kernel
theorem dX4_init_28 : decode cX4_init 28 = .ok (.bipush 10, 2) := by decide +kernel
theorem dX4_init_30 : decode cX4_init 30 = .ok (.newarray .int, 2) := by decide +kernel
theorem dX4_init_32 : decode cX4_init 32 = .ok (.putfield 22, 3) := by decide +kernel
theorem dX4_init_35 : decode cX4_init 35 = .ok (.aload_n 0, 1) := by decide +kernel
theorem dX4_init_36 : decode cX4_init 36 = .ok (.bipush 10, 2) := by decide +kernel
theorem dX4_init_38 : decode cX4_init 38 = .ok (.newarray .int, 2) := by decide +kernel
theorem dX4_init_40 : decode cX4_init 40 = .ok (.putfield 25, 3) := by decide +kernel
theorem dX4_init_43 : decode cX4_init 43 = .ok (.aload_n 0, 1) := by decide +kernel
theorem dX4_init_44 : decode cX4_init 44 = .ok (.bipush 10, 2) := by decide +kernel
theorem dX4_init_46 : decode cX4_init 46 = .ok (.newarray .int, 2) := by decide +kernel
theorem dX4_init_48 : decode cX4_init 48 = .ok (.putfield 28, 3) := by decide +kernel
theorem dX4_init_51 : decode cX4_init 51 = .ok (.aload_n 0, 1) := by decide +kernel
theorem dX4_init_52 : decode cX4_init 52 = .ok (.bipush 10, 2) := by decide +kernel
theorem dX4_init_54 : decode cX4_init 54 = .ok (.newarray .int, 2) := by decide +kernel
theorem dX4_init_56 : decode cX4_init 56 = .ok (.putfield 31, 3) := by decide +kernel
theorem dX4_init_59 : decode cX4_init 59 = .ok (.aload_n 0, 1) := by decide +kernel
theorem dX4_init_60 : decode cX4_init 60 = .ok (.bipush 10, 2) := by decide +kernel
theorem dX4_init_62 : decode cX4_init 62 = .ok (.newarray .int, 2) := by decide +kernel
theorem dX4_init_64 : decode cX4_init 64 = .ok (.putfield 34, 3) := by decide +kernel
theorem dX4_init_67 : decode cX4_init 67 = .ok (.aload_n 0, 1) := by decide +kernel
theorem dX4_init_68 : decode cX4_init 68 = .ok (.bipush 10, 2) := by decide +kernel
theorem dX4_init_70 : decode cX4_init 70 = .ok (.newarray .int, 2) := by decide +kernel
theorem dX4_init_72 : decode cX4_init 72 = .ok (.putfield 37, 3) := by decide +kernel
theorem dX4_init_75 : decode cX4_init 75 = .ok (.aload_n 0, 1) := by decide +kernel
theorem dX4_init_76 : decode cX4_init 76 = .ok (.bipush 10, 2) := by decide +kernel
theorem dX4_init_78 : decode cX4_init 78 = .ok (.newarray .boolean, 2) := by decide +kernel
theorem dX4_init_80 : decode cX4_init 80 = .ok (.putfield 40, 3) := by decide +kernel
theorem dX4_init_83 : decode cX4_init 83 = .ok (.aload_n 0, 1) := by decide +kernel
theorem dX4_init_84 : decode cX4_init 84 = .ok (.bipush 10, 2) := by decide +kernel
theorem dX4_init_86 : decode cX4_init 86 = .ok (.newarray .int, 2) := by decide +kernel
theorem dX4_init_88 : decode cX4_init 88 = .ok (.putfield 43, 3) := by decide +kernel
theorem dX4_init_91 : decode cX4_init 91 = .ok (.aload_n 0, 1) := by decide +kernel
theorem dX4_init_92 : decode cX4_init 92 = .ok (.iconst 3, 1) := by decide +kernel
theorem dX4_init_93 : decode cX4_init 93 = .ok (.newarray .boolean, 2) := by decide +kernel
theorem dX4_init_95 : decode cX4_init 95 = .ok (.putfield 46, 3) := by decide +kernel
theorem dX4_init_98 : decode cX4_init 98 = .ok (.aload_n 0, 1) := by decide +kernel
theorem dX4_init_99 : decode cX4_init 99 = .ok (.iconst 4, 1) := by decide +kernel
theorem dX4_init_100 : decode cX4_init 100 = .ok (.newarray .int, 2) := by decide +kernel
theorem dX4_init_102 : decode cX4_init 102 = .ok (.putfield 49, 3) := by decide +kernel
theorem dX4_init_105 : decode cX4_init 105 = .ok (.return_, 1) := by decide +kernel
set_option maxRecDepth 20000 in
theorem ggX4_start_X3_times : GoodIn wsX4_start wsX3_times := goodIn_r _ [9] rfl (by decide +kernel)
set_option maxRecDepth 20000 in
theorem gX4_start_X3_times : GoodIn wsX4_start (va_wsS RX4 52 yX3_times wsX3_times) := goodIn_app (goodIn_r _ [6, 7, 8] rfl (by decide +kernel)) ggX4_start_X3_times
theorem dX4_start_0 : decode cX4_start 0 = .ok (.aload_n 0, 1) := by decide +kernel
theorem dX4_start_1 : decode cX4_start 1 = .ok (.getfield 9, 3) := by decide +kernel
theorem dX4_start_4 : decode cX4_start 4 = .ok (.iconst 0, 1) := by decide +kernel
theorem dX4_start_5 : decode cX4_start 5 = .ok (.iload_n 1, 1) := by decide +kernel
theorem dX4_start_6 : decode cX4_start 6 = .ok (.iastore, 1) := by decide +kernel
theorem dX4_start_7 : decode cX4_start 7 = .ok (.aload_n 0, 1) := by decide +kernel
theorem dX4_start_8 : decode cX4_start 8 = .ok (.getfield 9, 3) := by decide +kernel
theorem dX4_start_11 : decode cX4_start 11 = .ok (.iconst 1, 1) := by decide +kernel
theorem dX4_start_12 : decode cX4_start 12 = .ok (.iload_n 2, 1) := by decide +kernel
theorem dX4_start_13 : decode cX4_start 13 = .ok (.iastore, 1) := by decide +kernel
theorem dX4_start_14 : decode cX4_start 14 = .ok (.aload_n 0, 1) := by decide +kernel
theorem dX4_start_15 : decode cX4_start 15 = .ok (.getfield 9, 3) := by decide +kernel
theorem dX4_start_18 : decode cX4_start 18 = .ok (.iconst 2, 1) := by decide +kernel
theorem dX4_start_19 : decode cX4_start 19 = .ok (.iload_n 3, 1) := by decide +kernel
theorem dX4_start_20 : decode cX4_start 20 = .ok (.iastore, 1) := by decide +kernel
theorem dX4_start_21 : decode cX4_start 21 = .ok (.aload_n 0, 1) := by decide +kernel
theorem dX4_start_22 : decode cX4_start 22 = .ok (.iload_n 1, 1) := by decide +kernel
theorem dX4_start_23 : decode cX4_start 23 = .ok (.iload_n 2, 1) := by decide +kernel
theorem dX4_start_24 : decode cX4_start 24 = .ok (.invokestatic 52, 3) := by decide +kernel
theorem dX4_start_27 : decode cX4_start 27 = .ok (.iload_n 3, 1) := by decide +kernel
theorem dX4_start_28 : decode cX4_start 28 = .ok (.invokestatic 52, 3) := by decide +kernel
theorem dX4_start_31 : decode cX4_start 31 = .ok (.putfield 58, 3) := by decide +kernel
theorem dX4_start_34 : decode cX4_start 34 = .ok (.iconst 0, 1) := by decide +kernel
theorem dX4_start_35 : decode cX4_start 35 = .ok (.istore 4, 2) := by decide +kernel
theorem dX4_start_37 : decode cX4_start 37 = .ok (.iload 4, 2) := by decide +kernel
theorem dX4_start_39 : decode cX4_start 39 = .ok (.bipush 10, 2) := by decide +kernel
theorem dX4_start_41 : decode cX4_start 41 = .ok (.if_icmp .ge 25, 3) := by decide +kernel
theorem dX4_start_44 : decode cX4_start 44 = .ok (.aload_n 0, 1) := by decide +kernel
theorem dX4_start_45 : decode cX4_start 45 = .ok (.getfield 15, 3) := by decide +kernel
theorem dX4_start_48 : decode cX4_start 48 = .ok (.iload 4, 2) := by decide +kernel
theorem dX4_start_50 : decode cX4_start 50 = .ok (.iconst 0, 1) := by decide +kernel
theorem dX4_start_51 : decode cX4_start 51 = .ok (.bastore, 1) := by decide +kernel
theorem dX4_start_52 : decode cX4_start 52 = .ok (.aload_n 0, 1) := by decide +kernel
theorem dX4_start_53 : decode cX4_start 53 = .ok (.getfield 19, 3) := by decide +kernel
theorem dX4_start_56 : decode cX4_start 56 = .ok (.iload 4, 2) := by decide +kernel
theorem dX4_start_58 : decode cX4_start 58 = .ok (.iconst 0, 1) := by decide +kernel
theorem dX4_start_59 : decode cX4_start 59 = .ok (.bastore, 1) := by decide +kernel
theorem dX4_start_60 : decode cX4_start 60 = .ok (.iinc 4 1, 3) := by decide +kernel
theorem dX4_start_63 : decode cX4_start 63 = .ok (.goto (-26), 3) := by decide +kernel
theorem dX4_start_66 : decode cX4_start 66 = .ok (.iconst 0, 1) := by decide +kernel
theorem dX4_start_67 : decode cX4_start 67 = .ok (.istore 4, 2) := by decide +kernel
theorem dX4_start_69 : decode cX4_start 69 = .ok (.iload 4, 2) := by decide +kernel
theorem dX4_start_71 : decode cX4_start 71 = .ok (.iconst 3, 1) := by decide +kernel
theorem dX4_start_72 : decode cX4_start 72 = .ok (.if_icmp .ge 17, 3) := by decide +kernel
theorem dX4_start_75 : decode cX4_start 75 = .ok (.aload_n 0, 1) := by decide +kernel
theorem dX4_start_76 : decode cX4_start 76 = .ok (.getfield 46, 3) := by decide +kernel
theorem dX4_start_79 : decode cX4_start 79 = .ok (.iload 4, 2) := by decide +kernel
theorem dX4_start_81 : decode cX4_start 81 = .ok (.iconst 0, 1) := by decide +kernel
theorem dX4_start_82 : decode cX4_start 82 = .ok (.bastore, 1) := by decide +kernel
theorem dX4_start_83 : decode cX4_start 83 = .ok (.iinc 4 1, 3) := by decide +kernel
theorem dX4_start_86 : decode cX4_start 86 = .ok (.goto (-17), 3) := by decide +kernel
theorem dX4_start_89 : decode cX4_start 89 = .ok (.return_, 1) := by decide +kernel
theorem dX4_keepBallot_0 : decode cX4_keepBallot 0 = .ok (.aload_n 0, 1) := by decide +kernel
theorem dX4_keepBallot_1 : decode cX4_keepBallot 1 = .ok (.getfield 19, 3) := by decide +kernel
theorem dX4_keepBallot_4 : decode cX4_keepBallot 4 = .ok (.iload_n 1, 1) := by decide +kernel
theorem dX4_keepBallot_5 : decode cX4_keepBallot 5 = .ok (.iconst 1, 1) := by decide +kernel
theorem dX4_keepBallot_6 : decode cX4_keepBallot 6 = .ok (.bastore, 1) := by decide +kernel
theorem dX4_keepBallot_7 : decode cX4_keepBallot 7 = .ok (.aload_n 0, 1) := by decide +kernel
theorem dX4_keepBallot_8 : decode cX4_keepBallot 8 = .ok (.getfield 22, 3) := by decide +kernel
theorem dX4_keepBallot_11 : decode cX4_keepBallot 11 = .ok (.iload_n 1, 1) := by decide +kernel
theorem dX4_keepBallot_12 : decode cX4_keepBallot 12 = .ok (.iload_n 2, 1) := by decide +kernel
theorem dX4_keepBallot_13 : decode cX4_keepBallot 13 = .ok (.iastore, 1) := by decide +kernel
theorem dX4_keepBallot_14 : decode cX4_keepBallot 14 = .ok (.aload_n 0, 1) := by decide +kernel
theorem dX4_keepBallot_15 : decode cX4_keepBallot 15 = .ok (.getfield 25, 3) := by decide +kernel
theorem dX4_keepBallot_18 : decode cX4_keepBallot 18 = .ok (.iload_n 1, 1) := by decide +kernel
theorem dX4_keepBallot_19 : decode cX4_keepBallot 19 = .ok (.iload_n 3, 1) := by decide +kernel
theorem dX4_keepBallot_20 : decode cX4_keepBallot 20 = .ok (.iastore, 1) := by decide +kernel
theorem dX4_keepBallot_21 : decode cX4_keepBallot 21 = .ok (.return_, 1) := by decide +kernel
theorem dX4_ballotVoters_0 : decode cX4_ballotVoters 0 = .ok (.iconst 0, 1) := by decide +kernel
theorem dX4_ballotVoters_1 : decode cX4_ballotVoters 1 = .ok (.istore_n 1, 1) := by decide +kernel
theorem dX4_ballotVoters_2 : decode cX4_ballotVoters 2 = .ok (.iconst 0, 1) := by decide +kernel
theorem dX4_ballotVoters_3 : decode cX4_ballotVoters 3 = .ok (.istore_n 2, 1) := by decide +kernel
theorem dX4_ballotVoters_4 : decode cX4_ballotVoters 4 = .ok (.iload_n 2, 1) := by decide +kernel
theorem dX4_ballotVoters_5 : decode cX4_ballotVoters 5 = .ok (.bipush 10, 2) := by decide +kernel
theorem dX4_ballotVoters_7 : decode cX4_ballotVoters 7 = .ok (.if_icmp .ge 21, 3) := by decide +kernel
theorem dX4_ballotVoters_10 : decode cX4_ballotVoters 10 = .ok (.aload_n 0, 1) := by decide +kernel
theorem dX4_ballotVoters_11 : decode cX4_ballotVoters 11 = .ok (.getfield 19, 3) := by decide +kernel
theorem dX4_ballotVoters_14 : decode cX4_ballotVoters 14 = .ok (.iload_n 2, 1) := by decide +kernel
theorem dX4_ballotVoters_15 : decode cX4_ballotVoters 15 = .ok (.baload, 1) := by decide +kernel
theorem dX4_ballotVoters_16 : decode cX4_ballotVoters 16 = .ok (.ifCond .eq 6, 3) := by decide +kernel
theorem dX4_ballotVoters_19 : decode cX4_ballotVoters 19 = .ok (.iinc 1 1, 3) := by decide +kernel
theorem dX4_ballotVoters_22 : decode cX4_ballotVoters 22 = .ok (.iinc 2 1, 3) := by decide +kernel
theorem dX4_ballotVoters_25 : decode cX4_ballotVoters 25 = .ok (.goto (-21), 3) := by decide +kernel
theorem dX4_ballotVoters_28 : decode cX4_ballotVoters 28 = .ok (.iload_n 1, 1) := by decide +kernel
theorem dX4_ballotVoters_29 : decode cX4_ballotVoters 29 = .ok (.ireturn, 1) := by decide +kernel
theorem dX4_gatherEntries_0 : decode cX4_gatherEntries 0 = .ok (.aload_n 0, 1) := by decide +kernel
theorem dX4_gatherEntries_1 : decode cX4_gatherEntries 1 = .ok (.iconst 0, 1) := by decide +kernel
theorem dX4_gatherEntries_2 : decode cX4_gatherEntries 2 = .ok (.putfield 62, 3) := by decide +kernel
theorem dX4_gatherEntries_5 : decode cX4_gatherEntries 5 = .ok (.iconst 0, 1) := by decide +kernel
theorem dX4_gatherEntries_6 : decode cX4_gatherEntries 6 = .ok (.istore_n 1, 1) := by decide +kernel
theorem dX4_gatherEntries_7 : decode cX4_gatherEntries 7 = .ok (.iload_n 1, 1) := by decide +kernel
theorem dX4_gatherEntries_8 : decode cX4_gatherEntries 8 = .ok (.bipush 10, 2) := by decide +kernel
theorem dX4_gatherEntries_10 : decode cX4_gatherEntries 10 = .ok (.if_icmp .ge 68, 3) := by decide +kernel
theorem dX4_gatherEntries_13 : decode cX4_gatherEntries 13 = .ok (.aload_n 0, 1) := by decide +kernel
theorem dX4_gatherEntries_14 : decode cX4_gatherEntries 14 = .ok (.getfield 19, 3) := by decide +kernel
theorem dX4_gatherEntries_17 : decode cX4_gatherEntries 17 = .ok (.iload_n 1, 1) := by decide +kernel
theorem dX4_gatherEntries_18 : decode cX4_gatherEntries 18 = .ok (.baload, 1) := by decide +kernel
theorem dX4_gatherEntries_19 : decode cX4_gatherEntries 19 = .ok (.ifCond .eq 53, 3) := by decide +kernel
theorem dX4_gatherEntries_22 : decode cX4_gatherEntries 22 = .ok (.aload_n 0, 1) := by decide +kernel
theorem dX4_gatherEntries_23 : decode cX4_gatherEntries 23 = .ok (.getfield 28, 3) := by decide +kernel
theorem dX4_gatherEntries_26 : decode cX4_gatherEntries 26 = .ok (.aload_n 0, 1) := by decide +kernel
theorem dX4_gatherEntries_27 : decode cX4_gatherEntries 27 = .ok (.getfield 62, 3) := by decide +kernel
theorem dX4_gatherEntries_30 : decode cX4_gatherEntries 30 = .ok (.aload_n 0, 1) := by decide +kernel
theorem dX4_gatherEntries_31 : decode cX4_gatherEntries 31 = .ok (.getfield 22, 3) := by decide +kernel
theorem dX4_gatherEntries_34 : decode cX4_gatherEntries 34 = .ok (.iload_n 1, 1) := by decide +kernel
theorem dX4_gatherEntries_35 : decode cX4_gatherEntries 35 = .ok (.iaload, 1) := by decide +kernel
theorem dX4_gatherEntries_36 : decode cX4_gatherEntries 36 = .ok (.iastore, 1) := by decide +kernel
theorem dX4_gatherEntries_37 : decode cX4_gatherEntries 37 = .ok (.aload_n 0, 1) := by decide +kernel
theorem dX4_gatherEntries_38 : decode cX4_gatherEntries 38 = .ok (.getfield 31, 3) := by decide +kernel
theorem dX4_gatherEntries_41 : decode cX4_gatherEntries 41 = .ok (.aload_n 0, 1) := by decide +kernel
theorem dX4_gatherEntries_42 : decode cX4_gatherEntries 42 = .ok (.getfield 62, 3) := by decide +kernel
theorem dX4_gatherEntries_45 : decode cX4_gatherEntries 45 = .ok (.aload_n 0, 1) := by decide +kernel
theorem dX4_gatherEntries_46 : decode cX4_gatherEntries 46 = .ok (.getfield 25, 3) := by decide +kernel
theorem dX4_gatherEntries_49 : decode cX4_gatherEntries 49 = .ok (.iload_n 1, 1) := by decide +kernel
theorem dX4_gatherEntries_50 : decode cX4_gatherEntries 50 = .ok (.iaload, 1) := by decide +kernel
theorem dX4_gatherEntries_51 : decode cX4_gatherEntries 51 = .ok (.iastore, 1) := by decide +kernel
theorem dX4_gatherEntries_52 : decode cX4_gatherEntries 52 = .ok (.aload_n 0, 1) := by decide +kernel
theorem dX4_gatherEntries_53 : decode cX4_gatherEntries 53 = .ok (.getfield 43, 3) := by decide +kernel
theorem dX4_gatherEntries_56 : decode cX4_gatherEntries 56 = .ok (.aload_n 0, 1) := by decide +kernel
theorem dX4_gatherEntries_57 : decode cX4_gatherEntries 57 = .ok (.getfield 62, 3) := by decide +kernel
theorem dX4_gatherEntries_60 : decode cX4_gatherEntries 60 = .ok (.iconst 1, 1) := by decide +kernel
theorem dX4_gatherEntries_61 : decode cX4_gatherEntries 61 = .ok (.iastore, 1) := by decide +kernel
theorem dX4_gatherEntries_62 : decode cX4_gatherEntries 62 = .ok (.aload_n 0, 1) := by decide +kernel
theorem dX4_gatherEntries_63 : decode cX4_gatherEntries 63 = .ok (.dup, 1) := by decide +kernel
theorem dX4_gatherEntries_64 : decode cX4_gatherEntries 64 = .ok (.getfield 62, 3) := by decide +kernel
theorem dX4_gatherEntries_67 : decode cX4_gatherEntries 67 = .ok (.iconst 1, 1) := by decide +kernel
theorem dX4_gatherEntries_68 : decode cX4_gatherEntries 68 = .ok (.iadd, 1) := by decide +kernel
theorem dX4_gatherEntries_69 : decode cX4_gatherEntries 69 = .ok (.putfield 62, 3) := by decide +kernel
theorem dX4_gatherEntries_72 : decode cX4_gatherEntries 72 = .ok (.iinc 1 1, 3) := by decide +kernel
theorem dX4_gatherEntries_75 : decode cX4_gatherEntries 75 = .ok (.goto (-68), 3) := by decide +kernel
theorem dX4_gatherEntries_78 : decode cX4_gatherEntries 78 = .ok (.return_, 1) := by decide +kernel
theorem dX4_isOrder_0 : decode cX4_isOrder 0 = .ok (.iconst 1, 1) := by decide +kernel
theorem dX4_isOrder_1 : decode cX4_isOrder 1 = .ok (.istore_n 2, 1) := by decide +kernel
theorem dX4_isOrder_2 : decode cX4_isOrder 2 = .ok (.iconst 2, 1) := by decide +kernel
theorem dX4_isOrder_3 : decode cX4_isOrder 3 = .ok (.istore_n 3, 1) := by decide +kernel
theorem dX4_isOrder_4 : decode cX4_isOrder 4 = .ok (.iload_n 3, 1) := by decide +kernel
theorem dX4_isOrder_5 : decode cX4_isOrder 5 = .ok (.aload_n 0, 1) := by decide +kernel
theorem dX4_isOrder_6 : decode cX4_isOrder 6 = .ok (.getfield 62, 3) := by decide +kernel
theorem dX4_isOrder_9 : decode cX4_isOrder 9 = .ok (.if_icmp .gt 13, 3) := by decide +kernel
theorem dX4_isOrder_12 : decode cX4_isOrder 12 = .ok (.iload_n 2, 1) := by decide +kernel
theorem dX4_isOrder_13 : decode cX4_isOrder 13 = .ok (.iload_n 3, 1) := by decide +kernel
theorem dX4_isOrder_14 : decode cX4_isOrder 14 = .ok (.imul, 1) := by decide +kernel
theorem dX4_isOrder_15 : decode cX4_isOrder 15 = .ok (.istore_n 2, 1) := by decide +kernel
theorem dX4_isOrder_16 : decode cX4_isOrder 16 = .ok (.iinc 3 1, 3) := by decide +kernel
theorem dX4_isOrder_19 : decode cX4_isOrder 19 = .ok (.goto (-15), 3) := by decide +kernel
theorem dX4_isOrder_22 : decode cX4_isOrder 22 = .ok (.iload_n 1, 1) := by decide +kernel
theorem dX4_isOrder_23 : decode cX4_isOrder 23 = .ok (.ifCond .lt 12, 3) := by decide +kernel
theorem dX4_isOrder_26 : decode cX4_isOrder 26 = .ok (.iload_n 1, 1) := by decide +kernel
theorem dX4_isOrder_27 : decode cX4_isOrder 27 = .ok (.iload_n 2, 1) := by decide +kernel
theorem dX4_isOrder_28 : decode cX4_isOrder 28 = .ok (.if_icmp .ge 7, 3) := by decide +kernel
theorem dX4_isOrder_31 : decode cX4_isOrder 31 = .ok (.iconst 1, 1) := by decide +kernel
theorem dX4_isOrder_32 : decode cX4_isOrder 32 = .ok (.goto 4, 3) := by decide +kernel
theorem dX4_isOrder_35 : decode cX4_isOrder 35 = .ok (.iconst 0, 1) := by decide +kernel
theorem dX4_isOrder_36 : decode cX4_isOrder 36 = .ok (.ireturn, 1) := by decide +kernel
set_option maxRecDepth 20000 in
theorem ggX4_mixEntries_X4_takeEntry : GoodIn wsX4_mixEntries wsX4_takeEntry := goodIn_r _ [12, 1, 6, 33, 34, 35, 36, 37, 38, 39, 40, 41, 42, 43, 44, 45, 46, 47] rfl (by decide +kernel)
set_option maxRecDepth 20000 in
theorem gX4_mixEntries_X4_takeEntry : GoodIn wsX4_mixEntries (wsV RX4 65 RX4 yX4_takeEntry wsX4_takeEntry) := goodIn_app (goodIn_r _ [8, 9, 10, 11] rfl (by decide +kernel)) ggX4_mixEntries_X4_takeEntry
set_option maxRecDepth 20000 in
theorem ggX4_mixEntries_X2_with : GoodIn wsX4_mixEntries wsX2_with := goodIn_r _ [16, 17] rfl (by decide +kernel)
set_option maxRecDepth 20000 in
theorem gX4_mixEntries_X2_with : GoodIn wsX4_mixEntries (va_wsS RX4 69 yX2_with wsX2_with) := goodIn_app (goodIn_r _ [13, 14, 15] rfl (by decide +kernel)) ggX4_mixEntries_X2_with
set_option maxRecDepth 20000 in
theorem ggX4_mixEntries_X2_number : GoodIn wsX4_mixEntries wsX2_number := goodIn_r _ [20, 21] rfl (by decide +kernel)
set_option maxRecDepth 20000 in
theorem gX4_mixEntries_X2_number : GoodIn wsX4_mixEntries (va_wsS RX4 75 yX2_number wsX2_number) := goodIn_app (goodIn_r _ [18, 19, 15] rfl (by decide +kernel)) ggX4_mixEntries_X2_number
set_option maxRecDepth 20000 in
theorem ggX4_mixEntries_X3_ofBase : GoodIn wsX4_mixEntries wsX3_ofBase := goodIn_r _ [25, 26, 27, 24, 28] rfl (by decide +kernel)
set_option maxRecDepth 20000 in
theorem gX4_mixEntries_X3_ofBase : GoodIn wsX4_mixEntries (va_wsS RX4 79 yX3_ofBase wsX3_ofBase) := goodIn_app (goodIn_r _ [22, 23, 24] rfl (by decide +kernel)) ggX4_mixEntries_X3_ofBase
set_option maxRecDepth 20000 in
theorem ggX4_mixEntries_X3_times : GoodIn wsX4_mixEntries wsX3_times := goodIn_r _ [31] rfl (by decide +kernel)
set_option maxRecDepth 20000 in
theorem gX4_mixEntries_X3_times : GoodIn wsX4_mixEntries (va_wsS RX4 52 yX3_times wsX3_times) := goodIn_app (goodIn_r _ [29, 30, 24] rfl (by decide +kernel)) ggX4_mixEntries_X3_times
set_option maxRecDepth 20000 in
theorem ggX4_mixEntries_X3_power : GoodIn wsX4_mixEntries wsX3_power := goodIn_r _ [28] rfl (by decide +kernel)
set_option maxRecDepth 20000 in
theorem gX4_mixEntries_X3_power : GoodIn wsX4_mixEntries (va_wsS RX4 82 yX3_power wsX3_power) := goodIn_app (goodIn_r _ [32, 27, 24] rfl (by decide +kernel)) ggX4_mixEntries_X3_power
theorem dX4_mixEntries_0 : decode cX4_mixEntries 0 = .ok (.iconst 0, 1) := by decide +kernel
theorem dX4_mixEntries_1 : decode cX4_mixEntries 1 = .ok (.istore_n 3, 1) := by decide +kernel
theorem dX4_mixEntries_2 : decode cX4_mixEntries 2 = .ok (.iload_n 3, 1) := by decide +kernel
theorem dX4_mixEntries_3 : decode cX4_mixEntries 3 = .ok (.aload_n 0, 1) := by decide +kernel
theorem dX4_mixEntries_4 : decode cX4_mixEntries 4 = .ok (.getfield 62, 3) := by decide +kernel
theorem dX4_mixEntries_7 : decode cX4_mixEntries 7 = .ok (.if_icmp .ge 40, 3) := by decide +kernel
theorem dX4_mixEntries_10 : decode cX4_mixEntries 10 = .ok (.aload_n 0, 1) := by decide +kernel
theorem dX4_mixEntries_11 : decode cX4_mixEntries 11 = .ok (.getfield 34, 3) := by decide +kernel
theorem dX4_mixEntries_14 : decode cX4_mixEntries 14 = .ok (.iload_n 3, 1) := by decide +kernel
theorem dX4_mixEntries_15 : decode cX4_mixEntries 15 = .ok (.aload_n 0, 1) := by decide +kernel
theorem dX4_mixEntries_16 : decode cX4_mixEntries 16 = .ok (.getfield 28, 3) := by decide +kernel
theorem dX4_mixEntries_19 : decode cX4_mixEntries 19 = .ok (.iload_n 3, 1) := by decide +kernel
theorem dX4_mixEntries_20 : decode cX4_mixEntries 20 = .ok (.iaload, 1) := by decide +kernel
theorem dX4_mixEntries_21 : decode cX4_mixEntries 21 = .ok (.iastore, 1) := by decide +kernel
theorem dX4_mixEntries_22 : decode cX4_mixEntries 22 = .ok (.aload_n 0, 1) := by decide +kernel
theorem dX4_mixEntries_23 : decode cX4_mixEntries 23 = .ok (.getfield 37, 3) := by decide +kernel
theorem dX4_mixEntries_26 : decode cX4_mixEntries 26 = .ok (.iload_n 3, 1) := by decide +kernel
theorem dX4_mixEntries_27 : decode cX4_mixEntries 27 = .ok (.aload_n 0, 1) := by decide +kernel
theorem dX4_mixEntries_28 : decode cX4_mixEntries 28 = .ok (.getfield 31, 3) := by decide +kernel
theorem dX4_mixEntries_31 : decode cX4_mixEntries 31 = .ok (.iload_n 3, 1) := by decide +kernel
theorem dX4_mixEntries_32 : decode cX4_mixEntries 32 = .ok (.iaload, 1) := by decide +kernel
theorem dX4_mixEntries_33 : decode cX4_mixEntries 33 = .ok (.iastore, 1) := by decide +kernel
theorem dX4_mixEntries_34 : decode cX4_mixEntries 34 = .ok (.aload_n 0, 1) := by decide +kernel
theorem dX4_mixEntries_35 : decode cX4_mixEntries 35 = .ok (.getfield 40, 3) := by decide +kernel
theorem dX4_mixEntries_38 : decode cX4_mixEntries 38 = .ok (.iload_n 3, 1) := by decide +kernel
theorem dX4_mixEntries_39 : decode cX4_mixEntries 39 = .ok (.iconst 0, 1) := by decide +kernel
theorem dX4_mixEntries_40 : decode cX4_mixEntries 40 = .ok (.bastore, 1) := by decide +kernel
theorem dX4_mixEntries_41 : decode cX4_mixEntries 41 = .ok (.iinc 3 1, 3) := by decide +kernel
theorem dX4_mixEntries_44 : decode cX4_mixEntries 44 = .ok (.goto (-42), 3) := by decide +kernel
theorem dX4_mixEntries_47 : decode cX4_mixEntries 47 = .ok (.iload_n 2, 1) := by decide +kernel
theorem dX4_mixEntries_48 : decode cX4_mixEntries 48 = .ok (.istore_n 3, 1) := by decide +kernel
theorem dX4_mixEntries_49 : decode cX4_mixEntries 49 = .ok (.iconst 0, 1) := by decide +kernel
theorem dX4_mixEntries_50 : decode cX4_mixEntries 50 = .ok (.istore 4, 2) := by decide +kernel
theorem dX4_mixEntries_52 : decode cX4_mixEntries 52 = .ok (.iload 4, 2) := by decide +kernel
theorem dX4_mixEntries_54 : decode cX4_mixEntries 54 = .ok (.aload_n 0, 1) := by decide +kernel
theorem dX4_mixEntries_55 : decode cX4_mixEntries 55 = .ok (.getfield 62, 3) := by decide +kernel
theorem dX4_mixEntries_58 : decode cX4_mixEntries 58 = .ok (.if_icmp .ge 99, 3) := by decide +kernel
theorem dX4_mixEntries_61 : decode cX4_mixEntries 61 = .ok (.aload_n 0, 1) := by decide +kernel
theorem dX4_mixEntries_62 : decode cX4_mixEntries 62 = .ok (.iload_n 3, 1) := by decide +kernel
theorem dX4_mixEntries_63 : decode cX4_mixEntries 63 = .ok (.aload_n 0, 1) := by decide +kernel
theorem dX4_mixEntries_64 : decode cX4_mixEntries 64 = .ok (.getfield 62, 3) := by decide +kernel
theorem dX4_mixEntries_67 : decode cX4_mixEntries 67 = .ok (.iload 4, 2) := by decide +kernel
theorem dX4_mixEntries_69 : decode cX4_mixEntries 69 = .ok (.isub, 1) := by decide +kernel
theorem dX4_mixEntries_70 : decode cX4_mixEntries 70 = .ok (.irem, 1) := by decide +kernel
theorem dX4_mixEntries_71 : decode cX4_mixEntries 71 = .ok (.invokevirtual 65, 3) := by decide +kernel
theorem dX4_mixEntries_74 : decode cX4_mixEntries 74 = .ok (.istore 5, 2) := by decide +kernel
theorem dX4_mixEntries_76 : decode cX4_mixEntries 76 = .ok (.iload_n 3, 1) := by decide +kernel
theorem dX4_mixEntries_77 : decode cX4_mixEntries 77 = .ok (.aload_n 0, 1) := by decide +kernel
theorem dX4_mixEntries_78 : decode cX4_mixEntries 78 = .ok (.getfield 62, 3) := by decide +kernel
theorem dX4_mixEntries_81 : decode cX4_mixEntries 81 = .ok (.iload 4, 2) := by decide +kernel
theorem dX4_mixEntries_83 : decode cX4_mixEntries 83 = .ok (.isub, 1) := by decide +kernel
theorem dX4_mixEntries_84 : decode cX4_mixEntries 84 = .ok (.idiv, 1) := by decide +kernel
theorem dX4_mixEntries_85 : decode cX4_mixEntries 85 = .ok (.istore_n 3, 1) := by decide +kernel
theorem dX4_mixEntries_86 : decode cX4_mixEntries 86 = .ok (.lconst 0, 1) := by decide +kernel
theorem dX4_mixEntries_87 : decode cX4_mixEntries 87 = .ok (.iload_n 1, 1) := by decide +kernel
theorem dX4_mixEntries_88 : decode cX4_mixEntries 88 = .ok (.i2l, 1) := by decide +kernel
theorem dX4_mixEntries_89 : decode cX4_mixEntries 89 = .ok (.invokestatic 69, 3) := by decide +kernel
theorem dX4_mixEntries_92 : decode cX4_mixEntries 92 = .ok (.iload 4, 2) := by decide +kernel
theorem dX4_mixEntries_94 : decode cX4_mixEntries 94 = .ok (.i2l, 1) := by decide +kernel
theorem dX4_mixEntries_95 : decode cX4_mixEntries 95 = .ok (.invokestatic 69, 3) := by decide +kernel
theorem dX4_mixEntries_98 : decode cX4_mixEntries 98 = .ok (.invokestatic 75, 3) := by decide +kernel
theorem dX4_mixEntries_101 : decode cX4_mixEntries 101 = .ok (.istore 6, 2) := by decide +kernel
theorem dX4_mixEntries_103 : decode cX4_mixEntries 103 = .ok (.aload_n 0, 1) := by decide +kernel
theorem dX4_mixEntries_104 : decode cX4_mixEntries 104 = .ok (.getfield 28, 3) := by decide +kernel
theorem dX4_mixEntries_107 : decode cX4_mixEntries 107 = .ok (.iload 4, 2) := by decide +kernel
theorem dX4_mixEntries_109 : decode cX4_mixEntries 109 = .ok (.aload_n 0, 1) := by decide +kernel
theorem dX4_mixEntries_110 : decode cX4_mixEntries 110 = .ok (.getfield 34, 3) := by decide +kernel
theorem dX4_mixEntries_113 : decode cX4_mixEntries 113 = .ok (.iload 5, 2) := by decide +kernel
theorem dX4_mixEntries_115 : decode cX4_mixEntries 115 = .ok (.iaload, 1) := by decide +kernel
theorem dX4_mixEntries_116 : decode cX4_mixEntries 116 = .ok (.iload 6, 2) := by decide +kernel
theorem dX4_mixEntries_118 : decode cX4_mixEntries 118 = .ok (.invokestatic 79, 3) := by decide +kernel
theorem dX4_mixEntries_121 : decode cX4_mixEntries 121 = .ok (.invokestatic 52, 3) := by decide +kernel
theorem dX4_mixEntries_124 : decode cX4_mixEntries 124 = .ok (.iastore, 1) := by decide +kernel
theorem dX4_mixEntries_125 : decode cX4_mixEntries 125 = .ok (.aload_n 0, 1) := by decide +kernel
theorem dX4_mixEntries_126 : decode cX4_mixEntries 126 = .ok (.getfield 31, 3) := by decide +kernel
theorem dX4_mixEntries_129 : decode cX4_mixEntries 129 = .ok (.iload 4, 2) := by decide +kernel
theorem dX4_mixEntries_131 : decode cX4_mixEntries 131 = .ok (.aload_n 0, 1) := by decide +kernel
theorem dX4_mixEntries_132 : decode cX4_mixEntries 132 = .ok (.getfield 37, 3) := by decide +kernel
theorem dX4_mixEntries_135 : decode cX4_mixEntries 135 = .ok (.iload 5, 2) := by decide +kernel
theorem dX4_mixEntries_137 : decode cX4_mixEntries 137 = .ok (.iaload, 1) := by decide +kernel
theorem dX4_mixEntries_138 : decode cX4_mixEntries 138 = .ok (.aload_n 0, 1) := by decide +kernel
theorem dX4_mixEntries_139 : decode cX4_mixEntries 139 = .ok (.getfield 58, 3) := by decide +kernel
theorem dX4_mixEntries_142 : decode cX4_mixEntries 142 = .ok (.iload 6, 2) := by decide +kernel
theorem dX4_mixEntries_144 : decode cX4_mixEntries 144 = .ok (.invokestatic 82, 3) := by decide +kernel
theorem dX4_mixEntries_147 : decode cX4_mixEntries 147 = .ok (.invokestatic 52, 3) := by decide +kernel
theorem dX4_mixEntries_150 : decode cX4_mixEntries 150 = .ok (.iastore, 1) := by decide +kernel
theorem dX4_mixEntries_151 : decode cX4_mixEntries 151 = .ok (.iinc 4 1, 3) := by decide +kernel
theorem dX4_mixEntries_154 : decode cX4_mixEntries 154 = .ok (.goto (-102), 3) := by decide +kernel
theorem dX4_mixEntries_157 : decode cX4_mixEntries 157 = .ok (.return_, 1) := by decide +kernel
theorem dX4_takeEntry_0 : decode cX4_takeEntry 0 = .ok (.iload_n 1, 1) := by decide +kernel
theorem dX4_takeEntry_1 : decode cX4_takeEntry 1 = .ok (.istore_n 2, 1) := by decide +kernel
theorem dX4_takeEntry_2 : decode cX4_takeEntry 2 = .ok (.iconst 0, 1) := by decide +kernel
theorem dX4_takeEntry_3 : decode cX4_takeEntry 3 = .ok (.istore_n 3, 1) := by decide +kernel
theorem dX4_takeEntry_4 : decode cX4_takeEntry 4 = .ok (.iload_n 3, 1) := by decide +kernel
theorem dX4_takeEntry_5 : decode cX4_takeEntry 5 = .ok (.aload_n 0, 1) := by decide +kernel
theorem dX4_takeEntry_6 : decode cX4_takeEntry 6 = .ok (.getfield 62, 3) := by decide +kernel
theorem dX4_takeEntry_9 : decode cX4_takeEntry 9 = .ok (.if_icmp .ge 34, 3) := by decide +kernel
theorem dX4_takeEntry_12 : decode cX4_takeEntry 12 = .ok (.aload_n 0, 1) := by decide +kernel
theorem dX4_takeEntry_13 : decode cX4_takeEntry 13 = .ok (.getfield 40, 3) := by decide +kernel
theorem dX4_takeEntry_16 : decode cX4_takeEntry 16 = .ok (.iload_n 3, 1) := by decide +kernel
theorem dX4_takeEntry_17 : decode cX4_takeEntry 17 = .ok (.baload, 1) := by decide +kernel
theorem dX4_takeEntry_18 : decode cX4_takeEntry 18 = .ok (.ifCond .ne 19, 3) := by decide +kernel
theorem dX4_takeEntry_21 : decode cX4_takeEntry 21 = .ok (.iload_n 2, 1) := by decide +kernel
theorem dX4_takeEntry_22 : decode cX4_takeEntry 22 = .ok (.ifCond .ne 12, 3) := by decide +kernel
theorem dX4_takeEntry_25 : decode cX4_takeEntry 25 = .ok (.aload_n 0, 1) := by decide +kernel
theorem dX4_takeEntry_26 : decode cX4_takeEntry 26 = .ok (.getfield 40, 3) := by decide +kernel
theorem dX4_takeEntry_29 : decode cX4_takeEntry 29 = .ok (.iload_n 3, 1) := by decide +kernel
theorem dX4_takeEntry_30 : decode cX4_takeEntry 30 = .ok (.iconst 1, 1) := by decide +kernel
theorem dX4_takeEntry_31 : decode cX4_takeEntry 31 = .ok (.bastore, 1) := by decide +kernel
theorem dX4_takeEntry_32 : decode cX4_takeEntry 32 = .ok (.iload_n 3, 1) := by decide +kernel
theorem dX4_takeEntry_33 : decode cX4_takeEntry 33 = .ok (.ireturn, 1) := by decide +kernel
theorem dX4_takeEntry_34 : decode cX4_takeEntry 34 = .ok (.iinc 2 (-1), 3) := by decide +kernel
theorem dX4_takeEntry_37 : decode cX4_takeEntry 37 = .ok (.iinc 3 1, 3) := by decide +kernel
theorem dX4_takeEntry_40 : decode cX4_takeEntry 40 = .ok (.goto (-36), 3) := by decide +kernel
theorem dX4_takeEntry_43 : decode cX4_takeEntry 43 = .ok (.iconst 0, 1) := by decide +kernel
theorem dX4_takeEntry_44 : decode cX4_takeEntry 44 = .ok (.ireturn, 1) := by decide +kernel
set_option maxRecDepth 20000 in
theorem ggX4_addShare_X3_times : GoodIn wsX4_addShare wsX3_times := goodIn_r _ [5] rfl (by decide +kernel)
set_option maxRecDepth 20000 in
theorem gX4_addShare_X3_times : GoodIn wsX4_addShare (va_wsS RX4 52 yX3_times wsX3_times) := goodIn_app (goodIn_r _ [2, 3, 4] rfl (by decide +kernel)) ggX4_addShare_X3_times
theorem dX4_addShare_0 : decode cX4_addShare 0 = .ok (.aload_n 0, 1) := by decide +kernel
theorem dX4_addShare_1 : decode cX4_addShare 1 = .ok (.getfield 43, 3) := by decide +kernel
theorem dX4_addShare_4 : decode cX4_addShare 4 = .ok (.iload_n 1, 1) := by decide +kernel
theorem dX4_addShare_5 : decode cX4_addShare 5 = .ok (.aload_n 0, 1) := by decide +kernel
theorem dX4_addShare_6 : decode cX4_addShare 6 = .ok (.getfield 43, 3) := by decide +kernel
theorem dX4_addShare_9 : decode cX4_addShare 9 = .ok (.iload_n 1, 1) := by decide +kernel
theorem dX4_addShare_10 : decode cX4_addShare 10 = .ok (.iaload, 1) := by decide +kernel
theorem dX4_addShare_11 : decode cX4_addShare 11 = .ok (.iload_n 2, 1) := by decide +kernel
theorem dX4_addShare_12 : decode cX4_addShare 12 = .ok (.invokestatic 52, 3) := by decide +kernel
theorem dX4_addShare_15 : decode cX4_addShare 15 = .ok (.iastore, 1) := by decide +kernel
theorem dX4_addShare_16 : decode cX4_addShare 16 = .ok (.return_, 1) := by decide +kernel
theorem dX4_allOpened_0 : decode cX4_allOpened 0 = .ok (.aload_n 0, 1) := by decide +kernel
theorem dX4_allOpened_1 : decode cX4_allOpened 1 = .ok (.getfield 46, 3) := by decide +kernel
theorem dX4_allOpened_4 : decode cX4_allOpened 4 = .ok (.iconst 0, 1) := by decide +kernel
theorem dX4_allOpened_5 : decode cX4_allOpened 5 = .ok (.baload, 1) := by decide +kernel
theorem dX4_allOpened_6 : decode cX4_allOpened 6 = .ok (.ifCond .eq 25, 3) := by decide +kernel
theorem dX4_allOpened_9 : decode cX4_allOpened 9 = .ok (.aload_n 0, 1) := by decide +kernel
theorem dX4_allOpened_10 : decode cX4_allOpened 10 = .ok (.getfield 46, 3) := by decide +kernel
theorem dX4_allOpened_13 : decode cX4_allOpened 13 = .ok (.iconst 1, 1) := by decide +kernel
theorem dX4_allOpened_14 : decode cX4_allOpened 14 = .ok (.baload, 1) := by decide +kernel
theorem dX4_allOpened_15 : decode cX4_allOpened 15 = .ok (.ifCond .eq 16, 3) := by decide +kernel
theorem dX4_allOpened_18 : decode cX4_allOpened 18 = .ok (.aload_n 0, 1) := by decide +kernel
theorem dX4_allOpened_19 : decode cX4_allOpened 19 = .ok (.getfield 46, 3) := by decide +kernel
theorem dX4_allOpened_22 : decode cX4_allOpened 22 = .ok (.iconst 2, 1) := by decide +kernel
theorem dX4_allOpened_23 : decode cX4_allOpened 23 = .ok (.baload, 1) := by decide +kernel
theorem dX4_allOpened_24 : decode cX4_allOpened 24 = .ok (.ifCond .eq 7, 3) := by decide +kernel
theorem dX4_allOpened_27 : decode cX4_allOpened 27 = .ok (.iconst 1, 1) := by decide +kernel
theorem dX4_allOpened_28 : decode cX4_allOpened 28 = .ok (.goto 4, 3) := by decide +kernel
theorem dX4_allOpened_31 : decode cX4_allOpened 31 = .ok (.iconst 0, 1) := by decide +kernel
theorem dX4_allOpened_32 : decode cX4_allOpened 32 = .ok (.ireturn, 1) := by decide +kernel
set_option maxRecDepth 20000 in
theorem ggX4_countVotes_X3_inverse : GoodIn wsX4_countVotes wsX3_inverse := goodIn_r _ [8, 9, 10, 7, 11] rfl (by decide +kernel)
set_option maxRecDepth 20000 in
theorem gX4_countVotes_X3_inverse : GoodIn wsX4_countVotes (va_wsS RX4 85 yX3_inverse wsX3_inverse) := goodIn_app (goodIn_r _ [5, 6, 7] rfl (by decide +kernel)) ggX4_countVotes_X3_inverse
set_option maxRecDepth 20000 in
theorem ggX4_countVotes_X3_times : GoodIn wsX4_countVotes wsX3_times := goodIn_r _ [14] rfl (by decide +kernel)
set_option maxRecDepth 20000 in
theorem gX4_countVotes_X3_times : GoodIn wsX4_countVotes (va_wsS RX4 52 yX3_times wsX3_times) := goodIn_app (goodIn_r _ [12, 13, 7] rfl (by decide +kernel)) ggX4_countVotes_X3_times
set_option maxRecDepth 20000 in
theorem ggX4_countVotes_X3_ofBase : GoodIn wsX4_countVotes wsX3_ofBase := goodIn_r _ [17, 9, 10, 7, 11] rfl (by decide +kernel)
set_option maxRecDepth 20000 in
theorem gX4_countVotes_X3_ofBase : GoodIn wsX4_countVotes (va_wsS RX4 79 yX3_ofBase wsX3_ofBase) := goodIn_app (goodIn_r _ [15, 16, 7] rfl (by decide +kernel)) ggX4_countVotes_X3_ofBase
theorem dX4_countVotes_0 : decode cX4_countVotes 0 = .ok (.iconst 0, 1) := by decide +kernel
theorem dX4_countVotes_1 : decode cX4_countVotes 1 = .ok (.istore_n 1, 1) := by decide +kernel
theorem dX4_countVotes_2 : decode cX4_countVotes 2 = .ok (.iload_n 1, 1) := by decide +kernel
theorem dX4_countVotes_3 : decode cX4_countVotes 3 = .ok (.iconst 4, 1) := by decide +kernel
theorem dX4_countVotes_4 : decode cX4_countVotes 4 = .ok (.if_icmp .ge 16, 3) := by decide +kernel
theorem dX4_countVotes_7 : decode cX4_countVotes 7 = .ok (.aload_n 0, 1) := by decide +kernel
theorem dX4_countVotes_8 : decode cX4_countVotes 8 = .ok (.getfield 49, 3) := by decide +kernel
theorem dX4_countVotes_11 : decode cX4_countVotes 11 = .ok (.iload_n 1, 1) := by decide +kernel
theorem dX4_countVotes_12 : decode cX4_countVotes 12 = .ok (.iconst 0, 1) := by decide +kernel
theorem dX4_countVotes_13 : decode cX4_countVotes 13 = .ok (.iastore, 1) := by decide +kernel
theorem dX4_countVotes_14 : decode cX4_countVotes 14 = .ok (.iinc 1 1, 3) := by decide +kernel
theorem dX4_countVotes_17 : decode cX4_countVotes 17 = .ok (.goto (-15), 3) := by decide +kernel
theorem dX4_countVotes_20 : decode cX4_countVotes 20 = .ok (.iconst 0, 1) := by decide +kernel
theorem dX4_countVotes_21 : decode cX4_countVotes 21 = .ok (.istore_n 1, 1) := by decide +kernel
theorem dX4_countVotes_22 : decode cX4_countVotes 22 = .ok (.iload_n 1, 1) := by decide +kernel
theorem dX4_countVotes_23 : decode cX4_countVotes 23 = .ok (.aload_n 0, 1) := by decide +kernel
theorem dX4_countVotes_24 : decode cX4_countVotes 24 = .ok (.getfield 62, 3) := by decide +kernel
theorem dX4_countVotes_27 : decode cX4_countVotes 27 = .ok (.if_icmp .ge 59, 3) := by decide +kernel
theorem dX4_countVotes_30 : decode cX4_countVotes 30 = .ok (.aload_n 0, 1) := by decide +kernel
theorem dX4_countVotes_31 : decode cX4_countVotes 31 = .ok (.getfield 31, 3) := by decide +kernel
theorem dX4_countVotes_34 : decode cX4_countVotes 34 = .ok (.iload_n 1, 1) := by decide +kernel
theorem dX4_countVotes_35 : decode cX4_countVotes 35 = .ok (.iaload, 1) := by decide +kernel
theorem dX4_countVotes_36 : decode cX4_countVotes 36 = .ok (.aload_n 0, 1) := by decide +kernel
theorem dX4_countVotes_37 : decode cX4_countVotes 37 = .ok (.getfield 43, 3) := by decide +kernel
theorem dX4_countVotes_40 : decode cX4_countVotes 40 = .ok (.iload_n 1, 1) := by decide +kernel
theorem dX4_countVotes_41 : decode cX4_countVotes 41 = .ok (.iaload, 1) := by decide +kernel
theorem dX4_countVotes_42 : decode cX4_countVotes 42 = .ok (.invokestatic 85, 3) := by decide +kernel
theorem dX4_countVotes_45 : decode cX4_countVotes 45 = .ok (.invokestatic 52, 3) := by decide +kernel
theorem dX4_countVotes_48 : decode cX4_countVotes 48 = .ok (.istore_n 2, 1) := by decide +kernel
theorem dX4_countVotes_49 : decode cX4_countVotes 49 = .ok (.iconst 0, 1) := by decide +kernel
theorem dX4_countVotes_50 : decode cX4_countVotes 50 = .ok (.istore_n 3, 1) := by decide +kernel
theorem dX4_countVotes_51 : decode cX4_countVotes 51 = .ok (.iload_n 3, 1) := by decide +kernel
theorem dX4_countVotes_52 : decode cX4_countVotes 52 = .ok (.iconst 4, 1) := by decide +kernel
theorem dX4_countVotes_53 : decode cX4_countVotes 53 = .ok (.if_icmp .ge 27, 3) := by decide +kernel
theorem dX4_countVotes_56 : decode cX4_countVotes 56 = .ok (.iload_n 2, 1) := by decide +kernel
theorem dX4_countVotes_57 : decode cX4_countVotes 57 = .ok (.iload_n 3, 1) := by decide +kernel
theorem dX4_countVotes_58 : decode cX4_countVotes 58 = .ok (.invokestatic 79, 3) := by decide +kernel
theorem dX4_countVotes_61 : decode cX4_countVotes 61 = .ok (.if_icmp .ne 13, 3) := by decide +kernel
theorem dX4_countVotes_64 : decode cX4_countVotes 64 = .ok (.aload_n 0, 1) := by decide +kernel
theorem dX4_countVotes_65 : decode cX4_countVotes 65 = .ok (.getfield 49, 3) := by decide +kernel
theorem dX4_countVotes_68 : decode cX4_countVotes 68 = .ok (.iload_n 3, 1) := by decide +kernel
theorem dX4_countVotes_69 : decode cX4_countVotes 69 = .ok (.dup2, 1) := by decide +kernel
theorem dX4_countVotes_70 : decode cX4_countVotes 70 = .ok (.iaload, 1) := by decide +kernel
theorem dX4_countVotes_71 : decode cX4_countVotes 71 = .ok (.iconst 1, 1) := by decide +kernel
theorem dX4_countVotes_72 : decode cX4_countVotes 72 = .ok (.iadd, 1) := by decide +kernel
theorem dX4_countVotes_73 : decode cX4_countVotes 73 = .ok (.iastore, 1) := by decide +kernel
theorem dX4_countVotes_74 : decode cX4_countVotes 74 = .ok (.iinc 3 1, 3) := by decide +kernel
theorem dX4_countVotes_77 : decode cX4_countVotes 77 = .ok (.goto (-26), 3) := by decide +kernel
theorem dX4_countVotes_80 : decode cX4_countVotes 80 = .ok (.iinc 1 1, 3) := by decide +kernel
theorem dX4_countVotes_83 : decode cX4_countVotes 83 = .ok (.goto (-61), 3) := by decide +kernel
theorem dX4_countVotes_86 : decode cX4_countVotes 86 = .ok (.return_, 1) := by decide +kernel
theorem dX5_init_0 : decode cX5_init 0 = .ok (.aload_n 0, 1) := by decide +kernel
theorem dX5_init_1 : decode cX5_init 1 = .ok (.invokespecial 1, 3) := by decide +kernel
theorem dX5_init_4 : decode cX5_init 4 = .ok (.aload_n 0, 1) := by decide +kernel
theorem dX5_init_5 : decode cX5_init 5 = .ok (.bipush 32, 2) := by decide +kernel
theorem dX5_init_7 : decode cX5_init 7 = .ok (.newarray .long, 2) := by decide +kernel
theorem dX5_init_9 : decode cX5_init 9 = .ok (.putfield 9, 3) := by decide +kernel
theorem dX5_init_12 : decode cX5_init 12 = .ok (.return_, 1) := by decide +kernel
theorem dX5_split_0 : decode cX5_split 0 = .ok (.iconst 1, 1) := by decide +kernel
theorem dX5_split_1 : decode cX5_split 1 = .ok (.istore_n 1, 1) := by decide +kernel
theorem dX5_split_2 : decode cX5_split 2 = .ok (.iload_n 1, 1) := by decide +kernel
theorem dX5_split_3 : decode cX5_split 3 = .ok (.iload_n 0, 1) := by decide +kernel
theorem dX5_split_4 : decode cX5_split 4 = .ok (.iload_n 1, 1) := by decide +kernel
theorem dX5_split_5 : decode cX5_split 5 = .ok (.isub, 1) := by decide +kernel
theorem dX5_split_6 : decode cX5_split 6 = .ok (.if_icmp .ge 10, 3) := by decide +kernel
theorem dX5_split_9 : decode cX5_split 9 = .ok (.iload_n 1, 1) := by decide +kernel
theorem dX5_split_10 : decode cX5_split 10 = .ok (.iconst 2, 1) := by decide +kernel
theorem dX5_split_11 : decode cX5_split 11 = .ok (.imul, 1) := by decide +kernel
theorem dX5_split_12 : decode cX5_split 12 = .ok (.istore_n 1, 1) := by decide +kernel
theorem dX5_split_13 : decode cX5_split 13 = .ok (.goto (-11), 3) := by decide +kernel
theorem dX5_split_16 : decode cX5_split 16 = .ok (.iload_n 1, 1) := by decide +kernel
theorem dX5_split_17 : decode cX5_split 17 = .ok (.ireturn, 1) := by decide +kernel
theorem dX5_goDown_0 : decode cX5_goDown 0 = .ok (.iload_n 1, 1) := by decide +kernel
theorem dX5_goDown_1 : decode cX5_goDown 1 = .ok (.ifCond .eq 18, 3) := by decide +kernel
theorem dX5_goDown_4 : decode cX5_goDown 4 = .ok (.aload_n 0, 1) := by decide +kernel
theorem dX5_goDown_5 : decode cX5_goDown 5 = .ok (.dup, 1) := by decide +kernel
theorem dX5_goDown_6 : decode cX5_goDown 6 = .ok (.getfield 13, 3) := by decide +kernel
theorem dX5_goDown_9 : decode cX5_goDown 9 = .ok (.lconst 1, 1) := by decide +kernel
theorem dX5_goDown_10 : decode cX5_goDown 10 = .ok (.aload_n 0, 1) := by decide +kernel
theorem dX5_goDown_11 : decode cX5_goDown 11 = .ok (.getfield 17, 3) := by decide +kernel
theorem dX5_goDown_14 : decode cX5_goDown 14 = .ok (.lshl, 1) := by decide +kernel
theorem dX5_goDown_15 : decode cX5_goDown 15 = .ok (.lor, 1) := by decide +kernel
theorem dX5_goDown_16 : decode cX5_goDown 16 = .ok (.putfield 13, 3) := by decide +kernel
theorem dX5_goDown_19 : decode cX5_goDown 19 = .ok (.aload_n 0, 1) := by decide +kernel
theorem dX5_goDown_20 : decode cX5_goDown 20 = .ok (.dup, 1) := by decide +kernel
theorem dX5_goDown_21 : decode cX5_goDown 21 = .ok (.getfield 17, 3) := by decide +kernel
theorem dX5_goDown_24 : decode cX5_goDown 24 = .ok (.iconst 1, 1) := by decide +kernel
theorem dX5_goDown_25 : decode cX5_goDown 25 = .ok (.iadd, 1) := by decide +kernel
theorem dX5_goDown_26 : decode cX5_goDown 26 = .ok (.putfield 17, 3) := by decide +kernel
theorem dX5_goDown_29 : decode cX5_goDown 29 = .ok (.return_, 1) := by decide +kernel
theorem dX5_isSecond_0 : decode cX5_isSecond 0 = .ok (.aload_n 0, 1) := by decide +kernel
theorem dX5_isSecond_1 : decode cX5_isSecond 1 = .ok (.getfield 13, 3) := by decide +kernel
theorem dX5_isSecond_4 : decode cX5_isSecond 4 = .ok (.iload_n 1, 1) := by decide +kernel
theorem dX5_isSecond_5 : decode cX5_isSecond 5 = .ok (.lshr, 1) := by decide +kernel
theorem dX5_isSecond_6 : decode cX5_isSecond 6 = .ok (.lconst 1, 1) := by decide +kernel
theorem dX5_isSecond_7 : decode cX5_isSecond 7 = .ok (.land, 1) := by decide +kernel
theorem dX5_isSecond_8 : decode cX5_isSecond 8 = .ok (.lconst 1, 1) := by decide +kernel
theorem dX5_isSecond_9 : decode cX5_isSecond 9 = .ok (.lcmp, 1) := by decide +kernel
theorem dX5_isSecond_10 : decode cX5_isSecond 10 = .ok (.ifCond .ne 7, 3) := by decide +kernel
theorem dX5_isSecond_13 : decode cX5_isSecond 13 = .ok (.iconst 1, 1) := by decide +kernel
theorem dX5_isSecond_14 : decode cX5_isSecond 14 = .ok (.goto 4, 3) := by decide +kernel
theorem dX5_isSecond_17 : decode cX5_isSecond 17 = .ok (.iconst 0, 1) := by decide +kernel
theorem dX5_isSecond_18 : decode cX5_isSecond 18 = .ok (.ireturn, 1) := by decide +kernel
set_option maxRecDepth 20000 in
theorem ggX5_goToRecord_X5_split : GoodIn wsX5_goToRecord wsX5_split := goodIn_r _ [6] rfl (by decide +kernel)
set_option maxRecDepth 20000 in
theorem gX5_goToRecord_X5_split : GoodIn wsX5_goToRecord (va_wsS RX5 21 yX5_split wsX5_split) := goodIn_app (goodIn_r _ [3, 4, 5] rfl (by decide +kernel)) ggX5_goToRecord_X5_split
set_option maxRecDepth 20000 in
theorem ggX5_goToRecord_X5_goDown : GoodIn wsX5_goToRecord wsX5_goDown := goodIn_r _ [10, 2, 1, 11, 12, 13, 14] rfl (by decide +kernel)
set_option maxRecDepth 20000 in
theorem gX5_goToRecord_X5_goDown : GoodIn wsX5_goToRecord (wsV RX5 25 RX5 yX5_goDown wsX5_goDown) := goodIn_app (goodIn_r _ [7, 8, 9, 5] rfl (by decide +kernel)) ggX5_goToRecord_X5_goDown
theorem dX5_goToRecord_0 : decode cX5_goToRecord 0 = .ok (.aload_n 0, 1) := by decide +kernel
theorem dX5_goToRecord_1 : decode cX5_goToRecord 1 = .ok (.iconst 0, 1) := by decide +kernel
theorem dX5_goToRecord_2 : decode cX5_goToRecord 2 = .ok (.putfield 17, 3) := by decide +kernel
theorem dX5_goToRecord_5 : decode cX5_goToRecord 5 = .ok (.aload_n 0, 1) := by decide +kernel
theorem dX5_goToRecord_6 : decode cX5_goToRecord 6 = .ok (.lconst 0, 1) := by decide +kernel
theorem dX5_goToRecord_7 : decode cX5_goToRecord 7 = .ok (.putfield 13, 3) := by decide +kernel
theorem dX5_goToRecord_10 : decode cX5_goToRecord 10 = .ok (.iload_n 1, 1) := by decide +kernel
theorem dX5_goToRecord_11 : decode cX5_goToRecord 11 = .ok (.istore_n 3, 1) := by decide +kernel
theorem dX5_goToRecord_12 : decode cX5_goToRecord 12 = .ok (.iload_n 2, 1) := by decide +kernel
theorem dX5_goToRecord_13 : decode cX5_goToRecord 13 = .ok (.istore 4, 2) := by decide +kernel
theorem dX5_goToRecord_15 : decode cX5_goToRecord 15 = .ok (.iconst 0, 1) := by decide +kernel
theorem dX5_goToRecord_16 : decode cX5_goToRecord 16 = .ok (.istore 5, 2) := by decide +kernel
theorem dX5_goToRecord_18 : decode cX5_goToRecord 18 = .ok (.iload 5, 2) := by decide +kernel
theorem dX5_goToRecord_20 : decode cX5_goToRecord 20 = .ok (.bipush 31, 2) := by decide +kernel
theorem dX5_goToRecord_22 : decode cX5_goToRecord 22 = .ok (.if_icmp .ge 72, 3) := by decide +kernel
theorem dX5_goToRecord_25 : decode cX5_goToRecord 25 = .ok (.iload 4, 2) := by decide +kernel
theorem dX5_goToRecord_27 : decode cX5_goToRecord 27 = .ok (.iconst 1, 1) := by decide +kernel
theorem dX5_goToRecord_28 : decode cX5_goToRecord 28 = .ok (.if_icmp .le 66, 3) := by decide +kernel
theorem dX5_goToRecord_31 : decode cX5_goToRecord 31 = .ok (.iload 4, 2) := by decide +kernel
theorem dX5_goToRecord_33 : decode cX5_goToRecord 33 = .ok (.invokestatic 21, 3) := by decide +kernel
theorem dX5_goToRecord_36 : decode cX5_goToRecord 36 = .ok (.istore 6, 2) := by decide +kernel
theorem dX5_goToRecord_38 : decode cX5_goToRecord 38 = .ok (.iload_n 3, 1) := by decide +kernel
theorem dX5_goToRecord_39 : decode cX5_goToRecord 39 = .ok (.iload 6, 2) := by decide +kernel
theorem dX5_goToRecord_41 : decode cX5_goToRecord 41 = .ok (.if_icmp .lt 7, 3) := by decide +kernel
theorem dX5_goToRecord_44 : decode cX5_goToRecord 44 = .ok (.iconst 1, 1) := by decide +kernel
theorem dX5_goToRecord_45 : decode cX5_goToRecord 45 = .ok (.goto 4, 3) := by decide +kernel
theorem dX5_goToRecord_48 : decode cX5_goToRecord 48 = .ok (.iconst 0, 1) := by decide +kernel
theorem dX5_goToRecord_49 : decode cX5_goToRecord 49 = .ok (.istore 7, 2) := by decide +kernel
theorem dX5_goToRecord_51 : decode cX5_goToRecord 51 = .ok (.iload 7, 2) := by decide +kernel
theorem dX5_goToRecord_53 : decode cX5_goToRecord 53 = .ok (.ifCond .eq 10, 3) := by decide +kernel
theorem dX5_goToRecord_56 : decode cX5_goToRecord 56 = .ok (.iload_n 3, 1) := by decide +kernel
theorem dX5_goToRecord_57 : decode cX5_goToRecord 57 = .ok (.iload 6, 2) := by decide +kernel
theorem dX5_goToRecord_59 : decode cX5_goToRecord 59 = .ok (.isub, 1) := by decide +kernel
theorem dX5_goToRecord_60 : decode cX5_goToRecord 60 = .ok (.goto 4, 3) := by decide +kernel
theorem dX5_goToRecord_63 : decode cX5_goToRecord 63 = .ok (.iload_n 3, 1) := by decide +kernel
theorem dX5_goToRecord_64 : decode cX5_goToRecord 64 = .ok (.istore_n 3, 1) := by decide +kernel
theorem dX5_goToRecord_65 : decode cX5_goToRecord 65 = .ok (.iload 7, 2) := by decide +kernel
theorem dX5_goToRecord_67 : decode cX5_goToRecord 67 = .ok (.ifCond .eq 11, 3) := by decide +kernel
theorem dX5_goToRecord_70 : decode cX5_goToRecord 70 = .ok (.iload 4, 2) := by decide +kernel
theorem dX5_goToRecord_72 : decode cX5_goToRecord 72 = .ok (.iload 6, 2) := by decide +kernel
theorem dX5_goToRecord_74 : decode cX5_goToRecord 74 = .ok (.isub, 1) := by decide +kernel
theorem dX5_goToRecord_75 : decode cX5_goToRecord 75 = .ok (.goto 5, 3) := by decide +kernel
theorem dX5_goToRecord_78 : decode cX5_goToRecord 78 = .ok (.iload 6, 2) := by decide +kernel
theorem dX5_goToRecord_80 : decode cX5_goToRecord 80 = .ok (.istore 4, 2) := by decide +kernel
theorem dX5_goToRecord_82 : decode cX5_goToRecord 82 = .ok (.aload_n 0, 1) := by decide +kernel
theorem dX5_goToRecord_83 : decode cX5_goToRecord 83 = .ok (.iload 7, 2) := by decide +kernel
theorem dX5_goToRecord_85 : decode cX5_goToRecord 85 = .ok (.invokevirtual 25, 3) := by decide +kernel
theorem dX5_goToRecord_88 : decode cX5_goToRecord 88 = .ok (.iinc 5 1, 3) := by decide +kernel
theorem dX5_goToRecord_91 : decode cX5_goToRecord 91 = .ok (.goto (-73), 3) := by decide +kernel
theorem dX5_goToRecord_94 : decode cX5_goToRecord 94 = .ok (.return_, 1) := by decide +kernel
set_option maxRecDepth 20000 in
theorem ggX5_goToFirst_X5_split : GoodIn wsX5_goToFirst wsX5_split := goodIn_r _ [6] rfl (by decide +kernel)
set_option maxRecDepth 20000 in
theorem gX5_goToFirst_X5_split : GoodIn wsX5_goToFirst (va_wsS RX5 21 yX5_split wsX5_split) := goodIn_app (goodIn_r _ [3, 4, 5] rfl (by decide +kernel)) ggX5_goToFirst_X5_split
set_option maxRecDepth 20000 in
theorem ggX5_goToFirst_X5_goDown : GoodIn wsX5_goToFirst wsX5_goDown := goodIn_r _ [10, 2, 1, 11, 12, 13, 14] rfl (by decide +kernel)
set_option maxRecDepth 20000 in
theorem gX5_goToFirst_X5_goDown : GoodIn wsX5_goToFirst (wsV RX5 25 RX5 yX5_goDown wsX5_goDown) := goodIn_app (goodIn_r _ [7, 8, 9, 5] rfl (by decide +kernel)) ggX5_goToFirst_X5_goDown
theorem dX5_goToFirst_0 : decode cX5_goToFirst 0 = .ok (.aload_n 0, 1) := by decide +kernel
theorem dX5_goToFirst_1 : decode cX5_goToFirst 1 = .ok (.iconst 0, 1) := by decide +kernel
theorem dX5_goToFirst_2 : decode cX5_goToFirst 2 = .ok (.putfield 17, 3) := by decide +kernel
theorem dX5_goToFirst_5 : decode cX5_goToFirst 5 = .ok (.aload_n 0, 1) := by decide +kernel
theorem dX5_goToFirst_6 : decode cX5_goToFirst 6 = .ok (.lconst 0, 1) := by decide +kernel
theorem dX5_goToFirst_7 : decode cX5_goToFirst 7 = .ok (.putfield 13, 3) := by decide +kernel
theorem dX5_goToFirst_10 : decode cX5_goToFirst 10 = .ok (.iload_n 1, 1) := by decide +kernel
theorem dX5_goToFirst_11 : decode cX5_goToFirst 11 = .ok (.istore_n 3, 1) := by decide +kernel
theorem dX5_goToFirst_12 : decode cX5_goToFirst 12 = .ok (.iload_n 2, 1) := by decide +kernel
theorem dX5_goToFirst_13 : decode cX5_goToFirst 13 = .ok (.istore 4, 2) := by decide +kernel
theorem dX5_goToFirst_15 : decode cX5_goToFirst 15 = .ok (.iconst 0, 1) := by decide +kernel
theorem dX5_goToFirst_16 : decode cX5_goToFirst 16 = .ok (.istore 5, 2) := by decide +kernel
theorem dX5_goToFirst_18 : decode cX5_goToFirst 18 = .ok (.iload 5, 2) := by decide +kernel
theorem dX5_goToFirst_20 : decode cX5_goToFirst 20 = .ok (.bipush 31, 2) := by decide +kernel
theorem dX5_goToFirst_22 : decode cX5_goToFirst 22 = .ok (.if_icmp .ge 72, 3) := by decide +kernel
theorem dX5_goToFirst_25 : decode cX5_goToFirst 25 = .ok (.iload_n 3, 1) := by decide +kernel
theorem dX5_goToFirst_26 : decode cX5_goToFirst 26 = .ok (.iload 4, 2) := by decide +kernel
theorem dX5_goToFirst_28 : decode cX5_goToFirst 28 = .ok (.if_icmp .ge 66, 3) := by decide +kernel
theorem dX5_goToFirst_31 : decode cX5_goToFirst 31 = .ok (.iload 4, 2) := by decide +kernel
theorem dX5_goToFirst_33 : decode cX5_goToFirst 33 = .ok (.invokestatic 21, 3) := by decide +kernel
theorem dX5_goToFirst_36 : decode cX5_goToFirst 36 = .ok (.istore 6, 2) := by decide +kernel
theorem dX5_goToFirst_38 : decode cX5_goToFirst 38 = .ok (.iload_n 3, 1) := by decide +kernel
theorem dX5_goToFirst_39 : decode cX5_goToFirst 39 = .ok (.iload 6, 2) := by decide +kernel
theorem dX5_goToFirst_41 : decode cX5_goToFirst 41 = .ok (.if_icmp .le 7, 3) := by decide +kernel
theorem dX5_goToFirst_44 : decode cX5_goToFirst 44 = .ok (.iconst 1, 1) := by decide +kernel
theorem dX5_goToFirst_45 : decode cX5_goToFirst 45 = .ok (.goto 4, 3) := by decide +kernel
theorem dX5_goToFirst_48 : decode cX5_goToFirst 48 = .ok (.iconst 0, 1) := by decide +kernel
theorem dX5_goToFirst_49 : decode cX5_goToFirst 49 = .ok (.istore 7, 2) := by decide +kernel
theorem dX5_goToFirst_51 : decode cX5_goToFirst 51 = .ok (.iload 7, 2) := by decide +kernel
theorem dX5_goToFirst_53 : decode cX5_goToFirst 53 = .ok (.ifCond .eq 10, 3) := by decide +kernel
theorem dX5_goToFirst_56 : decode cX5_goToFirst 56 = .ok (.iload_n 3, 1) := by decide +kernel
theorem dX5_goToFirst_57 : decode cX5_goToFirst 57 = .ok (.iload 6, 2) := by decide +kernel
theorem dX5_goToFirst_59 : decode cX5_goToFirst 59 = .ok (.isub, 1) := by decide +kernel
theorem dX5_goToFirst_60 : decode cX5_goToFirst 60 = .ok (.goto 4, 3) := by decide +kernel
theorem dX5_goToFirst_63 : decode cX5_goToFirst 63 = .ok (.iload_n 3, 1) := by decide +kernel
theorem dX5_goToFirst_64 : decode cX5_goToFirst 64 = .ok (.istore_n 3, 1) := by decide +kernel
theorem dX5_goToFirst_65 : decode cX5_goToFirst 65 = .ok (.iload 7, 2) := by decide +kernel
theorem dX5_goToFirst_67 : decode cX5_goToFirst 67 = .ok (.ifCond .eq 11, 3) := by decide +kernel
theorem dX5_goToFirst_70 : decode cX5_goToFirst 70 = .ok (.iload 4, 2) := by decide +kernel
theorem dX5_goToFirst_72 : decode cX5_goToFirst 72 = .ok (.iload 6, 2) := by decide +kernel
theorem dX5_goToFirst_74 : decode cX5_goToFirst 74 = .ok (.isub, 1) := by decide +kernel
theorem dX5_goToFirst_75 : decode cX5_goToFirst 75 = .ok (.goto 5, 3) := by decide +kernel
theorem dX5_goToFirst_78 : decode cX5_goToFirst 78 = .ok (.iload 6, 2) := by decide +kernel
theorem dX5_goToFirst_80 : decode cX5_goToFirst 80 = .ok (.istore 4, 2) := by decide +kernel
theorem dX5_goToFirst_82 : decode cX5_goToFirst 82 = .ok (.aload_n 0, 1) := by decide +kernel
theorem dX5_goToFirst_83 : decode cX5_goToFirst 83 = .ok (.iload 7, 2) := by decide +kernel
theorem dX5_goToFirst_85 : decode cX5_goToFirst 85 = .ok (.invokevirtual 25, 3) := by decide +kernel
theorem dX5_goToFirst_88 : decode cX5_goToFirst 88 = .ok (.iinc 5 1, 3) := by decide +kernel
theorem dX5_goToFirst_91 : decode cX5_goToFirst 91 = .ok (.goto (-73), 3) := by decide +kernel
theorem dX5_goToFirst_94 : decode cX5_goToFirst 94 = .ok (.return_, 1) := by decide +kernel
theorem dX5_digestsBelow_0 : decode cX5_digestsBelow 0 = .ok (.aload_n 0, 1) := by decide +kernel
theorem dX5_digestsBelow_1 : decode cX5_digestsBelow 1 = .ok (.getfield 13, 3) := by decide +kernel
theorem dX5_digestsBelow_4 : decode cX5_digestsBelow 4 = .ok (.lconst 0, 1) := by decide +kernel
theorem dX5_digestsBelow_5 : decode cX5_digestsBelow 5 = .ok (.lcmp, 1) := by decide +kernel
theorem dX5_digestsBelow_6 : decode cX5_digestsBelow 6 = .ok (.ifCond .ne 7, 3) := by decide +kernel
theorem dX5_digestsBelow_9 : decode cX5_digestsBelow 9 = .ok (.iconst 0, 1) := by decide +kernel
theorem dX5_digestsBelow_10 : decode cX5_digestsBelow 10 = .ok (.goto 4, 3) := by decide +kernel
theorem dX5_digestsBelow_13 : decode cX5_digestsBelow 13 = .ok (.iconst 1, 1) := by decide +kernel
theorem dX5_digestsBelow_14 : decode cX5_digestsBelow 14 = .ok (.ireturn, 1) := by decide +kernel
set_option maxRecDepth 20000 in
theorem ggX5_makeForRecord_X5_goToRecord : GoodIn wsX5_makeForRecord wsX5_goToRecord := goodIn_r _ [6, 7, 8, 9, 10, 5, 11, 12, 13, 14, 15, 62, 63, 64, 65] rfl (by decide +kernel)
set_option maxRecDepth 20000 in
theorem gX5_makeForRecord_X5_goToRecord : GoodIn wsX5_makeForRecord (wsV RX5 29 RX5 yX5_goToRecord wsX5_goToRecord) := goodIn_app (goodIn_r _ [2, 3, 4, 5] rfl (by decide +kernel)) ggX5_makeForRecord_X5_goToRecord
set_option maxRecDepth 20000 in
theorem ggX5_makeForRecord_X5_fill : GoodIn wsX5_makeForRecord wsX5_fill := goodIn_r _ [19, 7, 1, 20, 9, 10, 5, 11, 21, 22, 23, 24, 8, 25, 26, 27, 28, 29, 30, 31, 32, 33, 34, 35, 36, 37, 38, 39, 40, 41, 42, 43, 44, 45, 46, 47, 48, 49, 50, 51, 52, 53, 54, 55, 56, 57, 58, 59, 60, 61, 62, 63, 64, 65, 66, 67, 68, 69] rfl (by decide +kernel)
set_option maxRecDepth 20000 in
theorem gX5_makeForRecord_X5_fill : GoodIn wsX5_makeForRecord (wsV RX5 33 RX5 yX5_fill wsX5_fill) := goodIn_app (goodIn_r _ [16, 17, 18, 5] rfl (by decide +kernel)) ggX5_makeForRecord_X5_fill
theorem dX5_makeForRecord_0 : decode cX5_makeForRecord 0 = .ok (.aload_n 0, 1) := by decide +kernel
theorem dX5_makeForRecord_1 : decode cX5_makeForRecord 1 = .ok (.iload_n 2, 1) := by decide +kernel
theorem dX5_makeForRecord_2 : decode cX5_makeForRecord 2 = .ok (.iload_n 3, 1) := by decide +kernel
theorem dX5_makeForRecord_3 : decode cX5_makeForRecord 3 = .ok (.invokevirtual 29, 3) := by decide +kernel
theorem dX5_makeForRecord_6 : decode cX5_makeForRecord 6 = .ok (.aload_n 0, 1) := by decide +kernel
theorem dX5_makeForRecord_7 : decode cX5_makeForRecord 7 = .ok (.aload_n 1, 1) := by decide +kernel
theorem dX5_makeForRecord_8 : decode cX5_makeForRecord 8 = .ok (.iload_n 3, 1) := by decide +kernel
theorem dX5_makeForRecord_9 : decode cX5_makeForRecord 9 = .ok (.iconst 0, 1) := by decide +kernel
theorem dX5_makeForRecord_10 : decode cX5_makeForRecord 10 = .ok (.invokevirtual 33, 3) := by decide +kernel
theorem dX5_makeForRecord_13 : decode cX5_makeForRecord 13 = .ok (.aload_n 0, 1) := by decide +kernel
theorem dX5_makeForRecord_14 : decode cX5_makeForRecord 14 = .ok (.getfield 37, 3) := by decide +kernel
theorem dX5_makeForRecord_17 : decode cX5_makeForRecord 17 = .ok (.ireturn, 1) := by decide +kernel
set_option maxRecDepth 20000 in
theorem ggX5_makeForFirst_X5_goToFirst : GoodIn wsX5_makeForFirst wsX5_goToFirst := goodIn_r _ [6, 7, 8, 9, 10, 5, 11, 12, 13, 14, 15, 66, 67, 68, 69] rfl (by decide +kernel)
set_option maxRecDepth 20000 in
theorem gX5_makeForFirst_X5_goToFirst : GoodIn wsX5_makeForFirst (wsV RX5 40 RX5 yX5_goToFirst wsX5_goToFirst) := goodIn_app (goodIn_r _ [2, 3, 4, 5] rfl (by decide +kernel)) ggX5_makeForFirst_X5_goToFirst
set_option maxRecDepth 20000 in
theorem ggX5_makeForFirst_X5_digestsBelow : GoodIn wsX5_makeForFirst wsX5_digestsBelow := goodIn_r _ [19, 8, 66, 67, 68, 69] rfl (by decide +kernel)
set_option maxRecDepth 20000 in
theorem gX5_makeForFirst_X5_digestsBelow : GoodIn wsX5_makeForFirst (wsV RX5 43 RX5 yX5_digestsBelow wsX5_digestsBelow) := goodIn_app (goodIn_r _ [16, 17, 18, 5] rfl (by decide +kernel)) ggX5_makeForFirst_X5_digestsBelow
set_option maxRecDepth 20000 in
theorem ggX5_makeForFirst_X5_fill : GoodIn wsX5_makeForFirst wsX5_fill := goodIn_r _ [23, 7, 1, 24, 9, 10, 5, 11, 25, 26, 27, 28, 8, 29, 30, 31, 32, 33, 34, 35, 36, 37, 38, 39, 40, 41, 42, 43, 44, 45, 46, 47, 48, 49, 50, 51, 52, 53, 54, 55, 56, 57, 58, 59, 60, 61, 62, 63, 64, 65, 66, 67, 68, 69, 70, 71, 72, 73] rfl (by decide +kernel)
set_option maxRecDepth 20000 in
theorem gX5_makeForFirst_X5_fill : GoodIn wsX5_makeForFirst (wsV RX5 33 RX5 yX5_fill wsX5_fill) := goodIn_app (goodIn_r _ [20, 21, 22, 5] rfl (by decide +kernel)) ggX5_makeForFirst_X5_fill
theorem dX5_makeForFirst_0 : decode cX5_makeForFirst 0 = .ok (.aload_n 0, 1) := by decide +kernel
theorem dX5_makeForFirst_1 : decode cX5_makeForFirst 1 = .ok (.iload_n 2, 1) := by decide +kernel
theorem dX5_makeForFirst_2 : decode cX5_makeForFirst 2 = .ok (.iload_n 3, 1) := by decide +kernel
theorem dX5_makeForFirst_3 : decode cX5_makeForFirst 3 = .ok (.invokevirtual 40, 3) := by decide +kernel
theorem dX5_makeForFirst_6 : decode cX5_makeForFirst 6 = .ok (.aload_n 0, 1) := by decide +kernel
theorem dX5_makeForFirst_7 : decode cX5_makeForFirst 7 = .ok (.aload_n 1, 1) := by decide +kernel
theorem dX5_makeForFirst_8 : decode cX5_makeForFirst 8 = .ok (.iload_n 3, 1) := by decide +kernel
theorem dX5_makeForFirst_9 : decode cX5_makeForFirst 9 = .ok (.aload_n 0, 1) := by decide +kernel
theorem dX5_makeForFirst_10 : decode cX5_makeForFirst 10 = .ok (.invokevirtual 43, 3) := by decide +kernel
theorem dX5_makeForFirst_13 : decode cX5_makeForFirst 13 = .ok (.invokevirtual 33, 3) := by decide +kernel
theorem dX5_makeForFirst_16 : decode cX5_makeForFirst 16 = .ok (.aload_n 0, 1) := by decide +kernel
theorem dX5_makeForFirst_17 : decode cX5_makeForFirst 17 = .ok (.getfield 37, 3) := by decide +kernel
theorem dX5_makeForFirst_20 : decode cX5_makeForFirst 20 = .ok (.ireturn, 1) := by decide +kernel
set_option maxRecDepth 20000 in
theorem ggX5_fill_X5_split : GoodIn wsX5_fill wsX5_split := goodIn_r _ [7] rfl (by decide +kernel)
set_option maxRecDepth 20000 in
theorem gX5_fill_X5_split : GoodIn wsX5_fill (va_wsS RX5 21 yX5_split wsX5_split) := goodIn_app (goodIn_r _ [4, 5, 6] rfl (by decide +kernel)) ggX5_fill_X5_split
set_option maxRecDepth 20000 in
theorem ggX5_fill_X5_isSecond : GoodIn wsX5_fill wsX5_isSecond := goodIn_r _ [11, 12, 50, 51, 52, 53] rfl (by decide +kernel)
set_option maxRecDepth 20000 in
theorem gX5_fill_X5_isSecond : GoodIn wsX5_fill (wsV RX5 47 RX5 yX5_isSecond wsX5_isSecond) := goodIn_app (goodIn_r _ [8, 9, 10, 6] rfl (by decide +kernel)) ggX5_fill_X5_isSecond
set_option maxRecDepth 20000 in
theorem ggX5_fill_X1_headOf : GoodIn wsX5_fill wsX1_headOf := goodIn_r _ [17, 18, 19, 20, 21, 16, 22, 23, 24, 25, 26, 27, 28, 29, 30, 31, 32, 33, 34, 35, 36, 37, 38, 39, 40, 41, 42, 43, 44, 45, 46, 47, 48, 49, 54, 55, 56, 57] rfl (by decide +kernel)
set_option maxRecDepth 20000 in
theorem gX5_fill_X1_headOf : GoodIn wsX5_fill (wsV RX5 51 RX1 yX1_headOf wsX1_headOf) := goodIn_app (goodIn_r _ [13, 14, 15, 16] rfl (by decide +kernel)) ggX5_fill_X1_headOf
theorem dX5_fill_0 : decode cX5_fill 0 = .ok (.aload_n 0, 1) := by decide +kernel
theorem dX5_fill_1 : decode cX5_fill 1 = .ok (.aload_n 0, 1) := by decide +kernel
theorem dX5_fill_2 : decode cX5_fill 2 = .ok (.getfield 17, 3) := by decide +kernel
theorem dX5_fill_5 : decode cX5_fill 5 = .ok (.iload_n 3, 1) := by decide +kernel
theorem dX5_fill_6 : decode cX5_fill 6 = .ok (.iadd, 1) := by decide +kernel
theorem dX5_fill_7 : decode cX5_fill 7 = .ok (.putfield 37, 3) := by decide +kernel
theorem dX5_fill_10 : decode cX5_fill 10 = .ok (.iconst 0, 1) := by decide +kernel
theorem dX5_fill_11 : decode cX5_fill 11 = .ok (.istore 4, 2) := by decide +kernel
theorem dX5_fill_13 : decode cX5_fill 13 = .ok (.iload_n 2, 1) := by decide +kernel
theorem dX5_fill_14 : decode cX5_fill 14 = .ok (.istore 5, 2) := by decide +kernel
theorem dX5_fill_16 : decode cX5_fill 16 = .ok (.iconst 0, 1) := by decide +kernel
theorem dX5_fill_17 : decode cX5_fill 17 = .ok (.istore 6, 2) := by decide +kernel
theorem dX5_fill_19 : decode cX5_fill 19 = .ok (.iload 6, 2) := by decide +kernel
theorem dX5_fill_21 : decode cX5_fill 21 = .ok (.aload_n 0, 1) := by decide +kernel
theorem dX5_fill_22 : decode cX5_fill 22 = .ok (.getfield 17, 3) := by decide +kernel
theorem dX5_fill_25 : decode cX5_fill 25 = .ok (.if_icmp .ge 96, 3) := by decide +kernel
theorem dX5_fill_28 : decode cX5_fill 28 = .ok (.iload 5, 2) := by decide +kernel
theorem dX5_fill_30 : decode cX5_fill 30 = .ok (.invokestatic 21, 3) := by decide +kernel
theorem dX5_fill_33 : decode cX5_fill 33 = .ok (.istore 7, 2) := by decide +kernel
theorem dX5_fill_35 : decode cX5_fill 35 = .ok (.aload_n 0, 1) := by decide +kernel
theorem dX5_fill_36 : decode cX5_fill 36 = .ok (.iload 6, 2) := by decide +kernel
theorem dX5_fill_38 : decode cX5_fill 38 = .ok (.invokevirtual 47, 3) := by decide +kernel
theorem dX5_fill_41 : decode cX5_fill 41 = .ok (.ifCond .eq 42, 3) := by decide +kernel
theorem dX5_fill_44 : decode cX5_fill 44 = .ok (.aload_n 0, 1) := by decide +kernel
theorem dX5_fill_45 : decode cX5_fill 45 = .ok (.getfield 9, 3) := by decide +kernel
theorem dX5_fill_48 : decode cX5_fill 48 = .ok (.aload_n 0, 1) := by decide +kernel
theorem dX5_fill_49 : decode cX5_fill 49 = .ok (.getfield 37, 3) := by decide +kernel
theorem dX5_fill_52 : decode cX5_fill 52 = .ok (.iconst 1, 1) := by decide +kernel
theorem dX5_fill_53 : decode cX5_fill 53 = .ok (.isub, 1) := by decide +kernel
theorem dX5_fill_54 : decode cX5_fill 54 = .ok (.iload 6, 2) := by decide +kernel
theorem dX5_fill_56 : decode cX5_fill 56 = .ok (.isub, 1) := by decide +kernel
theorem dX5_fill_57 : decode cX5_fill 57 = .ok (.aload_n 1, 1) := by decide +kernel
theorem dX5_fill_58 : decode cX5_fill 58 = .ok (.iload 4, 2) := by decide +kernel
theorem dX5_fill_60 : decode cX5_fill 60 = .ok (.iload 7, 2) := by decide +kernel
theorem dX5_fill_62 : decode cX5_fill 62 = .ok (.invokevirtual 51, 3) := by decide +kernel
theorem dX5_fill_65 : decode cX5_fill 65 = .ok (.lastore, 1) := by decide +kernel
theorem dX5_fill_66 : decode cX5_fill 66 = .ok (.iload 4, 2) := by decide +kernel
theorem dX5_fill_68 : decode cX5_fill 68 = .ok (.iload 7, 2) := by decide +kernel
theorem dX5_fill_70 : decode cX5_fill 70 = .ok (.iadd, 1) := by decide +kernel
theorem dX5_fill_71 : decode cX5_fill 71 = .ok (.istore 4, 2) := by decide +kernel
theorem dX5_fill_73 : decode cX5_fill 73 = .ok (.iload 5, 2) := by decide +kernel
theorem dX5_fill_75 : decode cX5_fill 75 = .ok (.iload 7, 2) := by decide +kernel
theorem dX5_fill_77 : decode cX5_fill 77 = .ok (.isub, 1) := by decide +kernel
theorem dX5_fill_78 : decode cX5_fill 78 = .ok (.istore 5, 2) := by decide +kernel
theorem dX5_fill_80 : decode cX5_fill 80 = .ok (.goto 35, 3) := by decide +kernel
theorem dX5_fill_83 : decode cX5_fill 83 = .ok (.aload_n 0, 1) := by decide +kernel
theorem dX5_fill_84 : decode cX5_fill 84 = .ok (.getfield 9, 3) := by decide +kernel
theorem dX5_fill_87 : decode cX5_fill 87 = .ok (.aload_n 0, 1) := by decide +kernel
theorem dX5_fill_88 : decode cX5_fill 88 = .ok (.getfield 37, 3) := by decide +kernel
theorem dX5_fill_91 : decode cX5_fill 91 = .ok (.iconst 1, 1) := by decide +kernel
theorem dX5_fill_92 : decode cX5_fill 92 = .ok (.isub, 1) := by decide +kernel
theorem dX5_fill_93 : decode cX5_fill 93 = .ok (.iload 6, 2) := by decide +kernel
theorem dX5_fill_95 : decode cX5_fill 95 = .ok (.isub, 1) := by decide +kernel
theorem dX5_fill_96 : decode cX5_fill 96 = .ok (.aload_n 1, 1) := by decide +kernel
theorem dX5_fill_97 : decode cX5_fill 97 = .ok (.iload 4, 2) := by decide +kernel
theorem dX5_fill_99 : decode cX5_fill 99 = .ok (.iload 7, 2) := by decide +kernel
theorem dX5_fill_101 : decode cX5_fill 101 = .ok (.iadd, 1) := by decide +kernel
theorem dX5_fill_102 : decode cX5_fill 102 = .ok (.iload 5, 2) := by decide +kernel
theorem dX5_fill_104 : decode cX5_fill 104 = .ok (.iload 7, 2) := by decide +kernel
theorem dX5_fill_106 : decode cX5_fill 106 = .ok (.isub, 1) := by decide +kernel
theorem dX5_fill_107 : decode cX5_fill 107 = .ok (.invokevirtual 51, 3) := by decide +kernel
theorem dX5_fill_110 : decode cX5_fill 110 = .ok (.lastore, 1) := by decide +kernel
theorem dX5_fill_111 : decode cX5_fill 111 = .ok (.iload 7, 2) := by decide +kernel
theorem dX5_fill_113 : decode cX5_fill 113 = .ok (.istore 5, 2) := by decide +kernel
theorem dX5_fill_115 : decode cX5_fill 115 = .ok (.iinc 6 1, 3) := by decide +kernel
theorem dX5_fill_118 : decode cX5_fill 118 = .ok (.goto (-99), 3) := by decide +kernel
theorem dX5_fill_121 : decode cX5_fill 121 = .ok (.iload_n 3, 1) := by decide +kernel
theorem dX5_fill_122 : decode cX5_fill 122 = .ok (.iconst 1, 1) := by decide +kernel
theorem dX5_fill_123 : decode cX5_fill 123 = .ok (.if_icmp .ne 17, 3) := by decide +kernel
theorem dX5_fill_126 : decode cX5_fill 126 = .ok (.aload_n 0, 1) := by decide +kernel
theorem dX5_fill_127 : decode cX5_fill 127 = .ok (.getfield 9, 3) := by decide +kernel
theorem dX5_fill_130 : decode cX5_fill 130 = .ok (.iconst 0, 1) := by decide +kernel
theorem dX5_fill_131 : decode cX5_fill 131 = .ok (.aload_n 1, 1) := by decide +kernel
theorem dX5_fill_132 : decode cX5_fill 132 = .ok (.iload 4, 2) := by decide +kernel
theorem dX5_fill_134 : decode cX5_fill 134 = .ok (.iload 5, 2) := by decide +kernel
theorem dX5_fill_136 : decode cX5_fill 136 = .ok (.invokevirtual 51, 3) := by decide +kernel
theorem dX5_fill_139 : decode cX5_fill 139 = .ok (.lastore, 1) := by decide +kernel
theorem dX5_fill_140 : decode cX5_fill 140 = .ok (.return_, 1) := by decide +kernel
set_option maxRecDepth 20000 in
theorem ggX5_fitsRecord_X5_goToRecord : GoodIn wsX5_fitsRecord wsX5_goToRecord := goodIn_r _ [8, 2, 9, 10, 11, 7, 12, 13, 14, 15, 16, 32, 33, 34, 35] rfl (by decide +kernel)
set_option maxRecDepth 20000 in
theorem gX5_fitsRecord_X5_goToRecord : GoodIn wsX5_fitsRecord (wsV RX5 29 RX5 yX5_goToRecord wsX5_goToRecord) := goodIn_app (goodIn_r _ [4, 5, 6, 7] rfl (by decide +kernel)) ggX5_fitsRecord_X5_goToRecord
set_option maxRecDepth 20000 in
theorem ggX5_fitsRecord_X5_isSecond : GoodIn wsX5_fitsRecord wsX5_isSecond := goodIn_r _ [20, 9, 32, 33, 34, 35] rfl (by decide +kernel)
set_option maxRecDepth 20000 in
theorem gX5_fitsRecord_X5_isSecond : GoodIn wsX5_fitsRecord (wsV RX5 47 RX5 yX5_isSecond wsX5_isSecond) := goodIn_app (goodIn_r _ [17, 18, 19, 7] rfl (by decide +kernel)) ggX5_fitsRecord_X5_isSecond
set_option maxRecDepth 20000 in
theorem ggX5_fitsRecord_X2_ofParts : GoodIn wsX5_fitsRecord wsX2_ofParts := goodIn_r _ [24, 25, 26, 23, 27, 28, 29, 30, 31] rfl (by decide +kernel)
set_option maxRecDepth 20000 in
theorem gX5_fitsRecord_X2_ofParts : GoodIn wsX5_fitsRecord (va_wsS RX5 57 yX2_ofParts wsX2_ofParts) := goodIn_app (goodIn_r _ [21, 22, 23] rfl (by decide +kernel)) ggX5_fitsRecord_X2_ofParts
theorem dX5_fitsRecord_0 : decode cX5_fitsRecord 0 = .ok (.aload_n 0, 1) := by decide +kernel
theorem dX5_fitsRecord_1 : decode cX5_fitsRecord 1 = .ok (.iload_n 1, 1) := by decide +kernel
theorem dX5_fitsRecord_2 : decode cX5_fitsRecord 2 = .ok (.iload_n 2, 1) := by decide +kernel
theorem dX5_fitsRecord_3 : decode cX5_fitsRecord 3 = .ok (.invokevirtual 29, 3) := by decide +kernel
theorem dX5_fitsRecord_6 : decode cX5_fitsRecord 6 = .ok (.aload_n 0, 1) := by decide +kernel
theorem dX5_fitsRecord_7 : decode cX5_fitsRecord 7 = .ok (.getfield 37, 3) := by decide +kernel
theorem dX5_fitsRecord_10 : decode cX5_fitsRecord 10 = .ok (.aload_n 0, 1) := by decide +kernel
theorem dX5_fitsRecord_11 : decode cX5_fitsRecord 11 = .ok (.getfield 17, 3) := by decide +kernel
theorem dX5_fitsRecord_14 : decode cX5_fitsRecord 14 = .ok (.if_icmp .eq 5, 3) := by decide +kernel
theorem dX5_fitsRecord_17 : decode cX5_fitsRecord 17 = .ok (.iconst 0, 1) := by decide +kernel
theorem dX5_fitsRecord_18 : decode cX5_fitsRecord 18 = .ok (.ireturn, 1) := by decide +kernel
theorem dX5_fitsRecord_19 : decode cX5_fitsRecord 19 = .ok (.lload_n 3, 1) := by decide +kernel
theorem dX5_fitsRecord_20 : decode cX5_fitsRecord 20 = .ok (.lstore 7, 2) := by decide +kernel
theorem dX5_fitsRecord_22 : decode cX5_fitsRecord 22 = .ok (.iconst 0, 1) := by decide +kernel
theorem dX5_fitsRecord_23 : decode cX5_fitsRecord 23 = .ok (.istore 9, 2) := by decide +kernel
theorem dX5_fitsRecord_25 : decode cX5_fitsRecord 25 = .ok (.iload 9, 2) := by decide +kernel
theorem dX5_fitsRecord_27 : decode cX5_fitsRecord 27 = .ok (.aload_n 0, 1) := by decide +kernel
theorem dX5_fitsRecord_28 : decode cX5_fitsRecord 28 = .ok (.getfield 37, 3) := by decide +kernel
theorem dX5_fitsRecord_31 : decode cX5_fitsRecord 31 = .ok (.if_icmp .ge 58, 3) := by decide +kernel
theorem dX5_fitsRecord_34 : decode cX5_fitsRecord 34 = .ok (.aload_n 0, 1) := by decide +kernel
theorem dX5_fitsRecord_35 : decode cX5_fitsRecord 35 = .ok (.aload_n 0, 1) := by decide +kernel
theorem dX5_fitsRecord_36 : decode cX5_fitsRecord 36 = .ok (.getfield 17, 3) := by decide +kernel
theorem dX5_fitsRecord_39 : decode cX5_fitsRecord 39 = .ok (.iconst 1, 1) := by decide +kernel
theorem dX5_fitsRecord_40 : decode cX5_fitsRecord 40 = .ok (.isub, 1) := by decide +kernel
theorem dX5_fitsRecord_41 : decode cX5_fitsRecord 41 = .ok (.iload 9, 2) := by decide +kernel
theorem dX5_fitsRecord_43 : decode cX5_fitsRecord 43 = .ok (.isub, 1) := by decide +kernel
theorem dX5_fitsRecord_44 : decode cX5_fitsRecord 44 = .ok (.invokevirtual 47, 3) := by decide +kernel
theorem dX5_fitsRecord_47 : decode cX5_fitsRecord 47 = .ok (.istore 10, 2) := by decide +kernel
theorem dX5_fitsRecord_49 : decode cX5_fitsRecord 49 = .ok (.iload 10, 2) := by decide +kernel
theorem dX5_fitsRecord_51 : decode cX5_fitsRecord 51 = .ok (.ifCond .eq 18, 3) := by decide +kernel
theorem dX5_fitsRecord_54 : decode cX5_fitsRecord 54 = .ok (.aload_n 0, 1) := by decide +kernel
theorem dX5_fitsRecord_55 : decode cX5_fitsRecord 55 = .ok (.getfield 9, 3) := by decide +kernel
theorem dX5_fitsRecord_58 : decode cX5_fitsRecord 58 = .ok (.iload 9, 2) := by decide +kernel
theorem dX5_fitsRecord_60 : decode cX5_fitsRecord 60 = .ok (.laload, 1) := by decide +kernel
theorem dX5_fitsRecord_61 : decode cX5_fitsRecord 61 = .ok (.lload 7, 2) := by decide +kernel
theorem dX5_fitsRecord_63 : decode cX5_fitsRecord 63 = .ok (.invokestatic 57, 3) := by decide +kernel
theorem dX5_fitsRecord_66 : decode cX5_fitsRecord 66 = .ok (.goto 15, 3) := by decide +kernel
theorem dX5_fitsRecord_69 : decode cX5_fitsRecord 69 = .ok (.lload 7, 2) := by decide +kernel
theorem dX5_fitsRecord_71 : decode cX5_fitsRecord 71 = .ok (.aload_n 0, 1) := by decide +kernel
theorem dX5_fitsRecord_72 : decode cX5_fitsRecord 72 = .ok (.getfield 9, 3) := by decide +kernel
theorem dX5_fitsRecord_75 : decode cX5_fitsRecord 75 = .ok (.iload 9, 2) := by decide +kernel
theorem dX5_fitsRecord_77 : decode cX5_fitsRecord 77 = .ok (.laload, 1) := by decide +kernel
theorem dX5_fitsRecord_78 : decode cX5_fitsRecord 78 = .ok (.invokestatic 57, 3) := by decide +kernel
theorem dX5_fitsRecord_81 : decode cX5_fitsRecord 81 = .ok (.lstore 7, 2) := by decide +kernel
theorem dX5_fitsRecord_83 : decode cX5_fitsRecord 83 = .ok (.iinc 9 1, 3) := by decide +kernel
theorem dX5_fitsRecord_86 : decode cX5_fitsRecord 86 = .ok (.goto (-61), 3) := by decide +kernel
theorem dX5_fitsRecord_89 : decode cX5_fitsRecord 89 = .ok (.lload 7, 2) := by decide +kernel
theorem dX5_fitsRecord_91 : decode cX5_fitsRecord 91 = .ok (.lload 5, 2) := by decide +kernel
theorem dX5_fitsRecord_93 : decode cX5_fitsRecord 93 = .ok (.lcmp, 1) := by decide +kernel
theorem dX5_fitsRecord_94 : decode cX5_fitsRecord 94 = .ok (.ifCond .ne 7, 3) := by decide +kernel
theorem dX5_fitsRecord_97 : decode cX5_fitsRecord 97 = .ok (.iconst 1, 1) := by decide +kernel
theorem dX5_fitsRecord_98 : decode cX5_fitsRecord 98 = .ok (.goto 4, 3) := by decide +kernel
theorem dX5_fitsRecord_101 : decode cX5_fitsRecord 101 = .ok (.iconst 0, 1) := by decide +kernel
theorem dX5_fitsRecord_102 : decode cX5_fitsRecord 102 = .ok (.ireturn, 1) := by decide +kernel
set_option maxRecDepth 20000 in
theorem ggX5_fitsFirst_X5_goToFirst : GoodIn wsX5_fitsFirst wsX5_goToFirst := goodIn_r _ [8, 2, 9, 10, 11, 7, 12, 13, 14, 15, 16, 36, 37, 38, 39] rfl (by decide +kernel)
set_option maxRecDepth 20000 in
theorem gX5_fitsFirst_X5_goToFirst : GoodIn wsX5_fitsFirst (wsV RX5 40 RX5 yX5_goToFirst wsX5_goToFirst) := goodIn_app (goodIn_r _ [4, 5, 6, 7] rfl (by decide +kernel)) ggX5_fitsFirst_X5_goToFirst
set_option maxRecDepth 20000 in
theorem ggX5_fitsFirst_X5_digestsBelow : GoodIn wsX5_fitsFirst wsX5_digestsBelow := goodIn_r _ [20, 9, 36, 37, 38, 39] rfl (by decide +kernel)
set_option maxRecDepth 20000 in
theorem gX5_fitsFirst_X5_digestsBelow : GoodIn wsX5_fitsFirst (wsV RX5 43 RX5 yX5_digestsBelow wsX5_digestsBelow) := goodIn_app (goodIn_r _ [17, 18, 19, 7] rfl (by decide +kernel)) ggX5_fitsFirst_X5_digestsBelow
set_option maxRecDepth 20000 in
theorem ggX5_fitsFirst_X5_isSecond : GoodIn wsX5_fitsFirst wsX5_isSecond := goodIn_r _ [24, 9, 36, 37, 38, 39] rfl (by decide +kernel)
set_option maxRecDepth 20000 in
theorem gX5_fitsFirst_X5_isSecond : GoodIn wsX5_fitsFirst (wsV RX5 47 RX5 yX5_isSecond wsX5_isSecond) := goodIn_app (goodIn_r _ [21, 22, 23, 7] rfl (by decide +kernel)) ggX5_fitsFirst_X5_isSecond
set_option maxRecDepth 20000 in
theorem ggX5_fitsFirst_X2_ofParts : GoodIn wsX5_fitsFirst wsX2_ofParts := goodIn_r _ [28, 29, 30, 27, 31, 32, 33, 34, 35] rfl (by decide +kernel)
set_option maxRecDepth 20000 in
theorem gX5_fitsFirst_X2_ofParts : GoodIn wsX5_fitsFirst (va_wsS RX5 57 yX2_ofParts wsX2_ofParts) := goodIn_app (goodIn_r _ [25, 26, 27] rfl (by decide +kernel)) ggX5_fitsFirst_X2_ofParts
theorem dX5_fitsFirst_0 : decode cX5_fitsFirst 0 = .ok (.aload_n 0, 1) := by decide +kernel
theorem dX5_fitsFirst_1 : decode cX5_fitsFirst 1 = .ok (.iload_n 1, 1) := by decide +kernel
theorem dX5_fitsFirst_2 : decode cX5_fitsFirst 2 = .ok (.iload_n 2, 1) := by decide +kernel
theorem dX5_fitsFirst_3 : decode cX5_fitsFirst 3 = .ok (.invokevirtual 40, 3) := by decide +kernel
theorem dX5_fitsFirst_6 : decode cX5_fitsFirst 6 = .ok (.aload_n 0, 1) := by decide +kernel
theorem dX5_fitsFirst_7 : decode cX5_fitsFirst 7 = .ok (.invokevirtual 43, 3) := by decide +kernel
theorem dX5_fitsFirst_10 : decode cX5_fitsFirst 10 = .ok (.istore 7, 2) := by decide +kernel
theorem dX5_fitsFirst_12 : decode cX5_fitsFirst 12 = .ok (.aload_n 0, 1) := by decide +kernel
theorem dX5_fitsFirst_13 : decode cX5_fitsFirst 13 = .ok (.getfield 37, 3) := by decide +kernel
theorem dX5_fitsFirst_16 : decode cX5_fitsFirst 16 = .ok (.aload_n 0, 1) := by decide +kernel
theorem dX5_fitsFirst_17 : decode cX5_fitsFirst 17 = .ok (.getfield 17, 3) := by decide +kernel
theorem dX5_fitsFirst_20 : decode cX5_fitsFirst 20 = .ok (.iload 7, 2) := by decide +kernel
theorem dX5_fitsFirst_22 : decode cX5_fitsFirst 22 = .ok (.iadd, 1) := by decide +kernel
theorem dX5_fitsFirst_23 : decode cX5_fitsFirst 23 = .ok (.if_icmp .eq 5, 3) := by decide +kernel
theorem dX5_fitsFirst_26 : decode cX5_fitsFirst 26 = .ok (.iconst 0, 1) := by decide +kernel
theorem dX5_fitsFirst_27 : decode cX5_fitsFirst 27 = .ok (.ireturn, 1) := by decide +kernel
theorem dX5_fitsFirst_28 : decode cX5_fitsFirst 28 = .ok (.iload 7, 2) := by decide +kernel
theorem dX5_fitsFirst_30 : decode cX5_fitsFirst 30 = .ok (.iconst 1, 1) := by decide +kernel
theorem dX5_fitsFirst_31 : decode cX5_fitsFirst 31 = .ok (.if_icmp .ne 12, 3) := by decide +kernel
theorem dX5_fitsFirst_34 : decode cX5_fitsFirst 34 = .ok (.aload_n 0, 1) := by decide +kernel
theorem dX5_fitsFirst_35 : decode cX5_fitsFirst 35 = .ok (.getfield 9, 3) := by decide +kernel
theorem dX5_fitsFirst_38 : decode cX5_fitsFirst 38 = .ok (.iconst 0, 1) := by decide +kernel
theorem dX5_fitsFirst_39 : decode cX5_fitsFirst 39 = .ok (.laload, 1) := by decide +kernel
theorem dX5_fitsFirst_40 : decode cX5_fitsFirst 40 = .ok (.goto 4, 3) := by decide +kernel
theorem dX5_fitsFirst_43 : decode cX5_fitsFirst 43 = .ok (.lload_n 3, 1) := by decide +kernel
theorem dX5_fitsFirst_44 : decode cX5_fitsFirst 44 = .ok (.lstore 8, 2) := by decide +kernel
theorem dX5_fitsFirst_46 : decode cX5_fitsFirst 46 = .ok (.lload 8, 2) := by decide +kernel
theorem dX5_fitsFirst_48 : decode cX5_fitsFirst 48 = .ok (.lstore 10, 2) := by decide +kernel
theorem dX5_fitsFirst_50 : decode cX5_fitsFirst 50 = .ok (.iload 7, 2) := by decide +kernel
theorem dX5_fitsFirst_52 : decode cX5_fitsFirst 52 = .ok (.istore 12, 2) := by decide +kernel
theorem dX5_fitsFirst_54 : decode cX5_fitsFirst 54 = .ok (.iload 12, 2) := by decide +kernel
theorem dX5_fitsFirst_56 : decode cX5_fitsFirst 56 = .ok (.aload_n 0, 1) := by decide +kernel
theorem dX5_fitsFirst_57 : decode cX5_fitsFirst 57 = .ok (.getfield 37, 3) := by decide +kernel
theorem dX5_fitsFirst_60 : decode cX5_fitsFirst 60 = .ok (.if_icmp .ge 70, 3) := by decide +kernel
theorem dX5_fitsFirst_63 : decode cX5_fitsFirst 63 = .ok (.aload_n 0, 1) := by decide +kernel
theorem dX5_fitsFirst_64 : decode cX5_fitsFirst 64 = .ok (.aload_n 0, 1) := by decide +kernel
theorem dX5_fitsFirst_65 : decode cX5_fitsFirst 65 = .ok (.getfield 37, 3) := by decide +kernel
theorem dX5_fitsFirst_68 : decode cX5_fitsFirst 68 = .ok (.iconst 1, 1) := by decide +kernel
theorem dX5_fitsFirst_69 : decode cX5_fitsFirst 69 = .ok (.isub, 1) := by decide +kernel
theorem dX5_fitsFirst_70 : decode cX5_fitsFirst 70 = .ok (.iload 12, 2) := by decide +kernel
theorem dX5_fitsFirst_72 : decode cX5_fitsFirst 72 = .ok (.isub, 1) := by decide +kernel
theorem dX5_fitsFirst_73 : decode cX5_fitsFirst 73 = .ok (.invokevirtual 47, 3) := by decide +kernel
theorem dX5_fitsFirst_76 : decode cX5_fitsFirst 76 = .ok (.ifCond .eq 34, 3) := by decide +kernel
theorem dX5_fitsFirst_79 : decode cX5_fitsFirst 79 = .ok (.aload_n 0, 1) := by decide +kernel
theorem dX5_fitsFirst_80 : decode cX5_fitsFirst 80 = .ok (.getfield 9, 3) := by decide +kernel
theorem dX5_fitsFirst_83 : decode cX5_fitsFirst 83 = .ok (.iload 12, 2) := by decide +kernel
theorem dX5_fitsFirst_85 : decode cX5_fitsFirst 85 = .ok (.laload, 1) := by decide +kernel
theorem dX5_fitsFirst_86 : decode cX5_fitsFirst 86 = .ok (.lload 8, 2) := by decide +kernel
theorem dX5_fitsFirst_88 : decode cX5_fitsFirst 88 = .ok (.invokestatic 57, 3) := by decide +kernel
theorem dX5_fitsFirst_91 : decode cX5_fitsFirst 91 = .ok (.lstore 8, 2) := by decide +kernel
theorem dX5_fitsFirst_93 : decode cX5_fitsFirst 93 = .ok (.aload_n 0, 1) := by decide +kernel
theorem dX5_fitsFirst_94 : decode cX5_fitsFirst 94 = .ok (.getfield 9, 3) := by decide +kernel
theorem dX5_fitsFirst_97 : decode cX5_fitsFirst 97 = .ok (.iload 12, 2) := by decide +kernel
theorem dX5_fitsFirst_99 : decode cX5_fitsFirst 99 = .ok (.laload, 1) := by decide +kernel
theorem dX5_fitsFirst_100 : decode cX5_fitsFirst 100 = .ok (.lload 10, 2) := by decide +kernel
theorem dX5_fitsFirst_102 : decode cX5_fitsFirst 102 = .ok (.invokestatic 57, 3) := by decide +kernel
theorem dX5_fitsFirst_105 : decode cX5_fitsFirst 105 = .ok (.lstore 10, 2) := by decide +kernel
theorem dX5_fitsFirst_107 : decode cX5_fitsFirst 107 = .ok (.goto 17, 3) := by decide +kernel
theorem dX5_fitsFirst_110 : decode cX5_fitsFirst 110 = .ok (.lload 10, 2) := by decide +kernel
theorem dX5_fitsFirst_112 : decode cX5_fitsFirst 112 = .ok (.aload_n 0, 1) := by decide +kernel
theorem dX5_fitsFirst_113 : decode cX5_fitsFirst 113 = .ok (.getfield 9, 3) := by decide +kernel
theorem dX5_fitsFirst_116 : decode cX5_fitsFirst 116 = .ok (.iload 12, 2) := by decide +kernel
theorem dX5_fitsFirst_118 : decode cX5_fitsFirst 118 = .ok (.laload, 1) := by decide +kernel
theorem dX5_fitsFirst_119 : decode cX5_fitsFirst 119 = .ok (.invokestatic 57, 3) := by decide +kernel
theorem dX5_fitsFirst_122 : decode cX5_fitsFirst 122 = .ok (.lstore 10, 2) := by decide +kernel
theorem dX5_fitsFirst_124 : decode cX5_fitsFirst 124 = .ok (.iinc 12 1, 3) := by decide +kernel
theorem dX5_fitsFirst_127 : decode cX5_fitsFirst 127 = .ok (.goto (-73), 3) := by decide +kernel
theorem dX5_fitsFirst_130 : decode cX5_fitsFirst 130 = .ok (.lload 8, 2) := by decide +kernel
theorem dX5_fitsFirst_132 : decode cX5_fitsFirst 132 = .ok (.lload_n 3, 1) := by decide +kernel
theorem dX5_fitsFirst_133 : decode cX5_fitsFirst 133 = .ok (.lcmp, 1) := by decide +kernel
theorem dX5_fitsFirst_134 : decode cX5_fitsFirst 134 = .ok (.ifCond .ne 15, 3) := by decide +kernel
theorem dX5_fitsFirst_137 : decode cX5_fitsFirst 137 = .ok (.lload 10, 2) := by decide +kernel
theorem dX5_fitsFirst_139 : decode cX5_fitsFirst 139 = .ok (.lload 5, 2) := by decide +kernel
theorem dX5_fitsFirst_141 : decode cX5_fitsFirst 141 = .ok (.lcmp, 1) := by decide +kernel
theorem dX5_fitsFirst_142 : decode cX5_fitsFirst 142 = .ok (.ifCond .ne 7, 3) := by decide +kernel
theorem dX5_fitsFirst_145 : decode cX5_fitsFirst 145 = .ok (.iconst 1, 1) := by decide +kernel
theorem dX5_fitsFirst_146 : decode cX5_fitsFirst 146 = .ok (.goto 4, 3) := by decide +kernel
theorem dX5_fitsFirst_149 : decode cX5_fitsFirst 149 = .ok (.iconst 0, 1) := by decide +kernel
theorem dX5_fitsFirst_150 : decode cX5_fitsFirst 150 = .ok (.ireturn, 1) := by decide +kernel
set_option maxRecDepth 20000 in
theorem ggX6_init_X1_init : GoodIn wsX6_init wsX1_init := goodIn_r _ [24, 25, 2, 3, 20, 26, 27, 28, 29, 56, 57, 58, 59] rfl (by decide +kernel)
set_option maxRecDepth 20000 in
theorem gX6_init_X1_init_n9 : GoodIn wsX6_init (wsX1_init) := ggX6_init_X1_init
set_option maxRecDepth 20000 in
theorem ggX6_init_X4_init : GoodIn wsX6_init wsX4_init := goodIn_r _ [31, 32, 2, 3, 20, 33, 34, 35, 36, 37, 38, 39, 40, 41, 42, 43, 44, 45, 46, 66, 67, 68, 69, 70, 71, 72, 73, 74, 75, 76, 77, 78, 79, 80] rfl (by decide +kernel)
set_option maxRecDepth 20000 in
theorem gX6_init_X4_init_n18 : GoodIn wsX6_init (wsX4_init) := ggX6_init_X4_init
set_option maxRecDepth 20000 in
theorem ggX6_init_X0_init : GoodIn wsX6_init wsX0_init := goodIn_r _ [48, 49, 2, 3, 50, 9, 10, 51, 30, 31, 32, 20, 33, 34, 35, 36, 37, 38, 39, 40, 41, 42, 43, 44, 45, 46, 66, 67, 68, 69, 70, 71, 72, 73, 74, 75, 76, 77, 78, 79, 80, 81, 82, 83, 84, 85] rfl (by decide +kernel)
set_option maxRecDepth 20000 in
theorem gX6_init_X0_init_n25 : GoodIn wsX6_init (wsX0_init) := ggX6_init_X0_init
set_option maxRecDepth 20000 in
theorem ggX6_init_X5_init : GoodIn wsX6_init wsX5_init := goodIn_r _ [53, 54, 2, 3, 28, 55, 86, 87, 88, 89] rfl (by decide +kernel)
set_option maxRecDepth 20000 in
theorem gX6_init_X5_init_n32 : GoodIn wsX6_init (wsX5_init) := ggX6_init_X5_init
theorem dX6_init_0 : decode cX6_init 0 = .ok (.aload_n 0, 1) := by decide +kernel
theorem dX6_init_1 : decode cX6_init 1 = .ok (.invokespecial 1, 3) := by decide +kernel
theorem dX6_init_4 : decode cX6_init 4 = .ok (.aload_n 0, 1) := by decide +kernel
theorem dX6_init_5 : decode cX6_init 5 = .ok (.new 7, 3) := by decide +kernel
theorem dX6_init_8 : decode cX6_init 8 = .ok (.dup, 1) := by decide +kernel
theorem dX6_init_9 : decode cX6_init 9 = .ok (.invokespecial 9, 3) := by decide +kernel
theorem dX6_init_12 : decode cX6_init 12 = .ok (.putfield 10, 3) := by decide +kernel
theorem dX6_init_15 : decode cX6_init 15 = .ok (.aload_n 0, 1) := by decide +kernel
theorem dX6_init_16 : decode cX6_init 16 = .ok (.new 16, 3) := by decide +kernel
theorem dX6_init_19 : decode cX6_init 19 = .ok (.dup, 1) := by decide +kernel
theorem dX6_init_20 : decode cX6_init 20 = .ok (.invokespecial 18, 3) := by decide +kernel
theorem dX6_init_23 : decode cX6_init 23 = .ok (.putfield 19, 3) := by decide +kernel
theorem dX6_init_26 : decode cX6_init 26 = .ok (.aload_n 0, 1) := by decide +kernel
theorem dX6_init_27 : decode cX6_init 27 = .ok (.new 23, 3) := by decide +kernel
theorem dX6_init_30 : decode cX6_init 30 = .ok (.dup, 1) := by decide +kernel
theorem dX6_init_31 : decode cX6_init 31 = .ok (.invokespecial 25, 3) := by decide +kernel
theorem dX6_init_34 : decode cX6_init 34 = .ok (.putfield 26, 3) := by decide +kernel
theorem dX6_init_37 : decode cX6_init 37 = .ok (.aload_n 0, 1) := by decide +kernel
theorem dX6_init_38 : decode cX6_init 38 = .ok (.new 30, 3) := by decide +kernel
theorem dX6_init_41 : decode cX6_init 41 = .ok (.dup, 1) := by decide +kernel
theorem dX6_init_42 : decode cX6_init 42 = .ok (.invokespecial 32, 3) := by decide +kernel
theorem dX6_init_45 : decode cX6_init 45 = .ok (.putfield 33, 3) := by decide +kernel
theorem dX6_init_48 : decode cX6_init 48 = .ok (.aload_n 0, 1) := by decide +kernel
theorem dX6_init_49 : decode cX6_init 49 = .ok (.iconst 3, 1) := by decide +kernel
theorem dX6_init_50 : decode cX6_init 50 = .ok (.newarray .int, 2) := by decide +kernel
theorem dX6_init_52 : decode cX6_init 52 = .ok (.putfield 37, 3) := by decide +kernel
theorem dX6_init_55 : decode cX6_init 55 = .ok (.aload_n 0, 1) := by decide +kernel
theorem dX6_init_56 : decode cX6_init 56 = .ok (.iconst 0, 1) := by decide +kernel
theorem dX6_init_57 : decode cX6_init 57 = .ok (.putfield 41, 3) := by decide +kernel
theorem dX6_init_60 : decode cX6_init 60 = .ok (.return_, 1) := by decide +kernel
set_option maxRecDepth 20000 in
theorem ggX6_begin_X3_isNumber : GoodIn wsX6_begin wsX3_isNumber := goodIn_r _ [10] rfl (by decide +kernel)
set_option maxRecDepth 20000 in
theorem gX6_begin_X3_isNumber : GoodIn wsX6_begin (va_wsS RX6 45 yX3_isNumber wsX3_isNumber) := goodIn_app (goodIn_r _ [7, 8, 9] rfl (by decide +kernel)) ggX6_begin_X3_isNumber
set_option maxRecDepth 20000 in
theorem ggX6_begin_X3_ofBase : GoodIn wsX6_begin wsX3_ofBase := goodIn_r _ [13, 14, 15, 9, 16] rfl (by decide +kernel)
set_option maxRecDepth 20000 in
theorem gX6_begin_X3_ofBase : GoodIn wsX6_begin (va_wsS RX6 58 yX3_ofBase wsX3_ofBase) := goodIn_app (goodIn_r _ [11, 12, 9] rfl (by decide +kernel)) ggX6_begin_X3_ofBase
set_option maxRecDepth 20000 in
theorem ggX6_begin_X4_start : GoodIn wsX6_begin wsX4_start := goodIn_r _ [21, 22, 23, 24, 25, 26, 27, 28, 9, 29, 52, 53, 54, 55, 56, 57, 58, 59, 60, 61, 62, 63, 64, 65, 66] rfl (by decide +kernel)
set_option maxRecDepth 20000 in
theorem gX6_begin_X4_start : GoodIn wsX6_begin (wsV RX6 62 RX4 yX4_start wsX4_start) := goodIn_app (goodIn_r _ [17, 18, 19, 20] rfl (by decide +kernel)) ggX6_begin_X4_start
set_option maxRecDepth 20000 in
theorem ggX6_begin_X1_empty : GoodIn wsX6_begin wsX1_empty := goodIn_r _ [34, 35, 67, 68, 69, 70] rfl (by decide +kernel)
set_option maxRecDepth 20000 in
theorem gX6_begin_X1_empty : GoodIn wsX6_begin (wsV RX6 66 RX1 yX1_empty wsX1_empty) := goodIn_app (goodIn_r _ [30, 31, 32, 33] rfl (by decide +kernel)) ggX6_begin_X1_empty
set_option maxRecDepth 20000 in
theorem ggX6_begin_X1_put : GoodIn wsX6_begin wsX1_put := goodIn_r _ [39, 35, 40, 41, 42, 43, 33, 44, 45, 67, 68, 69, 70] rfl (by decide +kernel)
set_option maxRecDepth 20000 in
theorem gX6_begin_X1_put : GoodIn wsX6_begin (wsV RX6 72 RX1 yX1_put wsX1_put) := goodIn_app (goodIn_r _ [36, 37, 38, 33] rfl (by decide +kernel)) ggX6_begin_X1_put
theorem dX6_begin_0 : decode cX6_begin 0 = .ok (.iload_n 1, 1) := by decide +kernel
theorem dX6_begin_1 : decode cX6_begin 1 = .ok (.invokestatic 45, 3) := by decide +kernel
theorem dX6_begin_4 : decode cX6_begin 4 = .ok (.ifCond .eq 17, 3) := by decide +kernel
theorem dX6_begin_7 : decode cX6_begin 7 = .ok (.iload_n 2, 1) := by decide +kernel
theorem dX6_begin_8 : decode cX6_begin 8 = .ok (.invokestatic 45, 3) := by decide +kernel
theorem dX6_begin_11 : decode cX6_begin 11 = .ok (.ifCond .eq 10, 3) := by decide +kernel
theorem dX6_begin_14 : decode cX6_begin 14 = .ok (.iload_n 3, 1) := by decide +kernel
theorem dX6_begin_15 : decode cX6_begin 15 = .ok (.invokestatic 45, 3) := by decide +kernel
theorem dX6_begin_18 : decode cX6_begin 18 = .ok (.ifCond .ne 13, 3) := by decide +kernel
theorem dX6_begin_21 : decode cX6_begin 21 = .ok (.new 51, 3) := by decide +kernel
theorem dX6_begin_24 : decode cX6_begin 24 = .ok (.dup, 1) := by decide +kernel
theorem dX6_begin_25 : decode cX6_begin 25 = .ok (.ldc 53, 2) := by decide +kernel
theorem dX6_begin_27 : decode cX6_begin 27 = .ok (.invokespecial 55, 3) := by decide +kernel
theorem dX6_begin_30 : decode cX6_begin 30 = .ok (.athrow, 1) := by decide +kernel
theorem dX6_begin_31 : decode cX6_begin 31 = .ok (.aload_n 0, 1) := by decide +kernel
theorem dX6_begin_32 : decode cX6_begin 32 = .ok (.getfield 37, 3) := by decide +kernel
theorem dX6_begin_35 : decode cX6_begin 35 = .ok (.iconst 0, 1) := by decide +kernel
theorem dX6_begin_36 : decode cX6_begin 36 = .ok (.iload_n 1, 1) := by decide +kernel
theorem dX6_begin_37 : decode cX6_begin 37 = .ok (.iastore, 1) := by decide +kernel
theorem dX6_begin_38 : decode cX6_begin 38 = .ok (.aload_n 0, 1) := by decide +kernel
theorem dX6_begin_39 : decode cX6_begin 39 = .ok (.getfield 37, 3) := by decide +kernel
theorem dX6_begin_42 : decode cX6_begin 42 = .ok (.iconst 1, 1) := by decide +kernel
theorem dX6_begin_43 : decode cX6_begin 43 = .ok (.iload_n 2, 1) := by decide +kernel
theorem dX6_begin_44 : decode cX6_begin 44 = .ok (.iastore, 1) := by decide +kernel
theorem dX6_begin_45 : decode cX6_begin 45 = .ok (.aload_n 0, 1) := by decide +kernel
theorem dX6_begin_46 : decode cX6_begin 46 = .ok (.getfield 37, 3) := by decide +kernel
theorem dX6_begin_49 : decode cX6_begin 49 = .ok (.iconst 2, 1) := by decide +kernel
theorem dX6_begin_50 : decode cX6_begin 50 = .ok (.iload_n 3, 1) := by decide +kernel
theorem dX6_begin_51 : decode cX6_begin 51 = .ok (.iastore, 1) := by decide +kernel
theorem dX6_begin_52 : decode cX6_begin 52 = .ok (.aload_n 0, 1) := by decide +kernel
theorem dX6_begin_53 : decode cX6_begin 53 = .ok (.getfield 19, 3) := by decide +kernel
theorem dX6_begin_56 : decode cX6_begin 56 = .ok (.iload_n 1, 1) := by decide +kernel
theorem dX6_begin_57 : decode cX6_begin 57 = .ok (.invokestatic 58, 3) := by decide +kernel
theorem dX6_begin_60 : decode cX6_begin 60 = .ok (.iload_n 2, 1) := by decide +kernel
theorem dX6_begin_61 : decode cX6_begin 61 = .ok (.invokestatic 58, 3) := by decide +kernel
theorem dX6_begin_64 : decode cX6_begin 64 = .ok (.iload_n 3, 1) := by decide +kernel
theorem dX6_begin_65 : decode cX6_begin 65 = .ok (.invokestatic 58, 3) := by decide +kernel
theorem dX6_begin_68 : decode cX6_begin 68 = .ok (.invokevirtual 62, 3) := by decide +kernel
theorem dX6_begin_71 : decode cX6_begin 71 = .ok (.aload_n 0, 1) := by decide +kernel
theorem dX6_begin_72 : decode cX6_begin 72 = .ok (.getfield 10, 3) := by decide +kernel
theorem dX6_begin_75 : decode cX6_begin 75 = .ok (.invokevirtual 66, 3) := by decide +kernel
theorem dX6_begin_78 : decode cX6_begin 78 = .ok (.aload_n 0, 1) := by decide +kernel
theorem dX6_begin_79 : decode cX6_begin 79 = .ok (.getfield 10, 3) := by decide +kernel
theorem dX6_begin_82 : decode cX6_begin 82 = .ok (.iconst 0, 1) := by decide +kernel
theorem dX6_begin_83 : decode cX6_begin 83 = .ok (.aload_n 0, 1) := by decide +kernel
theorem dX6_begin_84 : decode cX6_begin 84 = .ok (.getfield 19, 3) := by decide +kernel
theorem dX6_begin_87 : decode cX6_begin 87 = .ok (.getfield 69, 3) := by decide +kernel
theorem dX6_begin_90 : decode cX6_begin 90 = .ok (.iconst 0, 1) := by decide +kernel
theorem dX6_begin_91 : decode cX6_begin 91 = .ok (.iaload, 1) := by decide +kernel
theorem dX6_begin_92 : decode cX6_begin 92 = .ok (.aload_n 0, 1) := by decide +kernel
theorem dX6_begin_93 : decode cX6_begin 93 = .ok (.getfield 19, 3) := by decide +kernel
theorem dX6_begin_96 : decode cX6_begin 96 = .ok (.getfield 69, 3) := by decide +kernel
theorem dX6_begin_99 : decode cX6_begin 99 = .ok (.iconst 1, 1) := by decide +kernel
theorem dX6_begin_100 : decode cX6_begin 100 = .ok (.iaload, 1) := by decide +kernel
theorem dX6_begin_101 : decode cX6_begin 101 = .ok (.aload_n 0, 1) := by decide +kernel
theorem dX6_begin_102 : decode cX6_begin 102 = .ok (.getfield 19, 3) := by decide +kernel
theorem dX6_begin_105 : decode cX6_begin 105 = .ok (.getfield 69, 3) := by decide +kernel
theorem dX6_begin_108 : decode cX6_begin 108 = .ok (.iconst 2, 1) := by decide +kernel
theorem dX6_begin_109 : decode cX6_begin 109 = .ok (.iaload, 1) := by decide +kernel
theorem dX6_begin_110 : decode cX6_begin 110 = .ok (.invokevirtual 72, 3) := by decide +kernel
theorem dX6_begin_113 : decode cX6_begin 113 = .ok (.pop, 1) := by decide +kernel
theorem dX6_begin_114 : decode cX6_begin 114 = .ok (.aload_n 0, 1) := by decide +kernel
theorem dX6_begin_115 : decode cX6_begin 115 = .ok (.iconst 1, 1) := by decide +kernel
theorem dX6_begin_116 : decode cX6_begin 116 = .ok (.putfield 41, 3) := by decide +kernel
theorem dX6_begin_119 : decode cX6_begin 119 = .ok (.return_, 1) := by decide +kernel
set_option maxRecDepth 20000 in
theorem ggX6_register_X6_isVoter : GoodIn wsX6_register wsX6_isVoter := goodIn_r _ [13] rfl (by decide +kernel)
set_option maxRecDepth 20000 in
theorem gX6_register_X6_isVoter : GoodIn wsX6_register (va_wsS RX6 76 yX6_isVoter wsX6_isVoter) := goodIn_app (goodIn_r _ [10, 11, 12] rfl (by decide +kernel)) ggX6_register_X6_isVoter
set_option maxRecDepth 20000 in
theorem ggX6_register_X1_hasRoom : GoodIn wsX6_register wsX1_hasRoom := goodIn_r _ [18, 19, 51, 52, 53, 54] rfl (by decide +kernel)
set_option maxRecDepth 20000 in
theorem gX6_register_X1_hasRoom : GoodIn wsX6_register (wsV RX6 90 RX1 yX1_hasRoom wsX1_hasRoom) := goodIn_app (goodIn_r _ [14, 15, 16, 17] rfl (by decide +kernel)) ggX6_register_X1_hasRoom
set_option maxRecDepth 20000 in
theorem ggX6_register_X1_put : GoodIn wsX6_register wsX1_put := goodIn_r _ [23, 19, 24, 25, 26, 27, 17, 28, 29, 51, 52, 53, 54] rfl (by decide +kernel)
set_option maxRecDepth 20000 in
theorem gX6_register_X1_put : GoodIn wsX6_register (wsV RX6 72 RX1 yX1_put wsX1_put) := goodIn_app (goodIn_r _ [20, 21, 22, 17] rfl (by decide +kernel)) ggX6_register_X1_put
theorem dX6_register_0 : decode cX6_register 0 = .ok (.iload_n 1, 1) := by decide +kernel
theorem dX6_register_1 : decode cX6_register 1 = .ok (.invokestatic 76, 3) := by decide +kernel
theorem dX6_register_4 : decode cX6_register 4 = .ok (.ifCond .ne 13, 3) := by decide +kernel
theorem dX6_register_7 : decode cX6_register 7 = .ok (.new 51, 3) := by decide +kernel
theorem dX6_register_10 : decode cX6_register 10 = .ok (.dup, 1) := by decide +kernel
theorem dX6_register_11 : decode cX6_register 11 = .ok (.ldc 79, 2) := by decide +kernel
theorem dX6_register_13 : decode cX6_register 13 = .ok (.invokespecial 55, 3) := by decide +kernel
theorem dX6_register_16 : decode cX6_register 16 = .ok (.athrow, 1) := by decide +kernel
theorem dX6_register_17 : decode cX6_register 17 = .ok (.aload_n 0, 1) := by decide +kernel
theorem dX6_register_18 : decode cX6_register 18 = .ok (.getfield 41, 3) := by decide +kernel
theorem dX6_register_21 : decode cX6_register 21 = .ok (.iconst 1, 1) := by decide +kernel
theorem dX6_register_22 : decode cX6_register 22 = .ok (.if_icmp .ne 15, 3) := by decide +kernel
theorem dX6_register_25 : decode cX6_register 25 = .ok (.aload_n 0, 1) := by decide +kernel
theorem dX6_register_26 : decode cX6_register 26 = .ok (.getfield 19, 3) := by decide +kernel
theorem dX6_register_29 : decode cX6_register 29 = .ok (.getfield 81, 3) := by decide +kernel
theorem dX6_register_32 : decode cX6_register 32 = .ok (.iload_n 1, 1) := by decide +kernel
theorem dX6_register_33 : decode cX6_register 33 = .ok (.baload, 1) := by decide +kernel
theorem dX6_register_34 : decode cX6_register 34 = .ok (.ifCond .eq 13, 3) := by decide +kernel
theorem dX6_register_37 : decode cX6_register 37 = .ok (.new 85, 3) := by decide +kernel
theorem dX6_register_40 : decode cX6_register 40 = .ok (.dup, 1) := by decide +kernel
theorem dX6_register_41 : decode cX6_register 41 = .ok (.ldc 87, 2) := by decide +kernel
theorem dX6_register_43 : decode cX6_register 43 = .ok (.invokespecial 89, 3) := by decide +kernel
theorem dX6_register_46 : decode cX6_register 46 = .ok (.athrow, 1) := by decide +kernel
theorem dX6_register_47 : decode cX6_register 47 = .ok (.aload_n 0, 1) := by decide +kernel
theorem dX6_register_48 : decode cX6_register 48 = .ok (.getfield 10, 3) := by decide +kernel
theorem dX6_register_51 : decode cX6_register 51 = .ok (.iconst 1, 1) := by decide +kernel
theorem dX6_register_52 : decode cX6_register 52 = .ok (.invokevirtual 90, 3) := by decide +kernel
theorem dX6_register_55 : decode cX6_register 55 = .ok (.ifCond .ne 13, 3) := by decide +kernel
theorem dX6_register_58 : decode cX6_register 58 = .ok (.new 93, 3) := by decide +kernel
theorem dX6_register_61 : decode cX6_register 61 = .ok (.dup, 1) := by decide +kernel
theorem dX6_register_62 : decode cX6_register 62 = .ok (.ldc 95, 2) := by decide +kernel
theorem dX6_register_64 : decode cX6_register 64 = .ok (.invokespecial 97, 3) := by decide +kernel
theorem dX6_register_67 : decode cX6_register 67 = .ok (.athrow, 1) := by decide +kernel
theorem dX6_register_68 : decode cX6_register 68 = .ok (.aload_n 0, 1) := by decide +kernel
theorem dX6_register_69 : decode cX6_register 69 = .ok (.getfield 19, 3) := by decide +kernel
theorem dX6_register_72 : decode cX6_register 72 = .ok (.getfield 81, 3) := by decide +kernel
theorem dX6_register_75 : decode cX6_register 75 = .ok (.iload_n 1, 1) := by decide +kernel
theorem dX6_register_76 : decode cX6_register 76 = .ok (.iconst 1, 1) := by decide +kernel
theorem dX6_register_77 : decode cX6_register 77 = .ok (.bastore, 1) := by decide +kernel
theorem dX6_register_78 : decode cX6_register 78 = .ok (.aload_n 0, 1) := by decide +kernel
theorem dX6_register_79 : decode cX6_register 79 = .ok (.getfield 10, 3) := by decide +kernel
theorem dX6_register_82 : decode cX6_register 82 = .ok (.iconst 1, 1) := by decide +kernel
theorem dX6_register_83 : decode cX6_register 83 = .ok (.iload_n 1, 1) := by decide +kernel
theorem dX6_register_84 : decode cX6_register 84 = .ok (.iconst 0, 1) := by decide +kernel
theorem dX6_register_85 : decode cX6_register 85 = .ok (.iconst 0, 1) := by decide +kernel
theorem dX6_register_86 : decode cX6_register 86 = .ok (.invokevirtual 72, 3) := by decide +kernel
theorem dX6_register_89 : decode cX6_register 89 = .ok (.pop, 1) := by decide +kernel
theorem dX6_register_90 : decode cX6_register 90 = .ok (.return_, 1) := by decide +kernel
set_option maxRecDepth 20000 in
theorem ggX6_cast_X6_isVoter : GoodIn wsX6_cast wsX6_isVoter := goodIn_r _ [13] rfl (by decide +kernel)
set_option maxRecDepth 20000 in
theorem gX6_cast_X6_isVoter : GoodIn wsX6_cast (va_wsS RX6 76 yX6_isVoter wsX6_isVoter) := goodIn_app (goodIn_r _ [10, 11, 12] rfl (by decide +kernel)) ggX6_cast_X6_isVoter
set_option maxRecDepth 20000 in
theorem ggX6_cast_X6_isChoice : GoodIn wsX6_cast wsX6_isChoice := goodIn_r _ [16] rfl (by decide +kernel)
set_option maxRecDepth 20000 in
theorem gX6_cast_X6_isChoice : GoodIn wsX6_cast (va_wsS RX6 98 yX6_isChoice wsX6_isChoice) := goodIn_app (goodIn_r _ [14, 15, 12] rfl (by decide +kernel)) ggX6_cast_X6_isChoice
set_option maxRecDepth 20000 in
theorem ggX6_cast_X3_isNumber : GoodIn wsX6_cast wsX3_isNumber := goodIn_r _ [20] rfl (by decide +kernel)
set_option maxRecDepth 20000 in
theorem gX6_cast_X3_isNumber : GoodIn wsX6_cast (va_wsS RX6 45 yX3_isNumber wsX3_isNumber) := goodIn_app (goodIn_r _ [17, 18, 19] rfl (by decide +kernel)) ggX6_cast_X3_isNumber
set_option maxRecDepth 20000 in
theorem ggX6_cast_X1_hasRoom : GoodIn wsX6_cast wsX1_hasRoom := goodIn_r _ [25, 26, 76, 77, 78, 79] rfl (by decide +kernel)
set_option maxRecDepth 20000 in
theorem gX6_cast_X1_hasRoom : GoodIn wsX6_cast (wsV RX6 90 RX1 yX1_hasRoom wsX1_hasRoom) := goodIn_app (goodIn_r _ [21, 22, 23, 24] rfl (by decide +kernel)) ggX6_cast_X1_hasRoom
set_option maxRecDepth 20000 in
theorem ggX6_cast_X3_ofBase : GoodIn wsX6_cast wsX3_ofBase := goodIn_r _ [29, 30, 31, 19, 32] rfl (by decide +kernel)
set_option maxRecDepth 20000 in
theorem gX6_cast_X3_ofBase : GoodIn wsX6_cast (va_wsS RX6 58 yX3_ofBase wsX3_ofBase) := goodIn_app (goodIn_r _ [27, 28, 19] rfl (by decide +kernel)) ggX6_cast_X3_ofBase
set_option maxRecDepth 20000 in
theorem ggX6_cast_X3_power : GoodIn wsX6_cast wsX3_power := goodIn_r _ [32] rfl (by decide +kernel)
set_option maxRecDepth 20000 in
theorem gX6_cast_X3_power : GoodIn wsX6_cast (va_wsS RX6 108 yX3_power wsX3_power) := goodIn_app (goodIn_r _ [33, 31, 19] rfl (by decide +kernel)) ggX6_cast_X3_power
set_option maxRecDepth 20000 in
theorem ggX6_cast_X3_times : GoodIn wsX6_cast wsX3_times := goodIn_r _ [36] rfl (by decide +kernel)
set_option maxRecDepth 20000 in
theorem gX6_cast_X3_times : GoodIn wsX6_cast (va_wsS RX6 112 yX3_times wsX3_times) := goodIn_app (goodIn_r _ [34, 35, 19] rfl (by decide +kernel)) ggX6_cast_X3_times
set_option maxRecDepth 20000 in
theorem ggX6_cast_X4_keepBallot : GoodIn wsX6_cast wsX4_keepBallot := goodIn_r _ [41, 42, 43, 44, 61, 62, 63, 64, 65, 66, 67, 68, 69, 70, 71, 72, 73, 74, 75] rfl (by decide +kernel)
set_option maxRecDepth 20000 in
theorem gX6_cast_X4_keepBallot : GoodIn wsX6_cast (wsV RX6 115 RX4 yX4_keepBallot wsX4_keepBallot) := goodIn_app (goodIn_r _ [37, 38, 39, 40] rfl (by decide +kernel)) ggX6_cast_X4_keepBallot
set_option maxRecDepth 20000 in
theorem ggX6_cast_X1_put : GoodIn wsX6_cast wsX1_put := goodIn_r _ [48, 26, 49, 50, 51, 52, 24, 53, 54, 76, 77, 78, 79] rfl (by decide +kernel)
set_option maxRecDepth 20000 in
theorem gX6_cast_X1_put : GoodIn wsX6_cast (wsV RX6 72 RX1 yX1_put wsX1_put) := goodIn_app (goodIn_r _ [45, 46, 47, 24] rfl (by decide +kernel)) ggX6_cast_X1_put
theorem dX6_cast_0 : decode cX6_cast 0 = .ok (.iload_n 1, 1) := by decide +kernel
theorem dX6_cast_1 : decode cX6_cast 1 = .ok (.invokestatic 76, 3) := by decide +kernel
theorem dX6_cast_4 : decode cX6_cast 4 = .ok (.ifCond .eq 17, 3) := by decide +kernel
theorem dX6_cast_7 : decode cX6_cast 7 = .ok (.iload_n 2, 1) := by decide +kernel
theorem dX6_cast_8 : decode cX6_cast 8 = .ok (.invokestatic 98, 3) := by decide +kernel
theorem dX6_cast_11 : decode cX6_cast 11 = .ok (.ifCond .eq 10, 3) := by decide +kernel
theorem dX6_cast_14 : decode cX6_cast 14 = .ok (.iload_n 3, 1) := by decide +kernel
theorem dX6_cast_15 : decode cX6_cast 15 = .ok (.invokestatic 45, 3) := by decide +kernel
theorem dX6_cast_18 : decode cX6_cast 18 = .ok (.ifCond .ne 13, 3) := by decide +kernel
theorem dX6_cast_21 : decode cX6_cast 21 = .ok (.new 51, 3) := by decide +kernel
theorem dX6_cast_24 : decode cX6_cast 24 = .ok (.dup, 1) := by decide +kernel
theorem dX6_cast_25 : decode cX6_cast 25 = .ok (.ldc 101, 2) := by decide +kernel
theorem dX6_cast_27 : decode cX6_cast 27 = .ok (.invokespecial 55, 3) := by decide +kernel
theorem dX6_cast_30 : decode cX6_cast 30 = .ok (.athrow, 1) := by decide +kernel
theorem dX6_cast_31 : decode cX6_cast 31 = .ok (.aload_n 0, 1) := by decide +kernel
theorem dX6_cast_32 : decode cX6_cast 32 = .ok (.getfield 41, 3) := by decide +kernel
theorem dX6_cast_35 : decode cX6_cast 35 = .ok (.iconst 1, 1) := by decide +kernel
theorem dX6_cast_36 : decode cX6_cast 36 = .ok (.if_icmp .ne 15, 3) := by decide +kernel
theorem dX6_cast_39 : decode cX6_cast 39 = .ok (.aload_n 0, 1) := by decide +kernel
theorem dX6_cast_40 : decode cX6_cast 40 = .ok (.getfield 19, 3) := by decide +kernel
theorem dX6_cast_43 : decode cX6_cast 43 = .ok (.getfield 81, 3) := by decide +kernel
theorem dX6_cast_46 : decode cX6_cast 46 = .ok (.iload_n 1, 1) := by decide +kernel
theorem dX6_cast_47 : decode cX6_cast 47 = .ok (.baload, 1) := by decide +kernel
theorem dX6_cast_48 : decode cX6_cast 48 = .ok (.ifCond .ne 13, 3) := by decide +kernel
theorem dX6_cast_51 : decode cX6_cast 51 = .ok (.new 85, 3) := by decide +kernel
theorem dX6_cast_54 : decode cX6_cast 54 = .ok (.dup, 1) := by decide +kernel
theorem dX6_cast_55 : decode cX6_cast 55 = .ok (.ldc 103, 2) := by decide +kernel
theorem dX6_cast_57 : decode cX6_cast 57 = .ok (.invokespecial 89, 3) := by decide +kernel
theorem dX6_cast_60 : decode cX6_cast 60 = .ok (.athrow, 1) := by decide +kernel
theorem dX6_cast_61 : decode cX6_cast 61 = .ok (.aload_n 0, 1) := by decide +kernel
theorem dX6_cast_62 : decode cX6_cast 62 = .ok (.getfield 10, 3) := by decide +kernel
theorem dX6_cast_65 : decode cX6_cast 65 = .ok (.iconst 1, 1) := by decide +kernel
theorem dX6_cast_66 : decode cX6_cast 66 = .ok (.invokevirtual 90, 3) := by decide +kernel
theorem dX6_cast_69 : decode cX6_cast 69 = .ok (.ifCond .ne 13, 3) := by decide +kernel
theorem dX6_cast_72 : decode cX6_cast 72 = .ok (.new 93, 3) := by decide +kernel
theorem dX6_cast_75 : decode cX6_cast 75 = .ok (.dup, 1) := by decide +kernel
theorem dX6_cast_76 : decode cX6_cast 76 = .ok (.ldc 95, 2) := by decide +kernel
theorem dX6_cast_78 : decode cX6_cast 78 = .ok (.invokespecial 97, 3) := by decide +kernel
theorem dX6_cast_81 : decode cX6_cast 81 = .ok (.athrow, 1) := by decide +kernel
theorem dX6_cast_82 : decode cX6_cast 82 = .ok (.iload_n 3, 1) := by decide +kernel
theorem dX6_cast_83 : decode cX6_cast 83 = .ok (.invokestatic 58, 3) := by decide +kernel
theorem dX6_cast_86 : decode cX6_cast 86 = .ok (.istore 4, 2) := by decide +kernel
theorem dX6_cast_88 : decode cX6_cast 88 = .ok (.iload_n 2, 1) := by decide +kernel
theorem dX6_cast_89 : decode cX6_cast 89 = .ok (.invokestatic 58, 3) := by decide +kernel
theorem dX6_cast_92 : decode cX6_cast 92 = .ok (.aload_n 0, 1) := by decide +kernel
theorem dX6_cast_93 : decode cX6_cast 93 = .ok (.getfield 19, 3) := by decide +kernel
theorem dX6_cast_96 : decode cX6_cast 96 = .ok (.getfield 105, 3) := by decide +kernel
theorem dX6_cast_99 : decode cX6_cast 99 = .ok (.iload_n 3, 1) := by decide +kernel
theorem dX6_cast_100 : decode cX6_cast 100 = .ok (.invokestatic 108, 3) := by decide +kernel
theorem dX6_cast_103 : decode cX6_cast 103 = .ok (.invokestatic 112, 3) := by decide +kernel
theorem dX6_cast_106 : decode cX6_cast 106 = .ok (.istore 5, 2) := by decide +kernel
theorem dX6_cast_108 : decode cX6_cast 108 = .ok (.aload_n 0, 1) := by decide +kernel
theorem dX6_cast_109 : decode cX6_cast 109 = .ok (.getfield 19, 3) := by decide +kernel
theorem dX6_cast_112 : decode cX6_cast 112 = .ok (.iload_n 1, 1) := by decide +kernel
theorem dX6_cast_113 : decode cX6_cast 113 = .ok (.iload 4, 2) := by decide +kernel
theorem dX6_cast_115 : decode cX6_cast 115 = .ok (.iload 5, 2) := by decide +kernel
theorem dX6_cast_117 : decode cX6_cast 117 = .ok (.invokevirtual 115, 3) := by decide +kernel
theorem dX6_cast_120 : decode cX6_cast 120 = .ok (.aload_n 0, 1) := by decide +kernel
theorem dX6_cast_121 : decode cX6_cast 121 = .ok (.getfield 10, 3) := by decide +kernel
theorem dX6_cast_124 : decode cX6_cast 124 = .ok (.iconst 2, 1) := by decide +kernel
theorem dX6_cast_125 : decode cX6_cast 125 = .ok (.iload_n 1, 1) := by decide +kernel
theorem dX6_cast_126 : decode cX6_cast 126 = .ok (.iload 4, 2) := by decide +kernel
theorem dX6_cast_128 : decode cX6_cast 128 = .ok (.iload 5, 2) := by decide +kernel
theorem dX6_cast_130 : decode cX6_cast 130 = .ok (.invokevirtual 72, 3) := by decide +kernel
theorem dX6_cast_133 : decode cX6_cast 133 = .ok (.ireturn, 1) := by decide +kernel
set_option maxRecDepth 20000 in
theorem ggX6_close_X4_ballotVoters : GoodIn wsX6_close wsX4_ballotVoters := goodIn_r _ [12, 13, 51, 52, 53, 54, 55, 56, 57, 58, 59, 60, 61, 62, 63, 64, 65] rfl (by decide +kernel)
set_option maxRecDepth 20000 in
theorem gX6_close_X4_ballotVoters : GoodIn wsX6_close (wsV RX6 120 RX4 yX4_ballotVoters wsX4_ballotVoters) := goodIn_app (goodIn_r _ [8, 9, 10, 11] rfl (by decide +kernel)) ggX6_close_X4_ballotVoters
set_option maxRecDepth 20000 in
theorem ggX6_close_X1_hasRoom : GoodIn wsX6_close wsX1_hasRoom := goodIn_r _ [18, 19, 66, 67, 68, 69] rfl (by decide +kernel)
set_option maxRecDepth 20000 in
theorem gX6_close_X1_hasRoom : GoodIn wsX6_close (wsV RX6 90 RX1 yX1_hasRoom wsX1_hasRoom) := goodIn_app (goodIn_r _ [14, 15, 16, 17] rfl (by decide +kernel)) ggX6_close_X1_hasRoom
set_option maxRecDepth 20000 in
theorem ggX6_close_X4_gatherEntries : GoodIn wsX6_close wsX4_gatherEntries := goodIn_r _ [23, 24, 13, 25, 26, 27, 28, 29, 51, 52, 53, 54, 55, 56, 57, 58, 59, 60, 61, 62, 63, 64, 65] rfl (by decide +kernel)
set_option maxRecDepth 20000 in
theorem gX6_close_X4_gatherEntries : GoodIn wsX6_close (wsV RX6 124 RX4 yX4_gatherEntries wsX4_gatherEntries) := goodIn_app (goodIn_r _ [20, 21, 22, 11] rfl (by decide +kernel)) ggX6_close_X4_gatherEntries
set_option maxRecDepth 20000 in
theorem ggX6_close_X1_put : GoodIn wsX6_close wsX1_put := goodIn_r _ [33, 19, 34, 35, 36, 37, 17, 38, 39, 66, 67, 68, 69] rfl (by decide +kernel)
set_option maxRecDepth 20000 in
theorem gX6_close_X1_put : GoodIn wsX6_close (wsV RX6 72 RX1 yX1_put wsX1_put) := goodIn_app (goodIn_r _ [30, 31, 32, 17] rfl (by decide +kernel)) ggX6_close_X1_put
set_option maxRecDepth 20000 in
theorem ggX6_close_X6_putEntries : GoodIn wsX6_close wsX6_putEntries := goodIn_r _ [44, 7, 6, 30, 31, 32, 17, 33, 19, 34, 35, 36, 37, 38, 39, 45, 46, 47, 48, 49, 50, 51, 52, 53, 54, 55, 56, 57, 58, 59, 60, 61, 62, 63, 64, 65, 66, 67, 68, 69] rfl (by decide +kernel)
set_option maxRecDepth 20000 in
theorem gX6_close_X6_putEntries : GoodIn wsX6_close (wsV RX6 127 RX6 yX6_putEntries wsX6_putEntries) := goodIn_app (goodIn_r _ [40, 41, 42, 43] rfl (by decide +kernel)) ggX6_close_X6_putEntries
theorem dX6_close_0 : decode cX6_close 0 = .ok (.aload_n 0, 1) := by decide +kernel
theorem dX6_close_1 : decode cX6_close 1 = .ok (.getfield 41, 3) := by decide +kernel
theorem dX6_close_4 : decode cX6_close 4 = .ok (.iconst 1, 1) := by decide +kernel
theorem dX6_close_5 : decode cX6_close 5 = .ok (.if_icmp .eq 13, 3) := by decide +kernel
theorem dX6_close_8 : decode cX6_close 8 = .ok (.new 85, 3) := by decide +kernel
theorem dX6_close_11 : decode cX6_close 11 = .ok (.dup, 1) := by decide +kernel
theorem dX6_close_12 : decode cX6_close 12 = .ok (.ldc 118, 2) := by decide +kernel
theorem dX6_close_14 : decode cX6_close 14 = .ok (.invokespecial 89, 3) := by decide +kernel
theorem dX6_close_17 : decode cX6_close 17 = .ok (.athrow, 1) := by decide +kernel
theorem dX6_close_18 : decode cX6_close 18 = .ok (.aload_n 0, 1) := by decide +kernel
theorem dX6_close_19 : decode cX6_close 19 = .ok (.getfield 10, 3) := by decide +kernel
theorem dX6_close_22 : decode cX6_close 22 = .ok (.iconst 1, 1) := by decide +kernel
theorem dX6_close_23 : decode cX6_close 23 = .ok (.aload_n 0, 1) := by decide +kernel
theorem dX6_close_24 : decode cX6_close 24 = .ok (.getfield 19, 3) := by decide +kernel
theorem dX6_close_27 : decode cX6_close 27 = .ok (.invokevirtual 120, 3) := by decide +kernel
theorem dX6_close_30 : decode cX6_close 30 = .ok (.iadd, 1) := by decide +kernel
theorem dX6_close_31 : decode cX6_close 31 = .ok (.invokevirtual 90, 3) := by decide +kernel
theorem dX6_close_34 : decode cX6_close 34 = .ok (.ifCond .ne 13, 3) := by decide +kernel
theorem dX6_close_37 : decode cX6_close 37 = .ok (.new 93, 3) := by decide +kernel
theorem dX6_close_40 : decode cX6_close 40 = .ok (.dup, 1) := by decide +kernel
theorem dX6_close_41 : decode cX6_close 41 = .ok (.ldc 95, 2) := by decide +kernel
theorem dX6_close_43 : decode cX6_close 43 = .ok (.invokespecial 97, 3) := by decide +kernel
theorem dX6_close_46 : decode cX6_close 46 = .ok (.athrow, 1) := by decide +kernel
theorem dX6_close_47 : decode cX6_close 47 = .ok (.aload_n 0, 1) := by decide +kernel
theorem dX6_close_48 : decode cX6_close 48 = .ok (.getfield 19, 3) := by decide +kernel
theorem dX6_close_51 : decode cX6_close 51 = .ok (.invokevirtual 124, 3) := by decide +kernel
theorem dX6_close_54 : decode cX6_close 54 = .ok (.aload_n 0, 1) := by decide +kernel
theorem dX6_close_55 : decode cX6_close 55 = .ok (.getfield 10, 3) := by decide +kernel
theorem dX6_close_58 : decode cX6_close 58 = .ok (.iconst 3, 1) := by decide +kernel
theorem dX6_close_59 : decode cX6_close 59 = .ok (.iconst 0, 1) := by decide +kernel
theorem dX6_close_60 : decode cX6_close 60 = .ok (.iconst 0, 1) := by decide +kernel
theorem dX6_close_61 : decode cX6_close 61 = .ok (.iconst 0, 1) := by decide +kernel
theorem dX6_close_62 : decode cX6_close 62 = .ok (.invokevirtual 72, 3) := by decide +kernel
theorem dX6_close_65 : decode cX6_close 65 = .ok (.pop, 1) := by decide +kernel
theorem dX6_close_66 : decode cX6_close 66 = .ok (.aload_n 0, 1) := by decide +kernel
theorem dX6_close_67 : decode cX6_close 67 = .ok (.invokevirtual 127, 3) := by decide +kernel
theorem dX6_close_70 : decode cX6_close 70 = .ok (.aload_n 0, 1) := by decide +kernel
theorem dX6_close_71 : decode cX6_close 71 = .ok (.iconst 2, 1) := by decide +kernel
theorem dX6_close_72 : decode cX6_close 72 = .ok (.putfield 41, 3) := by decide +kernel
theorem dX6_close_75 : decode cX6_close 75 = .ok (.aload_n 0, 1) := by decide +kernel
theorem dX6_close_76 : decode cX6_close 76 = .ok (.getfield 19, 3) := by decide +kernel
theorem dX6_close_79 : decode cX6_close 79 = .ok (.getfield 130, 3) := by decide +kernel
theorem dX6_close_82 : decode cX6_close 82 = .ok (.ireturn, 1) := by decide +kernel
set_option maxRecDepth 20000 in
theorem ggX6_mix_X4_isOrder : GoodIn wsX6_mix wsX4_isOrder := goodIn_r _ [14, 15, 77, 78, 79, 80, 81, 82, 83, 84, 85, 86, 87, 88, 89, 90, 91] rfl (by decide +kernel)
set_option maxRecDepth 20000 in
theorem gX6_mix_X4_isOrder : GoodIn wsX6_mix (wsV RX6 135 RX4 yX4_isOrder wsX4_isOrder) := goodIn_app (goodIn_r _ [10, 11, 12, 13] rfl (by decide +kernel)) ggX6_mix_X4_isOrder
set_option maxRecDepth 20000 in
theorem ggX6_mix_X1_hasRoom : GoodIn wsX6_mix wsX1_hasRoom := goodIn_r _ [20, 21, 92, 93, 94, 95] rfl (by decide +kernel)
set_option maxRecDepth 20000 in
theorem gX6_mix_X1_hasRoom : GoodIn wsX6_mix (wsV RX6 90 RX1 yX1_hasRoom wsX1_hasRoom) := goodIn_app (goodIn_r _ [16, 17, 18, 19] rfl (by decide +kernel)) ggX6_mix_X1_hasRoom
set_option maxRecDepth 20000 in
theorem ggX6_mix_X4_mixEntries : GoodIn wsX6_mix wsX4_mixEntries := goodIn_r _ [25, 15, 26, 27, 28, 29, 30, 31, 32, 33, 34, 13, 35, 36, 37, 38, 39, 40, 41, 42, 43, 44, 45, 46, 47, 48, 49, 50, 51, 52, 53, 54, 55, 77, 78, 79, 80, 81, 82, 83, 84, 85, 86, 87, 88, 89, 90, 91] rfl (by decide +kernel)
set_option maxRecDepth 20000 in
theorem gX6_mix_X4_mixEntries : GoodIn wsX6_mix (wsV RX6 140 RX4 yX4_mixEntries wsX4_mixEntries) := goodIn_app (goodIn_r _ [22, 23, 24, 13] rfl (by decide +kernel)) ggX6_mix_X4_mixEntries
set_option maxRecDepth 20000 in
theorem ggX6_mix_X1_put : GoodIn wsX6_mix wsX1_put := goodIn_r _ [59, 21, 60, 61, 62, 63, 19, 64, 65, 92, 93, 94, 95] rfl (by decide +kernel)
set_option maxRecDepth 20000 in
theorem gX6_mix_X1_put : GoodIn wsX6_mix (wsV RX6 72 RX1 yX1_put wsX1_put) := goodIn_app (goodIn_r _ [56, 57, 58, 19] rfl (by decide +kernel)) ggX6_mix_X1_put
set_option maxRecDepth 20000 in
theorem ggX6_mix_X6_putEntries : GoodIn wsX6_mix wsX6_putEntries := goodIn_r _ [70, 8, 9, 56, 57, 58, 19, 59, 21, 60, 61, 62, 63, 64, 65, 71, 72, 73, 74, 75, 76, 77, 78, 79, 80, 81, 82, 83, 84, 85, 86, 87, 88, 89, 90, 91, 92, 93, 94, 95] rfl (by decide +kernel)
set_option maxRecDepth 20000 in
theorem gX6_mix_X6_putEntries : GoodIn wsX6_mix (wsV RX6 127 RX6 yX6_putEntries wsX6_putEntries) := goodIn_app (goodIn_r _ [66, 67, 68, 69] rfl (by decide +kernel)) ggX6_mix_X6_putEntries
theorem dX6_mix_0 : decode cX6_mix 0 = .ok (.aload_n 0, 1) := by decide +kernel
theorem dX6_mix_1 : decode cX6_mix 1 = .ok (.getfield 41, 3) := by decide +kernel
theorem dX6_mix_4 : decode cX6_mix 4 = .ok (.iconst 2, 1) := by decide +kernel
theorem dX6_mix_5 : decode cX6_mix 5 = .ok (.if_icmp .eq 13, 3) := by decide +kernel
theorem dX6_mix_8 : decode cX6_mix 8 = .ok (.new 85, 3) := by decide +kernel
theorem dX6_mix_11 : decode cX6_mix 11 = .ok (.dup, 1) := by decide +kernel
theorem dX6_mix_12 : decode cX6_mix 12 = .ok (.ldc 133, 2) := by decide +kernel
theorem dX6_mix_14 : decode cX6_mix 14 = .ok (.invokespecial 89, 3) := by decide +kernel
theorem dX6_mix_17 : decode cX6_mix 17 = .ok (.athrow, 1) := by decide +kernel
theorem dX6_mix_18 : decode cX6_mix 18 = .ok (.aload_n 0, 1) := by decide +kernel
theorem dX6_mix_19 : decode cX6_mix 19 = .ok (.getfield 19, 3) := by decide +kernel
theorem dX6_mix_22 : decode cX6_mix 22 = .ok (.iload_n 2, 1) := by decide +kernel
theorem dX6_mix_23 : decode cX6_mix 23 = .ok (.invokevirtual 135, 3) := by decide +kernel
theorem dX6_mix_26 : decode cX6_mix 26 = .ok (.ifCond .ne 13, 3) := by decide +kernel
theorem dX6_mix_29 : decode cX6_mix 29 = .ok (.new 51, 3) := by decide +kernel
theorem dX6_mix_32 : decode cX6_mix 32 = .ok (.dup, 1) := by decide +kernel
theorem dX6_mix_33 : decode cX6_mix 33 = .ok (.ldc 138, 2) := by decide +kernel
theorem dX6_mix_35 : decode cX6_mix 35 = .ok (.invokespecial 55, 3) := by decide +kernel
theorem dX6_mix_38 : decode cX6_mix 38 = .ok (.athrow, 1) := by decide +kernel
theorem dX6_mix_39 : decode cX6_mix 39 = .ok (.aload_n 0, 1) := by decide +kernel
theorem dX6_mix_40 : decode cX6_mix 40 = .ok (.getfield 10, 3) := by decide +kernel
theorem dX6_mix_43 : decode cX6_mix 43 = .ok (.iconst 1, 1) := by decide +kernel
theorem dX6_mix_44 : decode cX6_mix 44 = .ok (.aload_n 0, 1) := by decide +kernel
theorem dX6_mix_45 : decode cX6_mix 45 = .ok (.getfield 19, 3) := by decide +kernel
theorem dX6_mix_48 : decode cX6_mix 48 = .ok (.getfield 130, 3) := by decide +kernel
theorem dX6_mix_51 : decode cX6_mix 51 = .ok (.iadd, 1) := by decide +kernel
theorem dX6_mix_52 : decode cX6_mix 52 = .ok (.invokevirtual 90, 3) := by decide +kernel
theorem dX6_mix_55 : decode cX6_mix 55 = .ok (.ifCond .ne 13, 3) := by decide +kernel
theorem dX6_mix_58 : decode cX6_mix 58 = .ok (.new 93, 3) := by decide +kernel
theorem dX6_mix_61 : decode cX6_mix 61 = .ok (.dup, 1) := by decide +kernel
theorem dX6_mix_62 : decode cX6_mix 62 = .ok (.ldc 95, 2) := by decide +kernel
theorem dX6_mix_64 : decode cX6_mix 64 = .ok (.invokespecial 97, 3) := by decide +kernel
theorem dX6_mix_67 : decode cX6_mix 67 = .ok (.athrow, 1) := by decide +kernel
theorem dX6_mix_68 : decode cX6_mix 68 = .ok (.aload_n 0, 1) := by decide +kernel
theorem dX6_mix_69 : decode cX6_mix 69 = .ok (.getfield 19, 3) := by decide +kernel
theorem dX6_mix_72 : decode cX6_mix 72 = .ok (.iload_n 1, 1) := by decide +kernel
theorem dX6_mix_73 : decode cX6_mix 73 = .ok (.iload_n 2, 1) := by decide +kernel
theorem dX6_mix_74 : decode cX6_mix 74 = .ok (.invokevirtual 140, 3) := by decide +kernel
theorem dX6_mix_77 : decode cX6_mix 77 = .ok (.aload_n 0, 1) := by decide +kernel
theorem dX6_mix_78 : decode cX6_mix 78 = .ok (.getfield 10, 3) := by decide +kernel
theorem dX6_mix_81 : decode cX6_mix 81 = .ok (.iconst 4, 1) := by decide +kernel
theorem dX6_mix_82 : decode cX6_mix 82 = .ok (.iload_n 1, 1) := by decide +kernel
theorem dX6_mix_83 : decode cX6_mix 83 = .ok (.iload_n 2, 1) := by decide +kernel
theorem dX6_mix_84 : decode cX6_mix 84 = .ok (.iconst 0, 1) := by decide +kernel
theorem dX6_mix_85 : decode cX6_mix 85 = .ok (.invokevirtual 72, 3) := by decide +kernel
theorem dX6_mix_88 : decode cX6_mix 88 = .ok (.pop, 1) := by decide +kernel
theorem dX6_mix_89 : decode cX6_mix 89 = .ok (.aload_n 0, 1) := by decide +kernel
theorem dX6_mix_90 : decode cX6_mix 90 = .ok (.invokevirtual 127, 3) := by decide +kernel
theorem dX6_mix_93 : decode cX6_mix 93 = .ok (.return_, 1) := by decide +kernel
set_option maxRecDepth 20000 in
theorem ggX6_open_X6_isTrustee : GoodIn wsX6_open wsX6_isTrustee := goodIn_r _ [13] rfl (by decide +kernel)
set_option maxRecDepth 20000 in
theorem gX6_open_X6_isTrustee : GoodIn wsX6_open (va_wsS RX6 144 yX6_isTrustee wsX6_isTrustee) := goodIn_app (goodIn_r _ [10, 11, 12] rfl (by decide +kernel)) ggX6_open_X6_isTrustee
set_option maxRecDepth 20000 in
theorem ggX6_open_X1_hasRoom : GoodIn wsX6_open wsX1_hasRoom := goodIn_r _ [18, 19, 88, 89, 90, 91] rfl (by decide +kernel)
set_option maxRecDepth 20000 in
theorem gX6_open_X1_hasRoom : GoodIn wsX6_open (wsV RX6 90 RX1 yX1_hasRoom wsX1_hasRoom) := goodIn_app (goodIn_r _ [14, 15, 16, 17] rfl (by decide +kernel)) ggX6_open_X1_hasRoom
set_option maxRecDepth 20000 in
theorem ggX6_open_X6_putShare : GoodIn wsX6_open wsX6_putShare := goodIn_r _ [23, 8, 24, 9, 25, 26, 27, 28, 29, 30, 31, 32, 33, 34, 35, 36, 37, 38, 39, 40, 41, 42, 43, 44, 45, 46, 47, 48, 49, 17, 50, 19, 51, 52, 53, 54, 55, 56, 57, 58, 59, 60, 61, 62, 63, 64, 65, 66, 67, 68, 69, 70, 71, 72, 73, 74, 75, 76, 77, 78, 79, 80, 81, 82, 83, 84, 85, 86, 87, 88, 89, 90, 91] rfl (by decide +kernel)
set_option maxRecDepth 20000 in
theorem gX6_open_X6_putShare : GoodIn wsX6_open (wsV RX6 154 RX6 yX6_putShare wsX6_putShare) := goodIn_app (goodIn_r _ [20, 21, 22, 12] rfl (by decide +kernel)) ggX6_open_X6_putShare
theorem dX6_open_0 : decode cX6_open 0 = .ok (.iload_n 1, 1) := by decide +kernel
theorem dX6_open_1 : decode cX6_open 1 = .ok (.invokestatic 144, 3) := by decide +kernel
theorem dX6_open_4 : decode cX6_open 4 = .ok (.ifCond .ne 13, 3) := by decide +kernel
theorem dX6_open_7 : decode cX6_open 7 = .ok (.new 51, 3) := by decide +kernel
theorem dX6_open_10 : decode cX6_open 10 = .ok (.dup, 1) := by decide +kernel
theorem dX6_open_11 : decode cX6_open 11 = .ok (.ldc 147, 2) := by decide +kernel
theorem dX6_open_13 : decode cX6_open 13 = .ok (.invokespecial 55, 3) := by decide +kernel
theorem dX6_open_16 : decode cX6_open 16 = .ok (.athrow, 1) := by decide +kernel
theorem dX6_open_17 : decode cX6_open 17 = .ok (.aload_n 0, 1) := by decide +kernel
theorem dX6_open_18 : decode cX6_open 18 = .ok (.getfield 41, 3) := by decide +kernel
theorem dX6_open_21 : decode cX6_open 21 = .ok (.iconst 2, 1) := by decide +kernel
theorem dX6_open_22 : decode cX6_open 22 = .ok (.if_icmp .eq 11, 3) := by decide +kernel
theorem dX6_open_25 : decode cX6_open 25 = .ok (.aload_n 0, 1) := by decide +kernel
theorem dX6_open_26 : decode cX6_open 26 = .ok (.getfield 41, 3) := by decide +kernel
theorem dX6_open_29 : decode cX6_open 29 = .ok (.iconst 3, 1) := by decide +kernel
theorem dX6_open_30 : decode cX6_open 30 = .ok (.if_icmp .ne 15, 3) := by decide +kernel
theorem dX6_open_33 : decode cX6_open 33 = .ok (.aload_n 0, 1) := by decide +kernel
theorem dX6_open_34 : decode cX6_open 34 = .ok (.getfield 19, 3) := by decide +kernel
theorem dX6_open_37 : decode cX6_open 37 = .ok (.getfield 149, 3) := by decide +kernel
theorem dX6_open_40 : decode cX6_open 40 = .ok (.iload_n 1, 1) := by decide +kernel
theorem dX6_open_41 : decode cX6_open 41 = .ok (.baload, 1) := by decide +kernel
theorem dX6_open_42 : decode cX6_open 42 = .ok (.ifCond .eq 13, 3) := by decide +kernel
theorem dX6_open_45 : decode cX6_open 45 = .ok (.new 85, 3) := by decide +kernel
theorem dX6_open_48 : decode cX6_open 48 = .ok (.dup, 1) := by decide +kernel
theorem dX6_open_49 : decode cX6_open 49 = .ok (.ldc 152, 2) := by decide +kernel
theorem dX6_open_51 : decode cX6_open 51 = .ok (.invokespecial 89, 3) := by decide +kernel
theorem dX6_open_54 : decode cX6_open 54 = .ok (.athrow, 1) := by decide +kernel
theorem dX6_open_55 : decode cX6_open 55 = .ok (.aload_n 0, 1) := by decide +kernel
theorem dX6_open_56 : decode cX6_open 56 = .ok (.getfield 10, 3) := by decide +kernel
theorem dX6_open_59 : decode cX6_open 59 = .ok (.aload_n 0, 1) := by decide +kernel
theorem dX6_open_60 : decode cX6_open 60 = .ok (.getfield 19, 3) := by decide +kernel
theorem dX6_open_63 : decode cX6_open 63 = .ok (.getfield 130, 3) := by decide +kernel
theorem dX6_open_66 : decode cX6_open 66 = .ok (.invokevirtual 90, 3) := by decide +kernel
theorem dX6_open_69 : decode cX6_open 69 = .ok (.ifCond .ne 13, 3) := by decide +kernel
theorem dX6_open_72 : decode cX6_open 72 = .ok (.new 93, 3) := by decide +kernel
theorem dX6_open_75 : decode cX6_open 75 = .ok (.dup, 1) := by decide +kernel
theorem dX6_open_76 : decode cX6_open 76 = .ok (.ldc 95, 2) := by decide +kernel
theorem dX6_open_78 : decode cX6_open 78 = .ok (.invokespecial 97, 3) := by decide +kernel
theorem dX6_open_81 : decode cX6_open 81 = .ok (.athrow, 1) := by decide +kernel
theorem dX6_open_82 : decode cX6_open 82 = .ok (.iconst 0, 1) := by decide +kernel
theorem dX6_open_83 : decode cX6_open 83 = .ok (.istore_n 3, 1) := by decide +kernel
theorem dX6_open_84 : decode cX6_open 84 = .ok (.iload_n 3, 1) := by decide +kernel
theorem dX6_open_85 : decode cX6_open 85 = .ok (.aload_n 0, 1) := by decide +kernel
theorem dX6_open_86 : decode cX6_open 86 = .ok (.getfield 19, 3) := by decide +kernel
theorem dX6_open_89 : decode cX6_open 89 = .ok (.getfield 130, 3) := by decide +kernel
theorem dX6_open_92 : decode cX6_open 92 = .ok (.if_icmp .ge 16, 3) := by decide +kernel
theorem dX6_open_95 : decode cX6_open 95 = .ok (.aload_n 0, 1) := by decide +kernel
theorem dX6_open_96 : decode cX6_open 96 = .ok (.iload_n 1, 1) := by decide +kernel
theorem dX6_open_97 : decode cX6_open 97 = .ok (.iload_n 3, 1) := by decide +kernel
theorem dX6_open_98 : decode cX6_open 98 = .ok (.iload_n 2, 1) := by decide +kernel
theorem dX6_open_99 : decode cX6_open 99 = .ok (.invokevirtual 154, 3) := by decide +kernel
theorem dX6_open_102 : decode cX6_open 102 = .ok (.iinc 3 1, 3) := by decide +kernel
theorem dX6_open_105 : decode cX6_open 105 = .ok (.goto (-21), 3) := by decide +kernel
theorem dX6_open_108 : decode cX6_open 108 = .ok (.aload_n 0, 1) := by decide +kernel
theorem dX6_open_109 : decode cX6_open 109 = .ok (.getfield 19, 3) := by decide +kernel
theorem dX6_open_112 : decode cX6_open 112 = .ok (.getfield 149, 3) := by decide +kernel
theorem dX6_open_115 : decode cX6_open 115 = .ok (.iload_n 1, 1) := by decide +kernel
theorem dX6_open_116 : decode cX6_open 116 = .ok (.iconst 1, 1) := by decide +kernel
theorem dX6_open_117 : decode cX6_open 117 = .ok (.bastore, 1) := by decide +kernel
theorem dX6_open_118 : decode cX6_open 118 = .ok (.aload_n 0, 1) := by decide +kernel
theorem dX6_open_119 : decode cX6_open 119 = .ok (.iconst 3, 1) := by decide +kernel
theorem dX6_open_120 : decode cX6_open 120 = .ok (.putfield 41, 3) := by decide +kernel
theorem dX6_open_123 : decode cX6_open 123 = .ok (.return_, 1) := by decide +kernel
set_option maxRecDepth 20000 in
theorem ggX6_finish_X4_allOpened : GoodIn wsX6_finish wsX4_allOpened := goodIn_r _ [12, 13, 58, 59, 60, 61, 62, 63, 64, 65, 66, 67, 68, 69, 70, 71, 72] rfl (by decide +kernel)
set_option maxRecDepth 20000 in
theorem gX6_finish_X4_allOpened : GoodIn wsX6_finish (wsV RX6 157 RX4 yX4_allOpened wsX4_allOpened) := goodIn_app (goodIn_r _ [8, 9, 10, 11] rfl (by decide +kernel)) ggX6_finish_X4_allOpened
set_option maxRecDepth 20000 in
theorem ggX6_finish_X1_hasRoom : GoodIn wsX6_finish wsX1_hasRoom := goodIn_r _ [18, 19, 73, 74, 75, 76] rfl (by decide +kernel)
set_option maxRecDepth 20000 in
theorem gX6_finish_X1_hasRoom : GoodIn wsX6_finish (wsV RX6 90 RX1 yX1_hasRoom wsX1_hasRoom) := goodIn_app (goodIn_r _ [14, 15, 16, 17] rfl (by decide +kernel)) ggX6_finish_X1_hasRoom
set_option maxRecDepth 20000 in
theorem ggX6_finish_X4_countVotes : GoodIn wsX6_finish wsX4_countVotes := goodIn_r _ [23, 24, 25, 26, 27, 28, 29, 30, 31, 32, 33, 34, 35, 36, 37, 38, 39, 40, 58, 59, 60, 61, 62, 63, 64, 65, 66, 67, 68, 69, 70, 71, 72] rfl (by decide +kernel)
set_option maxRecDepth 20000 in
theorem gX6_finish_X4_countVotes : GoodIn wsX6_finish (wsV RX6 163 RX4 yX4_countVotes wsX4_countVotes) := goodIn_app (goodIn_r _ [20, 21, 22, 11] rfl (by decide +kernel)) ggX6_finish_X4_countVotes
set_option maxRecDepth 20000 in
theorem ggX6_finish_X1_put : GoodIn wsX6_finish wsX1_put := goodIn_r _ [44, 19, 45, 46, 47, 48, 17, 49, 50, 73, 74, 75, 76] rfl (by decide +kernel)
set_option maxRecDepth 20000 in
theorem gX6_finish_X1_put : GoodIn wsX6_finish (wsV RX6 72 RX1 yX1_put wsX1_put) := goodIn_app (goodIn_r _ [41, 42, 43, 17] rfl (by decide +kernel)) ggX6_finish_X1_put
set_option maxRecDepth 20000 in
theorem ggX6_finish_X1_write : GoodIn wsX6_finish wsX1_write := goodIn_r _ [49, 50, 73, 74, 75, 76] rfl (by decide +kernel)
set_option maxRecDepth 20000 in
theorem gX6_finish_X1_write : GoodIn wsX6_finish (wsV RX6 169 RX1 yX1_write wsX1_write) := goodIn_app (goodIn_r _ [51, 47, 48, 17] rfl (by decide +kernel)) ggX6_finish_X1_write
theorem dX6_finish_0 : decode cX6_finish 0 = .ok (.aload_n 0, 1) := by decide +kernel
theorem dX6_finish_1 : decode cX6_finish 1 = .ok (.getfield 41, 3) := by decide +kernel
theorem dX6_finish_4 : decode cX6_finish 4 = .ok (.iconst 3, 1) := by decide +kernel
theorem dX6_finish_5 : decode cX6_finish 5 = .ok (.if_icmp .ne 13, 3) := by decide +kernel
theorem dX6_finish_8 : decode cX6_finish 8 = .ok (.aload_n 0, 1) := by decide +kernel
theorem dX6_finish_9 : decode cX6_finish 9 = .ok (.getfield 19, 3) := by decide +kernel
theorem dX6_finish_12 : decode cX6_finish 12 = .ok (.invokevirtual 157, 3) := by decide +kernel
theorem dX6_finish_15 : decode cX6_finish 15 = .ok (.ifCond .ne 13, 3) := by decide +kernel
theorem dX6_finish_18 : decode cX6_finish 18 = .ok (.new 85, 3) := by decide +kernel
theorem dX6_finish_21 : decode cX6_finish 21 = .ok (.dup, 1) := by decide +kernel
theorem dX6_finish_22 : decode cX6_finish 22 = .ok (.ldc 161, 2) := by decide +kernel
theorem dX6_finish_24 : decode cX6_finish 24 = .ok (.invokespecial 89, 3) := by decide +kernel
theorem dX6_finish_27 : decode cX6_finish 27 = .ok (.athrow, 1) := by decide +kernel
theorem dX6_finish_28 : decode cX6_finish 28 = .ok (.aload_n 0, 1) := by decide +kernel
theorem dX6_finish_29 : decode cX6_finish 29 = .ok (.getfield 10, 3) := by decide +kernel
theorem dX6_finish_32 : decode cX6_finish 32 = .ok (.iconst 1, 1) := by decide +kernel
theorem dX6_finish_33 : decode cX6_finish 33 = .ok (.invokevirtual 90, 3) := by decide +kernel
theorem dX6_finish_36 : decode cX6_finish 36 = .ok (.ifCond .ne 13, 3) := by decide +kernel
theorem dX6_finish_39 : decode cX6_finish 39 = .ok (.new 93, 3) := by decide +kernel
theorem dX6_finish_42 : decode cX6_finish 42 = .ok (.dup, 1) := by decide +kernel
theorem dX6_finish_43 : decode cX6_finish 43 = .ok (.ldc 95, 2) := by decide +kernel
theorem dX6_finish_45 : decode cX6_finish 45 = .ok (.invokespecial 97, 3) := by decide +kernel
theorem dX6_finish_48 : decode cX6_finish 48 = .ok (.athrow, 1) := by decide +kernel
theorem dX6_finish_49 : decode cX6_finish 49 = .ok (.aload_n 0, 1) := by decide +kernel
theorem dX6_finish_50 : decode cX6_finish 50 = .ok (.getfield 19, 3) := by decide +kernel
theorem dX6_finish_53 : decode cX6_finish 53 = .ok (.invokevirtual 163, 3) := by decide +kernel
theorem dX6_finish_56 : decode cX6_finish 56 = .ok (.aload_n 0, 1) := by decide +kernel
theorem dX6_finish_57 : decode cX6_finish 57 = .ok (.getfield 10, 3) := by decide +kernel
theorem dX6_finish_60 : decode cX6_finish 60 = .ok (.bipush 7, 2) := by decide +kernel
theorem dX6_finish_62 : decode cX6_finish 62 = .ok (.aload_n 0, 1) := by decide +kernel
theorem dX6_finish_63 : decode cX6_finish 63 = .ok (.getfield 19, 3) := by decide +kernel
theorem dX6_finish_66 : decode cX6_finish 66 = .ok (.getfield 166, 3) := by decide +kernel
theorem dX6_finish_69 : decode cX6_finish 69 = .ok (.iconst 0, 1) := by decide +kernel
theorem dX6_finish_70 : decode cX6_finish 70 = .ok (.iaload, 1) := by decide +kernel
theorem dX6_finish_71 : decode cX6_finish 71 = .ok (.aload_n 0, 1) := by decide +kernel
theorem dX6_finish_72 : decode cX6_finish 72 = .ok (.getfield 19, 3) := by decide +kernel
theorem dX6_finish_75 : decode cX6_finish 75 = .ok (.getfield 166, 3) := by decide +kernel
theorem dX6_finish_78 : decode cX6_finish 78 = .ok (.iconst 1, 1) := by decide +kernel
theorem dX6_finish_79 : decode cX6_finish 79 = .ok (.iaload, 1) := by decide +kernel
theorem dX6_finish_80 : decode cX6_finish 80 = .ok (.aload_n 0, 1) := by decide +kernel
theorem dX6_finish_81 : decode cX6_finish 81 = .ok (.getfield 19, 3) := by decide +kernel
theorem dX6_finish_84 : decode cX6_finish 84 = .ok (.getfield 166, 3) := by decide +kernel
theorem dX6_finish_87 : decode cX6_finish 87 = .ok (.iconst 2, 1) := by decide +kernel
theorem dX6_finish_88 : decode cX6_finish 88 = .ok (.iaload, 1) := by decide +kernel
theorem dX6_finish_89 : decode cX6_finish 89 = .ok (.invokevirtual 72, 3) := by decide +kernel
theorem dX6_finish_92 : decode cX6_finish 92 = .ok (.istore_n 1, 1) := by decide +kernel
theorem dX6_finish_93 : decode cX6_finish 93 = .ok (.aload_n 0, 1) := by decide +kernel
theorem dX6_finish_94 : decode cX6_finish 94 = .ok (.getfield 10, 3) := by decide +kernel
theorem dX6_finish_97 : decode cX6_finish 97 = .ok (.iload_n 1, 1) := by decide +kernel
theorem dX6_finish_98 : decode cX6_finish 98 = .ok (.iconst 3, 1) := by decide +kernel
theorem dX6_finish_99 : decode cX6_finish 99 = .ok (.aload_n 0, 1) := by decide +kernel
theorem dX6_finish_100 : decode cX6_finish 100 = .ok (.getfield 19, 3) := by decide +kernel
theorem dX6_finish_103 : decode cX6_finish 103 = .ok (.getfield 166, 3) := by decide +kernel
theorem dX6_finish_106 : decode cX6_finish 106 = .ok (.iconst 3, 1) := by decide +kernel
theorem dX6_finish_107 : decode cX6_finish 107 = .ok (.iaload, 1) := by decide +kernel
theorem dX6_finish_108 : decode cX6_finish 108 = .ok (.invokevirtual 169, 3) := by decide +kernel
theorem dX6_finish_111 : decode cX6_finish 111 = .ok (.aload_n 0, 1) := by decide +kernel
theorem dX6_finish_112 : decode cX6_finish 112 = .ok (.iconst 4, 1) := by decide +kernel
theorem dX6_finish_113 : decode cX6_finish 113 = .ok (.putfield 41, 3) := by decide +kernel
theorem dX6_finish_116 : decode cX6_finish 116 = .ok (.aload_n 0, 1) := by decide +kernel
theorem dX6_finish_117 : decode cX6_finish 117 = .ok (.getfield 19, 3) := by decide +kernel
theorem dX6_finish_120 : decode cX6_finish 120 = .ok (.getfield 166, 3) := by decide +kernel
theorem dX6_finish_123 : decode cX6_finish 123 = .ok (.iconst 0, 1) := by decide +kernel
theorem dX6_finish_124 : decode cX6_finish 124 = .ok (.iaload, 1) := by decide +kernel
theorem dX6_finish_125 : decode cX6_finish 125 = .ok (.aload_n 0, 1) := by decide +kernel
theorem dX6_finish_126 : decode cX6_finish 126 = .ok (.getfield 19, 3) := by decide +kernel
theorem dX6_finish_129 : decode cX6_finish 129 = .ok (.getfield 166, 3) := by decide +kernel
theorem dX6_finish_132 : decode cX6_finish 132 = .ok (.iconst 1, 1) := by decide +kernel
theorem dX6_finish_133 : decode cX6_finish 133 = .ok (.iaload, 1) := by decide +kernel
theorem dX6_finish_134 : decode cX6_finish 134 = .ok (.iadd, 1) := by decide +kernel
theorem dX6_finish_135 : decode cX6_finish 135 = .ok (.aload_n 0, 1) := by decide +kernel
theorem dX6_finish_136 : decode cX6_finish 136 = .ok (.getfield 19, 3) := by decide +kernel
theorem dX6_finish_139 : decode cX6_finish 139 = .ok (.getfield 166, 3) := by decide +kernel
theorem dX6_finish_142 : decode cX6_finish 142 = .ok (.iconst 2, 1) := by decide +kernel
theorem dX6_finish_143 : decode cX6_finish 143 = .ok (.iaload, 1) := by decide +kernel
theorem dX6_finish_144 : decode cX6_finish 144 = .ok (.iadd, 1) := by decide +kernel
theorem dX6_finish_145 : decode cX6_finish 145 = .ok (.aload_n 0, 1) := by decide +kernel
theorem dX6_finish_146 : decode cX6_finish 146 = .ok (.getfield 19, 3) := by decide +kernel
theorem dX6_finish_149 : decode cX6_finish 149 = .ok (.getfield 166, 3) := by decide +kernel
theorem dX6_finish_152 : decode cX6_finish 152 = .ok (.iconst 3, 1) := by decide +kernel
theorem dX6_finish_153 : decode cX6_finish 153 = .ok (.iaload, 1) := by decide +kernel
theorem dX6_finish_154 : decode cX6_finish 154 = .ok (.iadd, 1) := by decide +kernel
theorem dX6_finish_155 : decode cX6_finish 155 = .ok (.ireturn, 1) := by decide +kernel
theorem dX6_phase_0 : decode cX6_phase 0 = .ok (.aload_n 0, 1) := by decide +kernel
theorem dX6_phase_1 : decode cX6_phase 1 = .ok (.getfield 41, 3) := by decide +kernel
theorem dX6_phase_4 : decode cX6_phase 4 = .ok (.ireturn, 1) := by decide +kernel
set_option maxRecDepth 20000 in
theorem ggX6_votes_X6_isChoice : GoodIn wsX6_votes wsX6_isChoice := goodIn_r _ [8] rfl (by decide +kernel)
set_option maxRecDepth 20000 in
theorem gX6_votes_X6_isChoice : GoodIn wsX6_votes (va_wsS RX6 98 yX6_isChoice wsX6_isChoice) := goodIn_app (goodIn_r _ [5, 6, 7] rfl (by decide +kernel)) ggX6_votes_X6_isChoice
theorem dX6_votes_0 : decode cX6_votes 0 = .ok (.iload_n 1, 1) := by decide +kernel
theorem dX6_votes_1 : decode cX6_votes 1 = .ok (.invokestatic 98, 3) := by decide +kernel
theorem dX6_votes_4 : decode cX6_votes 4 = .ok (.ifCond .ne 13, 3) := by decide +kernel
theorem dX6_votes_7 : decode cX6_votes 7 = .ok (.new 51, 3) := by decide +kernel
theorem dX6_votes_10 : decode cX6_votes 10 = .ok (.dup, 1) := by decide +kernel
theorem dX6_votes_11 : decode cX6_votes 11 = .ok (.ldc 172, 2) := by decide +kernel
theorem dX6_votes_13 : decode cX6_votes 13 = .ok (.invokespecial 55, 3) := by decide +kernel
theorem dX6_votes_16 : decode cX6_votes 16 = .ok (.athrow, 1) := by decide +kernel
theorem dX6_votes_17 : decode cX6_votes 17 = .ok (.aload_n 0, 1) := by decide +kernel
theorem dX6_votes_18 : decode cX6_votes 18 = .ok (.getfield 41, 3) := by decide +kernel
theorem dX6_votes_21 : decode cX6_votes 21 = .ok (.iconst 4, 1) := by decide +kernel
theorem dX6_votes_22 : decode cX6_votes 22 = .ok (.if_icmp .ne 15, 3) := by decide +kernel
theorem dX6_votes_25 : decode cX6_votes 25 = .ok (.aload_n 0, 1) := by decide +kernel
theorem dX6_votes_26 : decode cX6_votes 26 = .ok (.getfield 19, 3) := by decide +kernel
theorem dX6_votes_29 : decode cX6_votes 29 = .ok (.getfield 166, 3) := by decide +kernel
theorem dX6_votes_32 : decode cX6_votes 32 = .ok (.iload_n 1, 1) := by decide +kernel
theorem dX6_votes_33 : decode cX6_votes 33 = .ok (.iaload, 1) := by decide +kernel
theorem dX6_votes_34 : decode cX6_votes 34 = .ok (.goto 4, 3) := by decide +kernel
theorem dX6_votes_37 : decode cX6_votes 37 = .ok (.iconst (-1), 1) := by decide +kernel
theorem dX6_votes_38 : decode cX6_votes 38 = .ok (.ireturn, 1) := by decide +kernel
theorem dX6_records_0 : decode cX6_records 0 = .ok (.aload_n 0, 1) := by decide +kernel
theorem dX6_records_1 : decode cX6_records 1 = .ok (.getfield 10, 3) := by decide +kernel
theorem dX6_records_4 : decode cX6_records 4 = .ok (.getfield 174, 3) := by decide +kernel
theorem dX6_records_7 : decode cX6_records 7 = .ok (.ireturn, 1) := by decide +kernel
set_option maxRecDepth 20000 in
theorem ggX6_field_X1_has : GoodIn wsX6_field wsX1_has := goodIn_r _ [8, 9, 26, 27, 28, 29] rfl (by decide +kernel)
set_option maxRecDepth 20000 in
theorem gX6_field_X1_has : GoodIn wsX6_field (wsV RX6 177 RX1 yX1_has wsX1_has) := goodIn_app (goodIn_r _ [4, 5, 6, 7] rfl (by decide +kernel)) ggX6_field_X1_has
set_option maxRecDepth 20000 in
theorem ggX6_field_X1_kind : GoodIn wsX6_field wsX1_kind := goodIn_r _ [13, 14, 26, 27, 28, 29] rfl (by decide +kernel)
set_option maxRecDepth 20000 in
theorem gX6_field_X1_kind : GoodIn wsX6_field (wsV RX6 185 RX1 yX1_kind wsX1_kind) := goodIn_app (goodIn_r _ [10, 11, 12, 7] rfl (by decide +kernel)) ggX6_field_X1_kind
set_option maxRecDepth 20000 in
theorem ggX6_field_X1_number : GoodIn wsX6_field wsX1_number := goodIn_r _ [18, 19, 26, 27, 28, 29] rfl (by decide +kernel)
set_option maxRecDepth 20000 in
theorem gX6_field_X1_number : GoodIn wsX6_field (wsV RX6 188 RX1 yX1_number wsX1_number) := goodIn_app (goodIn_r _ [15, 16, 17, 7] rfl (by decide +kernel)) ggX6_field_X1_number
theorem dX6_field_0 : decode cX6_field 0 = .ok (.aload_n 0, 1) := by decide +kernel
theorem dX6_field_1 : decode cX6_field 1 = .ok (.getfield 10, 3) := by decide +kernel
theorem dX6_field_4 : decode cX6_field 4 = .ok (.iload_n 1, 1) := by decide +kernel
theorem dX6_field_5 : decode cX6_field 5 = .ok (.invokevirtual 177, 3) := by decide +kernel
theorem dX6_field_8 : decode cX6_field 8 = .ok (.ifCond .eq 13, 3) := by decide +kernel
theorem dX6_field_11 : decode cX6_field 11 = .ok (.iload_n 2, 1) := by decide +kernel
theorem dX6_field_12 : decode cX6_field 12 = .ok (.ifCond .lt 9, 3) := by decide +kernel
theorem dX6_field_15 : decode cX6_field 15 = .ok (.iload_n 2, 1) := by decide +kernel
theorem dX6_field_16 : decode cX6_field 16 = .ok (.bipush 6, 2) := by decide +kernel
theorem dX6_field_18 : decode cX6_field 18 = .ok (.if_icmp .le 13, 3) := by decide +kernel
theorem dX6_field_21 : decode cX6_field 21 = .ok (.new 180, 3) := by decide +kernel
theorem dX6_field_24 : decode cX6_field 24 = .ok (.dup, 1) := by decide +kernel
theorem dX6_field_25 : decode cX6_field 25 = .ok (.ldc 182, 2) := by decide +kernel
theorem dX6_field_27 : decode cX6_field 27 = .ok (.invokespecial 184, 3) := by decide +kernel
theorem dX6_field_30 : decode cX6_field 30 = .ok (.athrow, 1) := by decide +kernel
theorem dX6_field_31 : decode cX6_field 31 = .ok (.iload_n 2, 1) := by decide +kernel
theorem dX6_field_32 : decode cX6_field 32 = .ok (.ifCond .ne 14, 3) := by decide +kernel
theorem dX6_field_35 : decode cX6_field 35 = .ok (.aload_n 0, 1) := by decide +kernel
theorem dX6_field_36 : decode cX6_field 36 = .ok (.getfield 10, 3) := by decide +kernel
theorem dX6_field_39 : decode cX6_field 39 = .ok (.iload_n 1, 1) := by decide +kernel
theorem dX6_field_40 : decode cX6_field 40 = .ok (.invokevirtual 185, 3) := by decide +kernel
theorem dX6_field_43 : decode cX6_field 43 = .ok (.goto 14, 3) := by decide +kernel
theorem dX6_field_46 : decode cX6_field 46 = .ok (.aload_n 0, 1) := by decide +kernel
theorem dX6_field_47 : decode cX6_field 47 = .ok (.getfield 10, 3) := by decide +kernel
theorem dX6_field_50 : decode cX6_field 50 = .ok (.iload_n 1, 1) := by decide +kernel
theorem dX6_field_51 : decode cX6_field 51 = .ok (.iload_n 2, 1) := by decide +kernel
theorem dX6_field_52 : decode cX6_field 52 = .ok (.iconst 1, 1) := by decide +kernel
theorem dX6_field_53 : decode cX6_field 53 = .ok (.isub, 1) := by decide +kernel
theorem dX6_field_54 : decode cX6_field 54 = .ok (.invokevirtual 188, 3) := by decide +kernel
theorem dX6_field_57 : decode cX6_field 57 = .ok (.ireturn, 1) := by decide +kernel
set_option maxRecDepth 20000 in
theorem ggX6_forge_X1_has : GoodIn wsX6_forge wsX1_has := goodIn_r _ [8, 9, 25, 26, 27, 28] rfl (by decide +kernel)
set_option maxRecDepth 20000 in
theorem gX6_forge_X1_has : GoodIn wsX6_forge (wsV RX6 177 RX1 yX1_has wsX1_has) := goodIn_app (goodIn_r _ [4, 5, 6, 7] rfl (by decide +kernel)) ggX6_forge_X1_has
set_option maxRecDepth 20000 in
theorem ggX6_forge_X1_number : GoodIn wsX6_forge wsX1_number := goodIn_r _ [13, 14, 25, 26, 27, 28] rfl (by decide +kernel)
set_option maxRecDepth 20000 in
theorem gX6_forge_X1_number : GoodIn wsX6_forge (wsV RX6 188 RX1 yX1_number wsX1_number) := goodIn_app (goodIn_r _ [10, 11, 12, 7] rfl (by decide +kernel)) ggX6_forge_X1_number
set_option maxRecDepth 20000 in
theorem ggX6_forge_X1_write : GoodIn wsX6_forge wsX1_write := goodIn_r _ [18, 14, 25, 26, 27, 28] rfl (by decide +kernel)
set_option maxRecDepth 20000 in
theorem gX6_forge_X1_write : GoodIn wsX6_forge (wsV RX6 169 RX1 yX1_write wsX1_write) := goodIn_app (goodIn_r _ [15, 16, 17, 7] rfl (by decide +kernel)) ggX6_forge_X1_write
theorem dX6_forge_0 : decode cX6_forge 0 = .ok (.aload_n 0, 1) := by decide +kernel
theorem dX6_forge_1 : decode cX6_forge 1 = .ok (.getfield 10, 3) := by decide +kernel
theorem dX6_forge_4 : decode cX6_forge 4 = .ok (.iload_n 1, 1) := by decide +kernel
theorem dX6_forge_5 : decode cX6_forge 5 = .ok (.invokevirtual 177, 3) := by decide +kernel
theorem dX6_forge_8 : decode cX6_forge 8 = .ok (.ifCond .eq 14, 3) := by decide +kernel
theorem dX6_forge_11 : decode cX6_forge 11 = .ok (.iload_n 2, 1) := by decide +kernel
theorem dX6_forge_12 : decode cX6_forge 12 = .ok (.iconst 1, 1) := by decide +kernel
theorem dX6_forge_13 : decode cX6_forge 13 = .ok (.if_icmp .lt 9, 3) := by decide +kernel
theorem dX6_forge_16 : decode cX6_forge 16 = .ok (.iload_n 2, 1) := by decide +kernel
theorem dX6_forge_17 : decode cX6_forge 17 = .ok (.bipush 6, 2) := by decide +kernel
theorem dX6_forge_19 : decode cX6_forge 19 = .ok (.if_icmp .le 13, 3) := by decide +kernel
theorem dX6_forge_22 : decode cX6_forge 22 = .ok (.new 180, 3) := by decide +kernel
theorem dX6_forge_25 : decode cX6_forge 25 = .ok (.dup, 1) := by decide +kernel
theorem dX6_forge_26 : decode cX6_forge 26 = .ok (.ldc 182, 2) := by decide +kernel
theorem dX6_forge_28 : decode cX6_forge 28 = .ok (.invokespecial 184, 3) := by decide +kernel
theorem dX6_forge_31 : decode cX6_forge 31 = .ok (.athrow, 1) := by decide +kernel
theorem dX6_forge_32 : decode cX6_forge 32 = .ok (.aload_n 0, 1) := by decide +kernel
theorem dX6_forge_33 : decode cX6_forge 33 = .ok (.getfield 10, 3) := by decide +kernel
theorem dX6_forge_36 : decode cX6_forge 36 = .ok (.iload_n 1, 1) := by decide +kernel
theorem dX6_forge_37 : decode cX6_forge 37 = .ok (.iload_n 2, 1) := by decide +kernel
theorem dX6_forge_38 : decode cX6_forge 38 = .ok (.iconst 1, 1) := by decide +kernel
theorem dX6_forge_39 : decode cX6_forge 39 = .ok (.isub, 1) := by decide +kernel
theorem dX6_forge_40 : decode cX6_forge 40 = .ok (.invokevirtual 188, 3) := by decide +kernel
theorem dX6_forge_43 : decode cX6_forge 43 = .ok (.istore 4, 2) := by decide +kernel
theorem dX6_forge_45 : decode cX6_forge 45 = .ok (.aload_n 0, 1) := by decide +kernel
theorem dX6_forge_46 : decode cX6_forge 46 = .ok (.getfield 10, 3) := by decide +kernel
theorem dX6_forge_49 : decode cX6_forge 49 = .ok (.iload_n 1, 1) := by decide +kernel
theorem dX6_forge_50 : decode cX6_forge 50 = .ok (.iload_n 2, 1) := by decide +kernel
theorem dX6_forge_51 : decode cX6_forge 51 = .ok (.iconst 1, 1) := by decide +kernel
theorem dX6_forge_52 : decode cX6_forge 52 = .ok (.isub, 1) := by decide +kernel
theorem dX6_forge_53 : decode cX6_forge 53 = .ok (.iload_n 3, 1) := by decide +kernel
theorem dX6_forge_54 : decode cX6_forge 54 = .ok (.invokevirtual 169, 3) := by decide +kernel
theorem dX6_forge_57 : decode cX6_forge 57 = .ok (.iload 4, 2) := by decide +kernel
theorem dX6_forge_59 : decode cX6_forge 59 = .ok (.ireturn, 1) := by decide +kernel
set_option maxRecDepth 20000 in
theorem ggX6_audit_X0_firstWrong : GoodIn wsX6_audit wsX0_firstWrong := goodIn_r _ [7, 8, 9, 10, 11, 12, 13, 6, 14, 15, 16, 17, 18, 19, 20, 21, 22, 23, 24, 25, 26, 27, 28, 29, 30, 31, 32, 33, 34, 35, 36, 37, 38, 39, 40, 41, 42, 43, 44, 45, 46, 47, 48, 49, 50, 51, 52, 53, 54, 55, 56, 57, 58, 59, 60, 61, 62, 63, 64, 65, 66, 67, 68, 69, 70, 71, 72, 73, 74, 75, 76, 77, 78, 79, 80, 81, 82, 83, 84, 85, 86, 87, 88, 89, 90, 91, 92, 93, 94, 95, 96, 97, 98, 99, 100, 101, 102, 103, 104, 105, 106, 107, 108, 109, 110, 111, 112, 113, 114, 115, 116, 117, 118, 119, 120, 121, 122, 123, 124, 125, 126, 127, 128, 129, 130, 131, 132, 133, 134, 135, 136, 137, 138, 139, 140, 141, 142, 143, 144, 145, 146, 147, 148, 149, 150, 151, 152, 153, 154, 155, 156, 157, 158, 159, 160, 161, 162, 163, 164, 171, 172, 173, 174, 175, 176, 177, 178, 179, 180, 181, 182, 183, 184, 185, 186, 187, 188, 189, 190, 191, 192, 193, 194] rfl (by decide +kernel)
set_option maxRecDepth 20000 in
theorem gX6_audit_X0_firstWrong : GoodIn wsX6_audit (wsV RX6 191 RX0 yX0_firstWrong wsX0_firstWrong) := goodIn_app (goodIn_r _ [3, 4, 5, 6] rfl (by decide +kernel)) ggX6_audit_X0_firstWrong
theorem dX6_audit_0 : decode cX6_audit 0 = .ok (.aload_n 0, 1) := by decide +kernel
theorem dX6_audit_1 : decode cX6_audit 1 = .ok (.getfield 26, 3) := by decide +kernel
theorem dX6_audit_4 : decode cX6_audit 4 = .ok (.aload_n 0, 1) := by decide +kernel
theorem dX6_audit_5 : decode cX6_audit 5 = .ok (.getfield 10, 3) := by decide +kernel
theorem dX6_audit_8 : decode cX6_audit 8 = .ok (.invokevirtual 191, 3) := by decide +kernel
theorem dX6_audit_11 : decode cX6_audit 11 = .ok (.ireturn, 1) := by decide +kernel
set_option maxRecDepth 20000 in
theorem ggX6_leaf_X1_has : GoodIn wsX6_leaf wsX1_has := goodIn_r _ [8, 9, 38, 39, 40, 41] rfl (by decide +kernel)
set_option maxRecDepth 20000 in
theorem gX6_leaf_X1_has : GoodIn wsX6_leaf (wsV RX6 177 RX1 yX1_has wsX1_has) := goodIn_app (goodIn_r _ [4, 5, 6, 7] rfl (by decide +kernel)) ggX6_leaf_X1_has
set_option maxRecDepth 20000 in
theorem ggX6_leaf_X1_leafOf : GoodIn wsX6_leaf wsX1_leafOf := goodIn_r _ [13, 14, 15, 16, 17, 18, 19, 20, 21, 7, 22, 23, 24, 25, 26, 27, 28, 29, 30, 31, 38, 39, 40, 41] rfl (by decide +kernel)
set_option maxRecDepth 20000 in
theorem gX6_leaf_X1_leafOf : GoodIn wsX6_leaf (wsV RX6 197 RX1 yX1_leafOf wsX1_leafOf) := goodIn_app (goodIn_r _ [10, 11, 12, 7] rfl (by decide +kernel)) ggX6_leaf_X1_leafOf
theorem dX6_leaf_0 : decode cX6_leaf 0 = .ok (.aload_n 0, 1) := by decide +kernel
theorem dX6_leaf_1 : decode cX6_leaf 1 = .ok (.getfield 10, 3) := by decide +kernel
theorem dX6_leaf_4 : decode cX6_leaf 4 = .ok (.iload_n 1, 1) := by decide +kernel
theorem dX6_leaf_5 : decode cX6_leaf 5 = .ok (.invokevirtual 177, 3) := by decide +kernel
theorem dX6_leaf_8 : decode cX6_leaf 8 = .ok (.ifCond .ne 13, 3) := by decide +kernel
theorem dX6_leaf_11 : decode cX6_leaf 11 = .ok (.new 180, 3) := by decide +kernel
theorem dX6_leaf_14 : decode cX6_leaf 14 = .ok (.dup, 1) := by decide +kernel
theorem dX6_leaf_15 : decode cX6_leaf 15 = .ok (.ldc 195, 2) := by decide +kernel
theorem dX6_leaf_17 : decode cX6_leaf 17 = .ok (.invokespecial 184, 3) := by decide +kernel
theorem dX6_leaf_20 : decode cX6_leaf 20 = .ok (.athrow, 1) := by decide +kernel
theorem dX6_leaf_21 : decode cX6_leaf 21 = .ok (.aload_n 0, 1) := by decide +kernel
theorem dX6_leaf_22 : decode cX6_leaf 22 = .ok (.getfield 10, 3) := by decide +kernel
theorem dX6_leaf_25 : decode cX6_leaf 25 = .ok (.iload_n 1, 1) := by decide +kernel
theorem dX6_leaf_26 : decode cX6_leaf 26 = .ok (.invokevirtual 197, 3) := by decide +kernel
theorem dX6_leaf_29 : decode cX6_leaf 29 = .ok (.lreturn, 1) := by decide +kernel
set_option maxRecDepth 20000 in
theorem ggX6_head_X1_headOf : GoodIn wsX6_head wsX1_headOf := goodIn_r _ [8, 9, 10, 11, 12, 7, 13, 14, 15, 16, 17, 18, 19, 20, 21, 22, 23, 24, 25, 26, 27, 28, 29, 30, 31, 32, 33, 34, 35, 36, 37, 38, 39, 40, 47, 48, 49, 50] rfl (by decide +kernel)
set_option maxRecDepth 20000 in
theorem gX6_head_X1_headOf : GoodIn wsX6_head (wsV RX6 203 RX1 yX1_headOf wsX1_headOf) := goodIn_app (goodIn_r _ [4, 5, 6, 7] rfl (by decide +kernel)) ggX6_head_X1_headOf
theorem dX6_head_0 : decode cX6_head 0 = .ok (.iload_n 1, 1) := by decide +kernel
theorem dX6_head_1 : decode cX6_head 1 = .ok (.ifCond .lt 14, 3) := by decide +kernel
theorem dX6_head_4 : decode cX6_head 4 = .ok (.iload_n 1, 1) := by decide +kernel
theorem dX6_head_5 : decode cX6_head 5 = .ok (.aload_n 0, 1) := by decide +kernel
theorem dX6_head_6 : decode cX6_head 6 = .ok (.getfield 10, 3) := by decide +kernel
theorem dX6_head_9 : decode cX6_head 9 = .ok (.getfield 174, 3) := by decide +kernel
theorem dX6_head_12 : decode cX6_head 12 = .ok (.if_icmp .le 13, 3) := by decide +kernel
theorem dX6_head_15 : decode cX6_head 15 = .ok (.new 180, 3) := by decide +kernel
theorem dX6_head_18 : decode cX6_head 18 = .ok (.dup, 1) := by decide +kernel
theorem dX6_head_19 : decode cX6_head 19 = .ok (.ldc 201, 2) := by decide +kernel
theorem dX6_head_21 : decode cX6_head 21 = .ok (.invokespecial 184, 3) := by decide +kernel
theorem dX6_head_24 : decode cX6_head 24 = .ok (.athrow, 1) := by decide +kernel
theorem dX6_head_25 : decode cX6_head 25 = .ok (.aload_n 0, 1) := by decide +kernel
theorem dX6_head_26 : decode cX6_head 26 = .ok (.getfield 10, 3) := by decide +kernel
theorem dX6_head_29 : decode cX6_head 29 = .ok (.iconst 0, 1) := by decide +kernel
theorem dX6_head_30 : decode cX6_head 30 = .ok (.iload_n 1, 1) := by decide +kernel
theorem dX6_head_31 : decode cX6_head 31 = .ok (.invokevirtual 203, 3) := by decide +kernel
theorem dX6_head_34 : decode cX6_head 34 = .ok (.lreturn, 1) := by decide +kernel
set_option maxRecDepth 20000 in
theorem ggX6_prove_X5_makeForRecord : GoodIn wsX6_prove wsX5_makeForRecord := goodIn_r _ [9, 10, 11, 12, 13, 8, 14, 15, 16, 17, 18, 19, 20, 21, 22, 23, 24, 25, 26, 27, 28, 29, 30, 31, 32, 33, 34, 35, 36, 37, 38, 39, 40, 41, 42, 43, 44, 45, 46, 47, 48, 49, 50, 51, 52, 53, 54, 55, 56, 57, 58, 59, 60, 61, 62, 63, 64, 65, 66, 67, 68, 69, 80, 81, 82, 83, 76, 77, 78, 79] rfl (by decide +kernel)
set_option maxRecDepth 20000 in
theorem gX6_prove_X5_makeForRecord : GoodIn wsX6_prove (wsV RX6 209 RX5 yX5_makeForRecord wsX5_makeForRecord) := goodIn_app (goodIn_r _ [5, 6, 7, 8] rfl (by decide +kernel)) ggX6_prove_X5_makeForRecord
theorem dX6_prove_0 : decode cX6_prove 0 = .ok (.iload_n 1, 1) := by decide +kernel
theorem dX6_prove_1 : decode cX6_prove 1 = .ok (.ifCond .lt 19, 3) := by decide +kernel
theorem dX6_prove_4 : decode cX6_prove 4 = .ok (.iload_n 1, 1) := by decide +kernel
theorem dX6_prove_5 : decode cX6_prove 5 = .ok (.iload_n 2, 1) := by decide +kernel
theorem dX6_prove_6 : decode cX6_prove 6 = .ok (.if_icmp .ge 14, 3) := by decide +kernel
theorem dX6_prove_9 : decode cX6_prove 9 = .ok (.iload_n 2, 1) := by decide +kernel
theorem dX6_prove_10 : decode cX6_prove 10 = .ok (.aload_n 0, 1) := by decide +kernel
theorem dX6_prove_11 : decode cX6_prove 11 = .ok (.getfield 10, 3) := by decide +kernel
theorem dX6_prove_14 : decode cX6_prove 14 = .ok (.getfield 174, 3) := by decide +kernel
theorem dX6_prove_17 : decode cX6_prove 17 = .ok (.if_icmp .le 13, 3) := by decide +kernel
theorem dX6_prove_20 : decode cX6_prove 20 = .ok (.new 180, 3) := by decide +kernel
theorem dX6_prove_23 : decode cX6_prove 23 = .ok (.dup, 1) := by decide +kernel
theorem dX6_prove_24 : decode cX6_prove 24 = .ok (.ldc 207, 2) := by decide +kernel
theorem dX6_prove_26 : decode cX6_prove 26 = .ok (.invokespecial 184, 3) := by decide +kernel
theorem dX6_prove_29 : decode cX6_prove 29 = .ok (.athrow, 1) := by decide +kernel
theorem dX6_prove_30 : decode cX6_prove 30 = .ok (.aload_n 0, 1) := by decide +kernel
theorem dX6_prove_31 : decode cX6_prove 31 = .ok (.getfield 33, 3) := by decide +kernel
theorem dX6_prove_34 : decode cX6_prove 34 = .ok (.aload_n 0, 1) := by decide +kernel
theorem dX6_prove_35 : decode cX6_prove 35 = .ok (.getfield 10, 3) := by decide +kernel
theorem dX6_prove_38 : decode cX6_prove 38 = .ok (.iload_n 1, 1) := by decide +kernel
theorem dX6_prove_39 : decode cX6_prove 39 = .ok (.iload_n 2, 1) := by decide +kernel
theorem dX6_prove_40 : decode cX6_prove 40 = .ok (.invokevirtual 209, 3) := by decide +kernel
theorem dX6_prove_43 : decode cX6_prove 43 = .ok (.ireturn, 1) := by decide +kernel
set_option maxRecDepth 20000 in
theorem ggX6_relate_X5_makeForFirst : GoodIn wsX6_relate wsX5_makeForFirst := goodIn_r _ [9, 10, 11, 12, 13, 8, 14, 15, 16, 17, 18, 19, 20, 21, 22, 23, 24, 25, 26, 27, 28, 29, 30, 31, 32, 33, 34, 35, 36, 37, 38, 39, 40, 41, 42, 43, 44, 45, 46, 47, 48, 49, 50, 51, 52, 53, 54, 55, 56, 57, 58, 59, 60, 61, 62, 63, 64, 65, 66, 67, 68, 69, 70, 71, 72, 73, 84, 85, 86, 87, 80, 81, 82, 83] rfl (by decide +kernel)
set_option maxRecDepth 20000 in
theorem gX6_relate_X5_makeForFirst : GoodIn wsX6_relate (wsV RX6 215 RX5 yX5_makeForFirst wsX5_makeForFirst) := goodIn_app (goodIn_r _ [5, 6, 7, 8] rfl (by decide +kernel)) ggX6_relate_X5_makeForFirst
theorem dX6_relate_0 : decode cX6_relate 0 = .ok (.iload_n 1, 1) := by decide +kernel
theorem dX6_relate_1 : decode cX6_relate 1 = .ok (.iconst 1, 1) := by decide +kernel
theorem dX6_relate_2 : decode cX6_relate 2 = .ok (.if_icmp .lt 19, 3) := by decide +kernel
theorem dX6_relate_5 : decode cX6_relate 5 = .ok (.iload_n 1, 1) := by decide +kernel
theorem dX6_relate_6 : decode cX6_relate 6 = .ok (.iload_n 2, 1) := by decide +kernel
theorem dX6_relate_7 : decode cX6_relate 7 = .ok (.if_icmp .gt 14, 3) := by decide +kernel
theorem dX6_relate_10 : decode cX6_relate 10 = .ok (.iload_n 2, 1) := by decide +kernel
theorem dX6_relate_11 : decode cX6_relate 11 = .ok (.aload_n 0, 1) := by decide +kernel
theorem dX6_relate_12 : decode cX6_relate 12 = .ok (.getfield 10, 3) := by decide +kernel
theorem dX6_relate_15 : decode cX6_relate 15 = .ok (.getfield 174, 3) := by decide +kernel
theorem dX6_relate_18 : decode cX6_relate 18 = .ok (.if_icmp .le 13, 3) := by decide +kernel
theorem dX6_relate_21 : decode cX6_relate 21 = .ok (.new 180, 3) := by decide +kernel
theorem dX6_relate_24 : decode cX6_relate 24 = .ok (.dup, 1) := by decide +kernel
theorem dX6_relate_25 : decode cX6_relate 25 = .ok (.ldc 213, 2) := by decide +kernel
theorem dX6_relate_27 : decode cX6_relate 27 = .ok (.invokespecial 184, 3) := by decide +kernel
theorem dX6_relate_30 : decode cX6_relate 30 = .ok (.athrow, 1) := by decide +kernel
theorem dX6_relate_31 : decode cX6_relate 31 = .ok (.aload_n 0, 1) := by decide +kernel
theorem dX6_relate_32 : decode cX6_relate 32 = .ok (.getfield 33, 3) := by decide +kernel
theorem dX6_relate_35 : decode cX6_relate 35 = .ok (.aload_n 0, 1) := by decide +kernel
theorem dX6_relate_36 : decode cX6_relate 36 = .ok (.getfield 10, 3) := by decide +kernel
theorem dX6_relate_39 : decode cX6_relate 39 = .ok (.iload_n 1, 1) := by decide +kernel
theorem dX6_relate_40 : decode cX6_relate 40 = .ok (.iload_n 2, 1) := by decide +kernel
theorem dX6_relate_41 : decode cX6_relate 41 = .ok (.invokevirtual 215, 3) := by decide +kernel
theorem dX6_relate_44 : decode cX6_relate 44 = .ok (.ireturn, 1) := by decide +kernel
theorem dX6_proof_0 : decode cX6_proof 0 = .ok (.iload_n 1, 1) := by decide +kernel
theorem dX6_proof_1 : decode cX6_proof 1 = .ok (.ifCond .lt 14, 3) := by decide +kernel
theorem dX6_proof_4 : decode cX6_proof 4 = .ok (.iload_n 1, 1) := by decide +kernel
theorem dX6_proof_5 : decode cX6_proof 5 = .ok (.aload_n 0, 1) := by decide +kernel
theorem dX6_proof_6 : decode cX6_proof 6 = .ok (.getfield 33, 3) := by decide +kernel
theorem dX6_proof_9 : decode cX6_proof 9 = .ok (.getfield 218, 3) := by decide +kernel
theorem dX6_proof_12 : decode cX6_proof 12 = .ok (.if_icmp .lt 13, 3) := by decide +kernel
theorem dX6_proof_15 : decode cX6_proof 15 = .ok (.new 180, 3) := by decide +kernel
theorem dX6_proof_18 : decode cX6_proof 18 = .ok (.dup, 1) := by decide +kernel
theorem dX6_proof_19 : decode cX6_proof 19 = .ok (.ldc 221, 2) := by decide +kernel
theorem dX6_proof_21 : decode cX6_proof 21 = .ok (.invokespecial 184, 3) := by decide +kernel
theorem dX6_proof_24 : decode cX6_proof 24 = .ok (.athrow, 1) := by decide +kernel
theorem dX6_proof_25 : decode cX6_proof 25 = .ok (.aload_n 0, 1) := by decide +kernel
theorem dX6_proof_26 : decode cX6_proof 26 = .ok (.getfield 33, 3) := by decide +kernel
theorem dX6_proof_29 : decode cX6_proof 29 = .ok (.getfield 223, 3) := by decide +kernel
theorem dX6_proof_32 : decode cX6_proof 32 = .ok (.iload_n 1, 1) := by decide +kernel
theorem dX6_proof_33 : decode cX6_proof 33 = .ok (.laload, 1) := by decide +kernel
theorem dX6_proof_34 : decode cX6_proof 34 = .ok (.lreturn, 1) := by decide +kernel
set_option maxRecDepth 20000 in
theorem ggX6_shows_X5_fitsRecord : GoodIn wsX6_shows wsX5_fitsRecord := goodIn_r _ [6, 7, 8, 9, 10, 11, 12, 5, 13, 14, 15, 16, 17, 18, 19, 20, 21, 22, 23, 24, 25, 26, 27, 28, 29, 30, 31, 32, 33, 34, 35, 36, 43, 44, 45, 46] rfl (by decide +kernel)
set_option maxRecDepth 20000 in
theorem gX6_shows_X5_fitsRecord : GoodIn wsX6_shows (wsV RX6 227 RX5 yX5_fitsRecord wsX5_fitsRecord) := goodIn_app (goodIn_r _ [2, 3, 4, 5] rfl (by decide +kernel)) ggX6_shows_X5_fitsRecord
theorem dX6_shows_0 : decode cX6_shows 0 = .ok (.iload_n 1, 1) := by decide +kernel
theorem dX6_shows_1 : decode cX6_shows 1 = .ok (.ifCond .lt 27, 3) := by decide +kernel
theorem dX6_shows_4 : decode cX6_shows 4 = .ok (.iload_n 1, 1) := by decide +kernel
theorem dX6_shows_5 : decode cX6_shows 5 = .ok (.iload_n 2, 1) := by decide +kernel
theorem dX6_shows_6 : decode cX6_shows 6 = .ok (.if_icmp .ge 22, 3) := by decide +kernel
theorem dX6_shows_9 : decode cX6_shows 9 = .ok (.aload_n 0, 1) := by decide +kernel
theorem dX6_shows_10 : decode cX6_shows 10 = .ok (.getfield 33, 3) := by decide +kernel
theorem dX6_shows_13 : decode cX6_shows 13 = .ok (.iload_n 1, 1) := by decide +kernel
theorem dX6_shows_14 : decode cX6_shows 14 = .ok (.iload_n 2, 1) := by decide +kernel
theorem dX6_shows_15 : decode cX6_shows 15 = .ok (.lload_n 3, 1) := by decide +kernel
theorem dX6_shows_16 : decode cX6_shows 16 = .ok (.lload 5, 2) := by decide +kernel
theorem dX6_shows_18 : decode cX6_shows 18 = .ok (.invokevirtual 227, 3) := by decide +kernel
theorem dX6_shows_21 : decode cX6_shows 21 = .ok (.ifCond .eq 7, 3) := by decide +kernel
theorem dX6_shows_24 : decode cX6_shows 24 = .ok (.iconst 1, 1) := by decide +kernel
theorem dX6_shows_25 : decode cX6_shows 25 = .ok (.goto 4, 3) := by decide +kernel
theorem dX6_shows_28 : decode cX6_shows 28 = .ok (.iconst 0, 1) := by decide +kernel
theorem dX6_shows_29 : decode cX6_shows 29 = .ok (.ireturn, 1) := by decide +kernel
set_option maxRecDepth 20000 in
theorem ggX6_continues_X5_fitsFirst : GoodIn wsX6_continues wsX5_fitsFirst := goodIn_r _ [6, 7, 8, 9, 10, 11, 12, 5, 13, 14, 15, 16, 17, 18, 19, 20, 21, 22, 23, 24, 25, 26, 27, 28, 29, 30, 31, 32, 33, 34, 35, 36, 37, 38, 39, 40, 47, 48, 49, 50] rfl (by decide +kernel)
set_option maxRecDepth 20000 in
theorem gX6_continues_X5_fitsFirst : GoodIn wsX6_continues (wsV RX6 231 RX5 yX5_fitsFirst wsX5_fitsFirst) := goodIn_app (goodIn_r _ [2, 3, 4, 5] rfl (by decide +kernel)) ggX6_continues_X5_fitsFirst
theorem dX6_continues_0 : decode cX6_continues 0 = .ok (.iload_n 1, 1) := by decide +kernel
theorem dX6_continues_1 : decode cX6_continues 1 = .ok (.iconst 1, 1) := by decide +kernel
theorem dX6_continues_2 : decode cX6_continues 2 = .ok (.if_icmp .lt 27, 3) := by decide +kernel
theorem dX6_continues_5 : decode cX6_continues 5 = .ok (.iload_n 1, 1) := by decide +kernel
theorem dX6_continues_6 : decode cX6_continues 6 = .ok (.iload_n 2, 1) := by decide +kernel
theorem dX6_continues_7 : decode cX6_continues 7 = .ok (.if_icmp .gt 22, 3) := by decide +kernel
theorem dX6_continues_10 : decode cX6_continues 10 = .ok (.aload_n 0, 1) := by decide +kernel
theorem dX6_continues_11 : decode cX6_continues 11 = .ok (.getfield 33, 3) := by decide +kernel
theorem dX6_continues_14 : decode cX6_continues 14 = .ok (.iload_n 1, 1) := by decide +kernel
theorem dX6_continues_15 : decode cX6_continues 15 = .ok (.iload_n 2, 1) := by decide +kernel
theorem dX6_continues_16 : decode cX6_continues 16 = .ok (.lload_n 3, 1) := by decide +kernel
theorem dX6_continues_17 : decode cX6_continues 17 = .ok (.lload 5, 2) := by decide +kernel
theorem dX6_continues_19 : decode cX6_continues 19 = .ok (.invokevirtual 231, 3) := by decide +kernel
theorem dX6_continues_22 : decode cX6_continues 22 = .ok (.ifCond .eq 7, 3) := by decide +kernel
theorem dX6_continues_25 : decode cX6_continues 25 = .ok (.iconst 1, 1) := by decide +kernel
theorem dX6_continues_26 : decode cX6_continues 26 = .ok (.goto 4, 3) := by decide +kernel
theorem dX6_continues_29 : decode cX6_continues 29 = .ok (.iconst 0, 1) := by decide +kernel
theorem dX6_continues_30 : decode cX6_continues 30 = .ok (.ireturn, 1) := by decide +kernel
theorem dX6_isTrustee_0 : decode cX6_isTrustee 0 = .ok (.iload_n 0, 1) := by decide +kernel
theorem dX6_isTrustee_1 : decode cX6_isTrustee 1 = .ok (.ifCond .lt 12, 3) := by decide +kernel
theorem dX6_isTrustee_4 : decode cX6_isTrustee 4 = .ok (.iload_n 0, 1) := by decide +kernel
theorem dX6_isTrustee_5 : decode cX6_isTrustee 5 = .ok (.iconst 3, 1) := by decide +kernel
theorem dX6_isTrustee_6 : decode cX6_isTrustee 6 = .ok (.if_icmp .ge 7, 3) := by decide +kernel
theorem dX6_isTrustee_9 : decode cX6_isTrustee 9 = .ok (.iconst 1, 1) := by decide +kernel
theorem dX6_isTrustee_10 : decode cX6_isTrustee 10 = .ok (.goto 4, 3) := by decide +kernel
theorem dX6_isTrustee_13 : decode cX6_isTrustee 13 = .ok (.iconst 0, 1) := by decide +kernel
theorem dX6_isTrustee_14 : decode cX6_isTrustee 14 = .ok (.ireturn, 1) := by decide +kernel
theorem dX6_isVoter_0 : decode cX6_isVoter 0 = .ok (.iload_n 0, 1) := by decide +kernel
theorem dX6_isVoter_1 : decode cX6_isVoter 1 = .ok (.ifCond .lt 13, 3) := by decide +kernel
theorem dX6_isVoter_4 : decode cX6_isVoter 4 = .ok (.iload_n 0, 1) := by decide +kernel
theorem dX6_isVoter_5 : decode cX6_isVoter 5 = .ok (.bipush 10, 2) := by decide +kernel
theorem dX6_isVoter_7 : decode cX6_isVoter 7 = .ok (.if_icmp .ge 7, 3) := by decide +kernel
theorem dX6_isVoter_10 : decode cX6_isVoter 10 = .ok (.iconst 1, 1) := by decide +kernel
theorem dX6_isVoter_11 : decode cX6_isVoter 11 = .ok (.goto 4, 3) := by decide +kernel
theorem dX6_isVoter_14 : decode cX6_isVoter 14 = .ok (.iconst 0, 1) := by decide +kernel
theorem dX6_isVoter_15 : decode cX6_isVoter 15 = .ok (.ireturn, 1) := by decide +kernel
theorem dX6_isChoice_0 : decode cX6_isChoice 0 = .ok (.iload_n 0, 1) := by decide +kernel
theorem dX6_isChoice_1 : decode cX6_isChoice 1 = .ok (.ifCond .lt 12, 3) := by decide +kernel
theorem dX6_isChoice_4 : decode cX6_isChoice 4 = .ok (.iload_n 0, 1) := by decide +kernel
theorem dX6_isChoice_5 : decode cX6_isChoice 5 = .ok (.iconst 4, 1) := by decide +kernel
theorem dX6_isChoice_6 : decode cX6_isChoice 6 = .ok (.if_icmp .ge 7, 3) := by decide +kernel
theorem dX6_isChoice_9 : decode cX6_isChoice 9 = .ok (.iconst 1, 1) := by decide +kernel
theorem dX6_isChoice_10 : decode cX6_isChoice 10 = .ok (.goto 4, 3) := by decide +kernel
theorem dX6_isChoice_13 : decode cX6_isChoice 13 = .ok (.iconst 0, 1) := by decide +kernel
theorem dX6_isChoice_14 : decode cX6_isChoice 14 = .ok (.ireturn, 1) := by decide +kernel
set_option maxRecDepth 20000 in
theorem ggX6_putEntries_X1_put : GoodIn wsX6_putEntries wsX1_put := goodIn_r _ [7, 8, 9, 10, 11, 12, 6, 13, 14, 36, 37, 38, 39] rfl (by decide +kernel)
set_option maxRecDepth 20000 in
theorem gX6_putEntries_X1_put : GoodIn wsX6_putEntries (wsV RX6 72 RX1 yX1_put wsX1_put) := goodIn_app (goodIn_r _ [3, 4, 5, 6] rfl (by decide +kernel)) ggX6_putEntries_X1_put
theorem dX6_putEntries_0 : decode cX6_putEntries 0 = .ok (.iconst 0, 1) := by decide +kernel
theorem dX6_putEntries_1 : decode cX6_putEntries 1 = .ok (.istore_n 1, 1) := by decide +kernel
theorem dX6_putEntries_2 : decode cX6_putEntries 2 = .ok (.iload_n 1, 1) := by decide +kernel
theorem dX6_putEntries_3 : decode cX6_putEntries 3 = .ok (.aload_n 0, 1) := by decide +kernel
theorem dX6_putEntries_4 : decode cX6_putEntries 4 = .ok (.getfield 19, 3) := by decide +kernel
theorem dX6_putEntries_7 : decode cX6_putEntries 7 = .ok (.getfield 130, 3) := by decide +kernel
theorem dX6_putEntries_10 : decode cX6_putEntries 10 = .ok (.if_icmp .ge 37, 3) := by decide +kernel
theorem dX6_putEntries_13 : decode cX6_putEntries 13 = .ok (.aload_n 0, 1) := by decide +kernel
theorem dX6_putEntries_14 : decode cX6_putEntries 14 = .ok (.getfield 10, 3) := by decide +kernel
theorem dX6_putEntries_17 : decode cX6_putEntries 17 = .ok (.iconst 5, 1) := by decide +kernel
theorem dX6_putEntries_18 : decode cX6_putEntries 18 = .ok (.aload_n 0, 1) := by decide +kernel
theorem dX6_putEntries_19 : decode cX6_putEntries 19 = .ok (.getfield 19, 3) := by decide +kernel
theorem dX6_putEntries_22 : decode cX6_putEntries 22 = .ok (.getfield 234, 3) := by decide +kernel
theorem dX6_putEntries_25 : decode cX6_putEntries 25 = .ok (.iload_n 1, 1) := by decide +kernel
theorem dX6_putEntries_26 : decode cX6_putEntries 26 = .ok (.iaload, 1) := by decide +kernel
theorem dX6_putEntries_27 : decode cX6_putEntries 27 = .ok (.aload_n 0, 1) := by decide +kernel
theorem dX6_putEntries_28 : decode cX6_putEntries 28 = .ok (.getfield 19, 3) := by decide +kernel
theorem dX6_putEntries_31 : decode cX6_putEntries 31 = .ok (.getfield 237, 3) := by decide +kernel
theorem dX6_putEntries_34 : decode cX6_putEntries 34 = .ok (.iload_n 1, 1) := by decide +kernel
theorem dX6_putEntries_35 : decode cX6_putEntries 35 = .ok (.iaload, 1) := by decide +kernel
theorem dX6_putEntries_36 : decode cX6_putEntries 36 = .ok (.iconst 0, 1) := by decide +kernel
theorem dX6_putEntries_37 : decode cX6_putEntries 37 = .ok (.invokevirtual 72, 3) := by decide +kernel
theorem dX6_putEntries_40 : decode cX6_putEntries 40 = .ok (.pop, 1) := by decide +kernel
theorem dX6_putEntries_41 : decode cX6_putEntries 41 = .ok (.iinc 1 1, 3) := by decide +kernel
theorem dX6_putEntries_44 : decode cX6_putEntries 44 = .ok (.goto (-42), 3) := by decide +kernel
theorem dX6_putEntries_47 : decode cX6_putEntries 47 = .ok (.return_, 1) := by decide +kernel
set_option maxRecDepth 20000 in
theorem ggX6_putShare_X3_power : GoodIn wsX6_putShare wsX3_power := goodIn_r _ [7] rfl (by decide +kernel)
set_option maxRecDepth 20000 in
theorem gX6_putShare_X3_power : GoodIn wsX6_putShare (va_wsS RX6 108 yX3_power wsX3_power) := goodIn_app (goodIn_r _ [4, 5, 6] rfl (by decide +kernel)) ggX6_putShare_X3_power
set_option maxRecDepth 20000 in
theorem ggX6_putShare_X2_with : GoodIn wsX6_putShare wsX2_with := goodIn_r _ [11, 12] rfl (by decide +kernel)
set_option maxRecDepth 20000 in
theorem gX6_putShare_X2_with : GoodIn wsX6_putShare (va_wsS RX6 240 yX2_with wsX2_with) := goodIn_app (goodIn_r _ [8, 9, 10] rfl (by decide +kernel)) ggX6_putShare_X2_with
set_option maxRecDepth 20000 in
theorem ggX6_putShare_X2_number : GoodIn wsX6_putShare wsX2_number := goodIn_r _ [15, 16] rfl (by decide +kernel)
set_option maxRecDepth 20000 in
theorem gX6_putShare_X2_number : GoodIn wsX6_putShare (va_wsS RX6 246 yX2_number wsX2_number) := goodIn_app (goodIn_r _ [13, 14, 10] rfl (by decide +kernel)) ggX6_putShare_X2_number
set_option maxRecDepth 20000 in
theorem ggX6_putShare_X3_ofBase : GoodIn wsX6_putShare wsX3_ofBase := goodIn_r _ [19, 20, 5, 6, 7] rfl (by decide +kernel)
set_option maxRecDepth 20000 in
theorem gX6_putShare_X3_ofBase : GoodIn wsX6_putShare (va_wsS RX6 58 yX3_ofBase wsX3_ofBase) := goodIn_app (goodIn_r _ [17, 18, 6] rfl (by decide +kernel)) ggX6_putShare_X3_ofBase
set_option maxRecDepth 20000 in
theorem ggX6_putShare_X2_challenge : GoodIn wsX6_putShare wsX2_challenge := goodIn_r _ [23, 24, 9, 10, 11, 12, 25, 14, 15, 16] rfl (by decide +kernel)
set_option maxRecDepth 20000 in
theorem gX6_putShare_X2_challenge : GoodIn wsX6_putShare (va_wsS RX6 249 yX2_challenge wsX2_challenge) := goodIn_app (goodIn_r _ [21, 22, 10] rfl (by decide +kernel)) ggX6_putShare_X2_challenge
set_option maxRecDepth 20000 in
theorem ggX6_putShare_X1_put : GoodIn wsX6_putShare wsX1_put := goodIn_r _ [30, 31, 32, 33, 34, 35, 29, 36, 37, 69, 70, 71, 72] rfl (by decide +kernel)
set_option maxRecDepth 20000 in
theorem gX6_putShare_X1_put : GoodIn wsX6_putShare (wsV RX6 72 RX1 yX1_put wsX1_put) := goodIn_app (goodIn_r _ [26, 27, 28, 29] rfl (by decide +kernel)) ggX6_putShare_X1_put
set_option maxRecDepth 20000 in
theorem ggX6_putShare_X1_write : GoodIn wsX6_putShare wsX1_write := goodIn_r _ [36, 37, 69, 70, 71, 72] rfl (by decide +kernel)
set_option maxRecDepth 20000 in
theorem gX6_putShare_X1_write : GoodIn wsX6_putShare (wsV RX6 169 RX1 yX1_write wsX1_write) := goodIn_app (goodIn_r _ [38, 34, 35, 29] rfl (by decide +kernel)) ggX6_putShare_X1_write
set_option maxRecDepth 20000 in
theorem ggX6_putShare_X4_addShare : GoodIn wsX6_putShare wsX4_addShare := goodIn_r _ [43, 44, 45, 46, 6, 47, 54, 55, 56, 57, 58, 59, 60, 61, 62, 63, 64, 65, 66, 67, 68] rfl (by decide +kernel)
set_option maxRecDepth 20000 in
theorem gX6_putShare_X4_addShare : GoodIn wsX6_putShare (wsV RX6 253 RX4 yX4_addShare wsX4_addShare) := goodIn_app (goodIn_r _ [39, 40, 41, 42] rfl (by decide +kernel)) ggX6_putShare_X4_addShare
theorem dX6_putShare_0 : decode cX6_putShare 0 = .ok (.aload_n 0, 1) := by decide +kernel
theorem dX6_putShare_1 : decode cX6_putShare 1 = .ok (.getfield 19, 3) := by decide +kernel
theorem dX6_putShare_4 : decode cX6_putShare 4 = .ok (.getfield 234, 3) := by decide +kernel
theorem dX6_putShare_7 : decode cX6_putShare 7 = .ok (.iload_n 2, 1) := by decide +kernel
theorem dX6_putShare_8 : decode cX6_putShare 8 = .ok (.iaload, 1) := by decide +kernel
theorem dX6_putShare_9 : decode cX6_putShare 9 = .ok (.istore 4, 2) := by decide +kernel
theorem dX6_putShare_11 : decode cX6_putShare 11 = .ok (.iload 4, 2) := by decide +kernel
theorem dX6_putShare_13 : decode cX6_putShare 13 = .ok (.aload_n 0, 1) := by decide +kernel
theorem dX6_putShare_14 : decode cX6_putShare 14 = .ok (.getfield 37, 3) := by decide +kernel
theorem dX6_putShare_17 : decode cX6_putShare 17 = .ok (.iload_n 1, 1) := by decide +kernel
theorem dX6_putShare_18 : decode cX6_putShare 18 = .ok (.iaload, 1) := by decide +kernel
theorem dX6_putShare_19 : decode cX6_putShare 19 = .ok (.invokestatic 108, 3) := by decide +kernel
theorem dX6_putShare_22 : decode cX6_putShare 22 = .ok (.istore 5, 2) := by decide +kernel
theorem dX6_putShare_24 : decode cX6_putShare 24 = .ok (.lconst 0, 1) := by decide +kernel
theorem dX6_putShare_25 : decode cX6_putShare 25 = .ok (.iload_n 3, 1) := by decide +kernel
theorem dX6_putShare_26 : decode cX6_putShare 26 = .ok (.i2l, 1) := by decide +kernel
theorem dX6_putShare_27 : decode cX6_putShare 27 = .ok (.invokestatic 240, 3) := by decide +kernel
theorem dX6_putShare_30 : decode cX6_putShare 30 = .ok (.iload_n 1, 1) := by decide +kernel
theorem dX6_putShare_31 : decode cX6_putShare 31 = .ok (.i2l, 1) := by decide +kernel
theorem dX6_putShare_32 : decode cX6_putShare 32 = .ok (.invokestatic 240, 3) := by decide +kernel
theorem dX6_putShare_35 : decode cX6_putShare 35 = .ok (.iload_n 2, 1) := by decide +kernel
theorem dX6_putShare_36 : decode cX6_putShare 36 = .ok (.i2l, 1) := by decide +kernel
theorem dX6_putShare_37 : decode cX6_putShare 37 = .ok (.invokestatic 240, 3) := by decide +kernel
theorem dX6_putShare_40 : decode cX6_putShare 40 = .ok (.invokestatic 246, 3) := by decide +kernel
theorem dX6_putShare_43 : decode cX6_putShare 43 = .ok (.istore 6, 2) := by decide +kernel
theorem dX6_putShare_45 : decode cX6_putShare 45 = .ok (.iload 6, 2) := by decide +kernel
theorem dX6_putShare_47 : decode cX6_putShare 47 = .ok (.invokestatic 58, 3) := by decide +kernel
theorem dX6_putShare_50 : decode cX6_putShare 50 = .ok (.istore 7, 2) := by decide +kernel
theorem dX6_putShare_52 : decode cX6_putShare 52 = .ok (.iload 4, 2) := by decide +kernel
theorem dX6_putShare_54 : decode cX6_putShare 54 = .ok (.iload 6, 2) := by decide +kernel
theorem dX6_putShare_56 : decode cX6_putShare 56 = .ok (.invokestatic 108, 3) := by decide +kernel
theorem dX6_putShare_59 : decode cX6_putShare 59 = .ok (.istore 8, 2) := by decide +kernel
theorem dX6_putShare_61 : decode cX6_putShare 61 = .ok (.aload_n 0, 1) := by decide +kernel
theorem dX6_putShare_62 : decode cX6_putShare 62 = .ok (.getfield 19, 3) := by decide +kernel
theorem dX6_putShare_65 : decode cX6_putShare 65 = .ok (.getfield 69, 3) := by decide +kernel
theorem dX6_putShare_68 : decode cX6_putShare 68 = .ok (.iload_n 1, 1) := by decide +kernel
theorem dX6_putShare_69 : decode cX6_putShare 69 = .ok (.iaload, 1) := by decide +kernel
theorem dX6_putShare_70 : decode cX6_putShare 70 = .ok (.iload 4, 2) := by decide +kernel
theorem dX6_putShare_72 : decode cX6_putShare 72 = .ok (.iload 5, 2) := by decide +kernel
theorem dX6_putShare_74 : decode cX6_putShare 74 = .ok (.iload 7, 2) := by decide +kernel
theorem dX6_putShare_76 : decode cX6_putShare 76 = .ok (.iload 8, 2) := by decide +kernel
theorem dX6_putShare_78 : decode cX6_putShare 78 = .ok (.invokestatic 249, 3) := by decide +kernel
theorem dX6_putShare_81 : decode cX6_putShare 81 = .ok (.istore 9, 2) := by decide +kernel
theorem dX6_putShare_83 : decode cX6_putShare 83 = .ok (.aload_n 0, 1) := by decide +kernel
theorem dX6_putShare_84 : decode cX6_putShare 84 = .ok (.getfield 10, 3) := by decide +kernel
theorem dX6_putShare_87 : decode cX6_putShare 87 = .ok (.bipush 6, 2) := by decide +kernel
theorem dX6_putShare_89 : decode cX6_putShare 89 = .ok (.iload_n 1, 1) := by decide +kernel
theorem dX6_putShare_90 : decode cX6_putShare 90 = .ok (.iload_n 2, 1) := by decide +kernel
theorem dX6_putShare_91 : decode cX6_putShare 91 = .ok (.iload 5, 2) := by decide +kernel
theorem dX6_putShare_93 : decode cX6_putShare 93 = .ok (.invokevirtual 72, 3) := by decide +kernel
theorem dX6_putShare_96 : decode cX6_putShare 96 = .ok (.istore 10, 2) := by decide +kernel
theorem dX6_putShare_98 : decode cX6_putShare 98 = .ok (.aload_n 0, 1) := by decide +kernel
theorem dX6_putShare_99 : decode cX6_putShare 99 = .ok (.getfield 10, 3) := by decide +kernel
theorem dX6_putShare_102 : decode cX6_putShare 102 = .ok (.iload 10, 2) := by decide +kernel
theorem dX6_putShare_104 : decode cX6_putShare 104 = .ok (.iconst 3, 1) := by decide +kernel
theorem dX6_putShare_105 : decode cX6_putShare 105 = .ok (.iload 6, 2) := by decide +kernel
theorem dX6_putShare_107 : decode cX6_putShare 107 = .ok (.iload 9, 2) := by decide +kernel
theorem dX6_putShare_109 : decode cX6_putShare 109 = .ok (.aload_n 0, 1) := by decide +kernel
theorem dX6_putShare_110 : decode cX6_putShare 110 = .ok (.getfield 37, 3) := by decide +kernel
theorem dX6_putShare_113 : decode cX6_putShare 113 = .ok (.iload_n 1, 1) := by decide +kernel
theorem dX6_putShare_114 : decode cX6_putShare 114 = .ok (.iaload, 1) := by decide +kernel
theorem dX6_putShare_115 : decode cX6_putShare 115 = .ok (.imul, 1) := by decide +kernel
theorem dX6_putShare_116 : decode cX6_putShare 116 = .ok (.iadd, 1) := by decide +kernel
theorem dX6_putShare_117 : decode cX6_putShare 117 = .ok (.sipush 2039, 3) := by decide +kernel
theorem dX6_putShare_120 : decode cX6_putShare 120 = .ok (.irem, 1) := by decide +kernel
theorem dX6_putShare_121 : decode cX6_putShare 121 = .ok (.invokevirtual 169, 3) := by decide +kernel
theorem dX6_putShare_124 : decode cX6_putShare 124 = .ok (.aload_n 0, 1) := by decide +kernel
theorem dX6_putShare_125 : decode cX6_putShare 125 = .ok (.getfield 10, 3) := by decide +kernel
theorem dX6_putShare_128 : decode cX6_putShare 128 = .ok (.iload 10, 2) := by decide +kernel
theorem dX6_putShare_130 : decode cX6_putShare 130 = .ok (.iconst 4, 1) := by decide +kernel
theorem dX6_putShare_131 : decode cX6_putShare 131 = .ok (.iload 7, 2) := by decide +kernel
theorem dX6_putShare_133 : decode cX6_putShare 133 = .ok (.invokevirtual 169, 3) := by decide +kernel
theorem dX6_putShare_136 : decode cX6_putShare 136 = .ok (.aload_n 0, 1) := by decide +kernel
theorem dX6_putShare_137 : decode cX6_putShare 137 = .ok (.getfield 10, 3) := by decide +kernel
theorem dX6_putShare_140 : decode cX6_putShare 140 = .ok (.iload 10, 2) := by decide +kernel
theorem dX6_putShare_142 : decode cX6_putShare 142 = .ok (.iconst 5, 1) := by decide +kernel
theorem dX6_putShare_143 : decode cX6_putShare 143 = .ok (.iload 8, 2) := by decide +kernel
theorem dX6_putShare_145 : decode cX6_putShare 145 = .ok (.invokevirtual 169, 3) := by decide +kernel
theorem dX6_putShare_148 : decode cX6_putShare 148 = .ok (.aload_n 0, 1) := by decide +kernel
theorem dX6_putShare_149 : decode cX6_putShare 149 = .ok (.getfield 19, 3) := by decide +kernel
theorem dX6_putShare_152 : decode cX6_putShare 152 = .ok (.iload_n 2, 1) := by decide +kernel
theorem dX6_putShare_153 : decode cX6_putShare 153 = .ok (.iload 5, 2) := by decide +kernel
theorem dX6_putShare_155 : decode cX6_putShare 155 = .ok (.invokevirtual 253, 3) := by decide +kernel
theorem dX6_putShare_158 : decode cX6_putShare 158 = .ok (.return_, 1) := by decide +kernel
