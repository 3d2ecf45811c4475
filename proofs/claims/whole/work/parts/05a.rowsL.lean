set_option maxRecDepth 20000 in
theorem ggL_begin_X6_begin : GoodIn wsL_begin wsX6_begin := goodIn_ca (goodIn_r _ [6, 7, 8, 9, 10, 11, 12, 13, 14, 15, 16, 17, 18, 19, 20, 21, 22, 23, 24, 25, 26, 27, 28, 29, 30, 31, 32, 33, 34, 35, 36, 37, 38, 39, 40, 41, 42, 43, 44, 45, 46, 47, 48, 49, 50, 51, 52, 53, 54, 55, 56, 57, 58, 59, 60, 61, 62, 63, 64, 65, 66, 67, 68, 69, 70, 71, 72, 73, 74, 75, 76] rfl (by decide +kernel)) (goodIn_sub (fun _ h => List.mem_cons_of_mem _ (List.mem_append_right _ h)) (by decide +kernel))
set_option maxRecDepth 20000 in
theorem gL_begin_X6_begin : GoodIn wsL_begin (wsV RL 7 RX6 yX6_begin wsX6_begin) := goodIn_app (goodIn_r _ [2, 3, 4, 5] rfl (by decide +kernel)) ggL_begin_X6_begin
set_option maxRecDepth 20000 in
theorem ggL_register_X6_register : GoodIn wsL_register wsX6_register := goodIn_ca (goodIn_ca (goodIn_ca (goodIn_r _ [8, 9, 10, 11, 12, 13, 14, 15, 16, 17, 18, 19, 7, 20, 21, 22, 23, 24, 25, 26, 27, 28, 29, 30, 31, 32, 33, 34, 35, 36, 37, 38, 39, 40, 41, 42, 43, 44, 45, 46, 47, 48, 49, 50, 51, 52, 53, 54, 55, 56, 57, 58, 59, 60, 61] rfl (by decide +kernel)) (goodIn_sub (fun _ h => List.mem_cons_of_mem _ (List.mem_append_left _ (List.mem_append_left _ (List.mem_append_right _ h)))) (by decide +kernel))) (goodIn_sub (fun _ h => List.mem_cons_of_mem _ (List.mem_append_left _ (List.mem_append_right _ h))) (by decide +kernel))) (goodIn_sub (fun _ h => List.mem_cons_of_mem _ (List.mem_append_right _ h)) (by decide +kernel))
set_option maxRecDepth 20000 in
theorem gL_register_X6_register : GoodIn wsL_register (wsV RL 15 RX6 yX6_register wsX6_register) := goodIn_app (goodIn_r _ [4, 5, 6, 7] rfl (by decide +kernel)) ggL_register_X6_register
set_option maxRecDepth 20000 in
theorem ggL_cast_X6_cast : GoodIn wsL_cast wsX6_cast := goodIn_ca (goodIn_ca (goodIn_ca (goodIn_r _ [8, 9, 10, 11, 12, 13, 14, 15, 16, 17, 18, 19, 7, 20, 21, 22, 23, 24, 25, 26, 27, 28, 29, 30, 31, 32, 33, 34, 35, 36, 37, 38, 39, 40, 41, 42, 43, 44, 45, 46, 47, 48, 49, 50, 51, 52, 53, 54, 55, 56, 57, 58, 59, 60, 61, 62, 63, 64, 65, 66, 67, 68, 69, 70, 71, 72, 73, 74, 75, 76, 77, 78, 79, 80, 81, 82, 83, 84, 85, 86] rfl (by decide +kernel)) (goodIn_sub (fun _ h => List.mem_cons_of_mem _ (List.mem_append_left _ (List.mem_append_left _ (List.mem_append_right _ h)))) (by decide +kernel))) (goodIn_sub (fun _ h => List.mem_cons_of_mem _ (List.mem_append_left _ (List.mem_append_right _ h))) (by decide +kernel))) (goodIn_sub (fun _ h => List.mem_cons_of_mem _ (List.mem_append_right _ h)) (by decide +kernel))
set_option maxRecDepth 20000 in
theorem gL_cast_X6_cast : GoodIn wsL_cast (wsV RL 23 RX6 yX6_cast wsX6_cast) := goodIn_app (goodIn_r _ [4, 5, 6, 7] rfl (by decide +kernel)) ggL_cast_X6_cast
set_option maxRecDepth 20000 in
theorem ggL_close_X6_close : GoodIn wsL_close wsX6_close := goodIn_ca (goodIn_ca (goodIn_r _ [7, 8, 9, 10, 11, 12, 13, 14, 15, 16, 17, 18, 19, 20, 21, 22, 23, 24, 25, 26, 27, 28, 29, 30, 31, 32, 33, 34, 35, 36, 37, 38, 39, 40, 41, 42, 43, 44, 45, 46, 47, 48, 49, 6, 50, 51, 52, 53, 54, 55, 56, 57, 58, 59, 60, 61, 62, 63, 64, 65, 66, 67, 68, 69, 70, 71, 72, 73, 74, 75] rfl (by decide +kernel)) (goodIn_sub (fun _ h => List.mem_cons_of_mem _ (List.mem_append_left _ (List.mem_append_right _ h))) (by decide +kernel))) (goodIn_sub (fun _ h => List.mem_cons_of_mem _ (List.mem_append_right _ h)) (by decide +kernel))
set_option maxRecDepth 20000 in
theorem gL_close_X6_close : GoodIn wsL_close (wsV RL 27 RX6 yX6_close wsX6_close) := goodIn_app (goodIn_r _ [3, 4, 5, 6] rfl (by decide +kernel)) ggL_close_X6_close
set_option maxRecDepth 20000 in
theorem ggL_mix_X6_mix : GoodIn wsL_mix wsX6_mix := goodIn_ca (goodIn_ca (goodIn_ca (goodIn_r _ [8, 9, 10, 11, 12, 13, 14, 15, 16, 17, 18, 19, 20, 21, 22, 23, 24, 25, 26, 27, 28, 29, 30, 31, 32, 33, 34, 35, 36, 37, 38, 39, 40, 41, 42, 43, 44, 45, 46, 47, 48, 49, 50, 51, 52, 53, 54, 55, 56, 57, 58, 59, 60, 61, 62, 63, 64, 65, 66, 67, 68, 69, 70, 71, 72, 73, 74, 75, 76, 7, 77, 78, 79, 80, 81, 82, 83, 84, 85, 86, 87, 88, 89, 90, 91, 92, 93, 94, 95, 96, 97, 98, 99, 100, 101, 102] rfl (by decide +kernel)) (goodIn_sub (fun _ h => List.mem_cons_of_mem _ (List.mem_append_left _ (List.mem_append_left _ (List.mem_append_right _ h)))) (by decide +kernel))) (goodIn_sub (fun _ h => List.mem_cons_of_mem _ (List.mem_append_left _ (List.mem_append_right _ h))) (by decide +kernel))) (goodIn_sub (fun _ h => List.mem_cons_of_mem _ (List.mem_append_right _ h)) (by decide +kernel))
set_option maxRecDepth 20000 in
theorem gL_mix_X6_mix : GoodIn wsL_mix (wsV RL 31 RX6 yX6_mix wsX6_mix) := goodIn_app (goodIn_r _ [4, 5, 6, 7] rfl (by decide +kernel)) ggL_mix_X6_mix
set_option maxRecDepth 20000 in
theorem ggL_open_X6_open : GoodIn wsL_open wsX6_open := goodIn_ca (goodIn_ca (goodIn_ca (goodIn_r _ [8, 9, 10, 11, 12, 13, 14, 15, 16, 17, 18, 19, 7, 20, 21, 22, 23, 24, 25, 26, 27, 28, 29, 30, 31, 32, 33, 34, 35, 36, 37, 38, 39, 40, 41, 42, 43, 44, 45, 46, 47, 48, 49, 50, 51, 52, 53, 54, 55, 56, 57, 58, 59, 60, 61, 62, 63, 64, 65, 66, 67, 68, 69, 70, 71, 72, 73, 74, 75, 76, 77, 78, 79, 80, 81, 82, 83, 84, 85, 86, 87, 88, 89, 90, 91, 92, 93, 94, 95, 96, 97, 98] rfl (by decide +kernel)) (goodIn_sub (fun _ h => List.mem_cons_of_mem _ (List.mem_append_left _ (List.mem_append_left _ (List.mem_append_right _ h)))) (by decide +kernel))) (goodIn_sub (fun _ h => List.mem_cons_of_mem _ (List.mem_append_left _ (List.mem_append_right _ h))) (by decide +kernel))) (goodIn_sub (fun _ h => List.mem_cons_of_mem _ (List.mem_append_right _ h)) (by decide +kernel))
set_option maxRecDepth 20000 in
theorem gL_open_X6_open : GoodIn wsL_open (wsV RL 35 RX6 yX6_open wsX6_open) := goodIn_app (goodIn_r _ [4, 5, 6, 7] rfl (by decide +kernel)) ggL_open_X6_open
set_option maxRecDepth 20000 in
theorem ggL_finish_X6_finish : GoodIn wsL_finish wsX6_finish := goodIn_ca (goodIn_ca (goodIn_r _ [7, 8, 9, 10, 11, 12, 13, 14, 15, 16, 17, 18, 19, 20, 21, 22, 23, 24, 25, 26, 27, 28, 29, 30, 31, 32, 33, 34, 35, 36, 37, 38, 39, 40, 41, 42, 43, 44, 45, 46, 47, 48, 49, 50, 51, 52, 53, 54, 55, 56, 57, 58, 59, 60, 61, 62, 63, 64, 65, 66, 67, 68, 69, 70, 71, 72, 73, 74, 75, 76, 77, 78, 79, 80, 81, 82, 83] rfl (by decide +kernel)) (goodIn_sub (fun _ h => List.mem_cons_of_mem _ (List.mem_append_left _ (List.mem_append_right _ h))) (by decide +kernel))) (goodIn_sub (fun _ h => List.mem_cons_of_mem _ (List.mem_append_right _ h)) (by decide +kernel))
set_option maxRecDepth 20000 in
theorem gL_finish_X6_finish : GoodIn wsL_finish (wsV RL 38 RX6 yX6_finish wsX6_finish) := goodIn_app (goodIn_r _ [3, 4, 5, 6] rfl (by decide +kernel)) ggL_finish_X6_finish
set_option maxRecDepth 20000 in
theorem ggL_votes_X6_votes : GoodIn wsL_votes wsX6_votes := goodIn_ca (goodIn_r _ [6, 7, 8, 9, 10, 11, 12, 5, 13, 14, 15, 16, 17, 18, 19, 20, 21, 22, 23, 24, 25, 26, 27, 28, 29, 30, 31, 32, 33, 34] rfl (by decide +kernel)) (goodIn_sub (fun _ h => List.mem_cons_of_mem _ (List.mem_append_right _ h)) (by decide +kernel))
set_option maxRecDepth 20000 in
theorem gL_votes_X6_votes : GoodIn wsL_votes (wsV RL 41 RX6 yX6_votes wsX6_votes) := goodIn_app (goodIn_r _ [2, 3, 4, 5] rfl (by decide +kernel)) ggL_votes_X6_votes
set_option maxRecDepth 20000 in
theorem ggL_field_X6_field : GoodIn wsL_field wsX6_field := goodIn_ca (goodIn_r _ [6, 7, 8, 9, 10, 11, 12, 13, 14, 15, 16, 17, 18, 19, 20, 21, 22, 23, 24, 25, 26, 27, 28, 29, 30, 31, 32, 33, 34, 35] rfl (by decide +kernel)) (goodIn_sub (fun _ h => List.mem_cons_of_mem _ (List.mem_append_right _ h)) (by decide +kernel))
set_option maxRecDepth 20000 in
theorem gL_field_X6_field : GoodIn wsL_field (wsV RL 45 RX6 yX6_field wsX6_field) := goodIn_app (goodIn_r _ [2, 3, 4, 5] rfl (by decide +kernel)) ggL_field_X6_field
set_option maxRecDepth 20000 in
theorem ggL_forge_X6_forge : GoodIn wsL_forge wsX6_forge := goodIn_ca (goodIn_r _ [6, 7, 8, 9, 10, 11, 12, 13, 14, 15, 16, 17, 18, 19, 20, 21, 22, 23, 24, 25, 26, 27, 28, 29, 30, 31, 32, 33, 34] rfl (by decide +kernel)) (goodIn_sub (fun _ h => List.mem_cons_of_mem _ (List.mem_append_right _ h)) (by decide +kernel))
set_option maxRecDepth 20000 in
theorem gL_forge_X6_forge : GoodIn wsL_forge (wsV RL 51 RX6 yX6_forge wsX6_forge) := goodIn_app (goodIn_r _ [2, 3, 4, 5] rfl (by decide +kernel)) ggL_forge_X6_forge
set_option maxRecDepth 20000 in
theorem ggL_leaf_X6_leaf : GoodIn wsL_leaf wsX6_leaf := goodIn_ca (goodIn_r _ [6, 7, 8, 9, 10, 11, 12, 13, 14, 15, 16, 17, 18, 19, 20, 21, 22, 23, 24, 25, 26, 27, 28, 29, 30, 31, 32, 33, 34, 35, 36, 37, 38, 39, 40, 41, 42, 43, 44, 45, 46, 47] rfl (by decide +kernel)) (goodIn_sub (fun _ h => List.mem_cons_of_mem _ (List.mem_append_right _ h)) (by decide +kernel))
set_option maxRecDepth 20000 in
theorem gL_leaf_X6_leaf : GoodIn wsL_leaf (wsV RL 54 RX6 yX6_leaf wsX6_leaf) := goodIn_app (goodIn_r _ [2, 3, 4, 5] rfl (by decide +kernel)) ggL_leaf_X6_leaf
set_option maxRecDepth 20000 in
theorem ggL_head_X6_head : GoodIn wsL_head wsX6_head := goodIn_ca (goodIn_r _ [6, 7, 8, 9, 10, 11, 12, 13, 14, 15, 16, 17, 18, 19, 20, 21, 22, 23, 24, 25, 26, 27, 28, 29, 30, 31, 32, 33, 34, 35, 36, 37, 38, 39, 40, 41, 42, 43, 44, 45, 46, 47, 48, 49, 50, 51, 52, 53, 54, 55, 56] rfl (by decide +kernel)) (goodIn_sub (fun _ h => List.mem_cons_of_mem _ (List.mem_append_right _ h)) (by decide +kernel))
set_option maxRecDepth 20000 in
theorem gL_head_X6_head : GoodIn wsL_head (wsV RL 58 RX6 yX6_head wsX6_head) := goodIn_app (goodIn_r _ [2, 3, 4, 5] rfl (by decide +kernel)) ggL_head_X6_head
set_option maxRecDepth 20000 in
theorem ggL_prove_X6_prove : GoodIn wsL_prove wsX6_prove := goodIn_ca (goodIn_r _ [6, 7, 8, 9, 10, 11, 12, 13, 14, 15, 16, 17, 18, 19, 20, 21, 22, 23, 24, 25, 26, 27, 28, 29, 30, 31, 32, 33, 34, 35, 36, 37, 38, 39, 40, 41, 42, 43, 44, 45, 46, 47, 48, 49, 50, 51, 52, 53, 54, 55, 56, 57, 58, 59, 60, 61, 62, 63, 64, 65, 66, 67, 68, 69, 70, 71, 72, 73, 74, 75, 76, 77, 78, 79, 80, 81, 82, 83, 84, 85, 86, 87, 88, 89] rfl (by decide +kernel)) (goodIn_sub (fun _ h => List.mem_cons_of_mem _ (List.mem_append_right _ h)) (by decide +kernel))
set_option maxRecDepth 20000 in
theorem gL_prove_X6_prove : GoodIn wsL_prove (wsV RL 61 RX6 yX6_prove wsX6_prove) := goodIn_app (goodIn_r _ [2, 3, 4, 5] rfl (by decide +kernel)) ggL_prove_X6_prove
set_option maxRecDepth 20000 in
theorem ggL_relate_X6_relate : GoodIn wsL_relate wsX6_relate := goodIn_ca (goodIn_r _ [6, 7, 8, 9, 10, 11, 12, 13, 14, 15, 16, 17, 18, 19, 20, 21, 22, 23, 24, 25, 26, 27, 28, 29, 30, 31, 32, 33, 34, 35, 36, 37, 38, 39, 40, 41, 42, 43, 44, 45, 46, 47, 48, 49, 50, 51, 52, 53, 54, 55, 56, 57, 58, 59, 60, 61, 62, 63, 64, 65, 66, 67, 68, 69, 70, 71, 72, 73, 74, 75, 76, 77, 78, 79, 80, 81, 82, 83, 84, 85, 86, 87, 88, 89, 90, 91, 92, 93] rfl (by decide +kernel)) (goodIn_sub (fun _ h => List.mem_cons_of_mem _ (List.mem_append_right _ h)) (by decide +kernel))
set_option maxRecDepth 20000 in
theorem gL_relate_X6_relate : GoodIn wsL_relate (wsV RL 64 RX6 yX6_relate wsX6_relate) := goodIn_app (goodIn_r _ [2, 3, 4, 5] rfl (by decide +kernel)) ggL_relate_X6_relate
set_option maxRecDepth 20000 in
theorem ggL_proof_X6_proof : GoodIn wsL_proof wsX6_proof := goodIn_ca (goodIn_r _ [6, 7, 8, 9, 10, 11, 12, 13, 14, 15, 16, 17, 18, 19] rfl (by decide +kernel)) (goodIn_sub (fun _ h => List.mem_cons_of_mem _ (List.mem_append_right _ h)) (by decide +kernel))
set_option maxRecDepth 20000 in
theorem gL_proof_X6_proof : GoodIn wsL_proof (wsV RL 67 RX6 yX6_proof wsX6_proof) := goodIn_app (goodIn_r _ [2, 3, 4, 5] rfl (by decide +kernel)) ggL_proof_X6_proof
set_option maxRecDepth 20000 in
theorem ggL_law_X6_init : GoodIn wsL_law wsX6_init := goodIn_r _ [10, 11, 12, 13, 14, 15, 16, 17, 18, 19, 20, 21, 22, 23, 24, 25, 26, 27, 28, 29, 30, 31, 32, 33, 34, 35, 36, 37, 6, 38, 39, 40, 41, 42, 43, 44, 45, 46, 47, 48, 49, 50, 51, 52, 53, 54, 55, 56, 57, 58, 59, 60, 61, 62, 63, 64, 779, 780, 781, 782, 734, 735, 736, 737, 738, 739, 783, 784, 785, 786, 787, 788, 789, 790, 791, 792, 793, 794, 795, 796, 797, 798, 799, 800, 801, 802, 803, 804, 805, 806] rfl (by decide +kernel)
set_option maxRecDepth 20000 in
theorem gL_law_X6_init : GoodIn wsL_law (wsX6_init) := ggL_law_X6_init
set_option maxRecDepth 20000 in
theorem ggL_law_X7_init : GoodIn wsL_law wsX7_init := goodIn_r _ [67, 68, 12, 13, 30, 69, 70, 71, 72, 43, 73, 74, 75, 76, 77, 78, 79, 80, 81, 82, 83, 84, 85, 86, 87, 88, 89, 90, 91, 92, 93, 6, 94, 95, 96, 97, 740, 741, 742, 743, 744, 745, 746, 747, 748, 749, 750, 751, 752, 753, 754, 755, 756, 757, 758, 759, 760, 761, 762, 763, 764, 765, 766, 767, 768, 769, 770, 771, 772, 773, 774, 775, 776, 777, 778] rfl (by decide +kernel)
set_option maxRecDepth 20000 in
theorem gL_law_X7_init : GoodIn wsL_law (wsX7_init) := ggL_law_X7_init
set_option maxRecDepth 20000 in
theorem ggL_law_L_begin : GoodIn wsL_law wsL_begin := goodIn_ca (goodIn_r _ [101, 102, 103, 104, 105, 2, 106, 107, 108, 31, 21, 17, 32, 109, 110, 111, 112, 113, 114, 115, 116, 117, 118, 119, 120, 121, 20, 122, 42, 123, 44, 45, 54, 124, 125, 126, 127, 128, 129, 16, 130, 131, 132, 133, 134, 135, 36, 136, 137, 138, 139, 37, 734, 735, 736, 737, 738, 739, 783, 784, 785, 786, 787, 788, 789, 790, 791, 792, 793, 794, 795, 796, 797, 779, 780, 781, 782] rfl (by decide +kernel)) (goodIn_sub (fun _ h => List.mem_append_left _ (List.mem_append_left _ (List.mem_append_left _ (List.mem_append_right _ h)))) (by decide +kernel))
set_option maxRecDepth 20000 in
theorem gL_law_L_begin : GoodIn wsL_law (va_wsS RL 74 yL_begin wsL_begin) := goodIn_app (goodIn_r _ [98, 99, 100] rfl (by decide +kernel)) ggL_law_L_begin
set_option maxRecDepth 20000 in
theorem ggL_law_X7_begin : GoodIn wsL_law wsX7_begin := goodIn_r _ [143, 144, 71, 72, 79, 73, 74, 145, 146, 147, 148, 149, 5, 150, 151, 152, 153, 154, 155, 156, 157, 158, 69, 70, 740, 741, 742, 743, 744, 745, 746, 747, 748, 749, 750, 751, 752, 753, 754, 755, 756, 757, 758, 759, 760, 761, 762, 763, 764, 765, 766, 767, 768, 769, 770, 771, 772, 773, 774, 775, 776, 777, 778] rfl (by decide +kernel)
set_option maxRecDepth 20000 in
theorem gL_law_X7_begin : GoodIn wsL_law (wsV RL 79 RX7 yX7_begin wsX7_begin) := goodIn_app (goodIn_r _ [140, 141, 142, 5] rfl (by decide +kernel)) ggL_law_X7_begin
set_option maxRecDepth 20000 in
theorem ggL_law_X7_thrown : GoodIn wsL_law wsX7_thrown := goodIn_r _ [162, 144, 740, 741, 742, 743, 744, 745, 746, 747, 748, 749, 750, 751, 752, 753, 754, 755, 756, 757, 758, 759, 760, 761, 762, 763, 764, 765, 766, 767, 768, 769, 770, 771, 772, 773, 774, 775, 776, 777, 778] rfl (by decide +kernel)
set_option maxRecDepth 20000 in
theorem gL_law_X7_thrown : GoodIn wsL_law (wsV RL 80 RX7 yX7_thrown wsX7_thrown) := goodIn_app (goodIn_r _ [159, 160, 161, 5] rfl (by decide +kernel)) ggL_law_X7_thrown
set_option maxRecDepth 20000 in
theorem ggL_law_L_register : GoodIn wsL_law wsL_register := goodIn_ca (goodIn_ca (goodIn_ca (goodIn_r _ [165, 102, 166, 167, 168, 169, 170, 2, 171, 107, 108, 172, 173, 174, 175, 32, 21, 17, 176, 177, 178, 179, 180, 181, 16, 182, 131, 132, 133, 134, 135, 36, 136, 137, 138, 139, 37, 734, 735, 736, 737, 738, 739, 783, 784, 785, 786, 787, 788, 789, 790, 791, 792, 793, 794, 795, 796, 797, 779, 780, 781, 782] rfl (by decide +kernel)) (goodIn_sub (fun _ h => List.mem_append_left _ (List.mem_append_left _ (List.mem_append_left _ (List.mem_append_right _ h)))) (by decide +kernel))) (goodIn_sub (fun _ h => List.mem_append_left _ (List.mem_append_left _ (List.mem_append_right _ h))) (by decide +kernel))) (goodIn_sub (fun _ h => List.mem_append_left _ (List.mem_append_right _ h)) (by decide +kernel))
set_option maxRecDepth 20000 in
theorem gL_law_L_register : GoodIn wsL_law (va_wsS RL 83 yL_register wsL_register) := goodIn_app (goodIn_r _ [163, 164, 100] rfl (by decide +kernel)) ggL_law_L_register
set_option maxRecDepth 20000 in
theorem ggL_law_X7_register : GoodIn wsL_law wsX7_register := goodIn_r _ [186, 147, 73, 144, 187, 188, 5, 189, 190, 191, 192, 193, 146, 155, 156, 157, 158, 69, 70, 740, 741, 742, 743, 744, 745, 746, 747, 748, 749, 750, 751, 752, 753, 754, 755, 756, 757, 758, 759, 760, 761, 762, 763, 764, 765, 766, 767, 768, 769, 770, 771, 772, 773, 774, 775, 776, 777, 778] rfl (by decide +kernel)
set_option maxRecDepth 20000 in
theorem gL_law_X7_register : GoodIn wsL_law (wsV RL 86 RX7 yX7_register wsX7_register) := goodIn_app (goodIn_r _ [183, 184, 185, 5] rfl (by decide +kernel)) ggL_law_X7_register
set_option maxRecDepth 20000 in
theorem ggL_law_L_cast : GoodIn wsL_law wsL_cast := goodIn_ca (goodIn_ca (goodIn_ca (goodIn_r _ [196, 102, 166, 167, 197, 198, 199, 2, 200, 107, 108, 172, 173, 174, 175, 32, 21, 17, 176, 177, 178, 201, 202, 203, 109, 110, 111, 112, 179, 180, 181, 16, 182, 131, 113, 114, 115, 116, 117, 118, 204, 205, 125, 126, 206, 207, 208, 20, 209, 45, 46, 47, 132, 133, 134, 135, 36, 136, 137, 138, 139, 37, 734, 735, 736, 737, 738, 739, 783, 784, 785, 786, 787, 788, 789, 790, 791, 792, 793, 794, 795, 796, 797, 779, 780, 781, 782] rfl (by decide +kernel)) (goodIn_sub (fun _ h => List.mem_append_left _ (List.mem_append_left _ (List.mem_append_left _ (List.mem_append_right _ h)))) (by decide +kernel))) (goodIn_sub (fun _ h => List.mem_append_left _ (List.mem_append_left _ (List.mem_append_right _ h))) (by decide +kernel))) (goodIn_sub (fun _ h => List.mem_append_left _ (List.mem_append_right _ h)) (by decide +kernel))
set_option maxRecDepth 20000 in
theorem gL_law_L_cast : GoodIn wsL_law (va_wsS RL 87 yL_cast wsL_cast) := goodIn_app (goodIn_r _ [194, 195, 100] rfl (by decide +kernel)) ggL_law_L_cast
set_option maxRecDepth 20000 in
theorem ggL_law_X7_cast : GoodIn wsL_law wsX7_cast := goodIn_r _ [213, 147, 73, 144, 74, 75, 76, 187, 188, 5, 189, 148, 149, 150, 190, 191, 192, 193, 146, 151, 152, 153, 154, 214, 215, 216, 217, 72, 218, 219, 220, 155, 156, 157, 158, 69, 70, 740, 741, 742, 743, 744, 745, 746, 747, 748, 749, 750, 751, 752, 753, 754, 755, 756, 757, 758, 759, 760, 761, 762, 763, 764, 765, 766, 767, 768, 769, 770, 771, 772, 773, 774, 775, 776, 777, 778] rfl (by decide +kernel)
set_option maxRecDepth 20000 in
theorem gL_law_X7_cast : GoodIn wsL_law (wsV RL 90 RX7 yX7_cast wsX7_cast) := goodIn_app (goodIn_r _ [210, 211, 212, 5] rfl (by decide +kernel)) ggL_law_X7_cast
set_option maxRecDepth 20000 in
theorem ggL_law_L_close : GoodIn wsL_law wsL_close := goodIn_ca (goodIn_ca (goodIn_r _ [223, 166, 167, 224, 225, 226, 2, 227, 172, 173, 174, 175, 32, 17, 21, 228, 229, 230, 20, 231, 45, 179, 180, 181, 16, 182, 131, 232, 233, 234, 235, 236, 48, 46, 49, 47, 53, 132, 133, 134, 135, 36, 136, 137, 138, 139, 37, 237, 238, 239, 240, 734, 735, 736, 737, 738, 739, 783, 784, 785, 786, 787, 788, 789, 790, 791, 792, 793, 794, 795, 796, 797, 779, 780, 781, 782] rfl (by decide +kernel)) (goodIn_sub (fun _ h => List.mem_append_left _ (List.mem_append_left _ (List.mem_append_right _ h))) (by decide +kernel))) (goodIn_sub (fun _ h => List.mem_append_left _ (List.mem_append_right _ h)) (by decide +kernel))
set_option maxRecDepth 20000 in
theorem gL_law_L_close : GoodIn wsL_law (va_wsS RL 91 yL_close wsL_close) := goodIn_app (goodIn_r _ [221, 222, 100] rfl (by decide +kernel)) ggL_law_L_close
set_option maxRecDepth 20000 in
theorem ggL_law_X7_close : GoodIn wsL_law wsX7_close := goodIn_r _ [244, 74, 147, 144, 145, 77, 75, 78, 76, 190, 191, 192, 5, 193, 146, 155, 156, 157, 158, 69, 70, 740, 741, 742, 743, 744, 745, 746, 747, 748, 749, 750, 751, 752, 753, 754, 755, 756, 757, 758, 759, 760, 761, 762, 763, 764, 765, 766, 767, 768, 769, 770, 771, 772, 773, 774, 775, 776, 777, 778] rfl (by decide +kernel)
set_option maxRecDepth 20000 in
theorem gL_law_X7_close : GoodIn wsL_law (wsV RL 94 RX7 yX7_close wsX7_close) := goodIn_app (goodIn_r _ [241, 242, 243, 5] rfl (by decide +kernel)) ggL_law_X7_close
set_option maxRecDepth 20000 in
theorem ggL_law_L_mix : GoodIn wsL_law wsL_mix := goodIn_ca (goodIn_ca (goodIn_ca (goodIn_r _ [247, 166, 102, 167, 248, 249, 250, 2, 251, 172, 173, 107, 108, 174, 175, 32, 21, 17, 252, 253, 254, 20, 255, 236, 179, 180, 181, 16, 182, 131, 256, 257, 258, 259, 50, 48, 51, 49, 52, 123, 260, 261, 262, 263, 264, 265, 266, 267, 268, 269, 270, 271, 272, 273, 114, 111, 115, 116, 117, 118, 124, 125, 126, 274, 132, 133, 134, 135, 36, 136, 137, 138, 139, 37, 237, 238, 239, 240, 734, 735, 736, 737, 738, 739, 783, 784, 785, 786, 787, 788, 789, 790, 791, 792, 793, 794, 795, 796, 797, 779, 780, 781, 782] rfl (by decide +kernel)) (goodIn_sub (fun _ h => List.mem_append_left _ (List.mem_append_left _ (List.mem_append_right _ h))) (by decide +kernel))) (goodIn_sub (fun _ h => List.mem_append_left _ (List.mem_append_left _ (List.mem_append_left _ (List.mem_append_right _ h)))) (by decide +kernel))) (goodIn_sub (fun _ h => List.mem_append_left _ (List.mem_append_right _ h)) (by decide +kernel))
set_option maxRecDepth 20000 in
theorem gL_law_L_mix : GoodIn wsL_law (va_wsS RL 95 yL_mix wsL_mix) := goodIn_app (goodIn_r _ [245, 246, 100] rfl (by decide +kernel)) ggL_law_L_mix
set_option maxRecDepth 20000 in
theorem ggL_law_X7_mix : GoodIn wsL_law wsX7_mix := goodIn_r _ [278, 147, 145, 144, 82, 77, 83, 78, 279, 280, 5, 281, 190, 191, 192, 193, 146, 155, 156, 157, 158, 69, 70, 282, 283, 284, 285, 84, 286, 287, 288, 289, 290, 291, 292, 293, 294, 295, 296, 297, 298, 299, 300, 301, 302, 303, 304, 305, 306, 307, 308, 151, 152, 153, 154, 218, 219, 220, 214, 215, 216, 217, 72, 740, 741, 742, 743, 744, 745, 746, 747, 748, 749, 750, 751, 752, 753, 754, 755, 756, 757, 758, 759, 760, 761, 762, 763, 764, 765, 766, 767, 768, 769, 770, 771, 772, 773, 774, 775, 776, 777, 778] rfl (by decide +kernel)
set_option maxRecDepth 20000 in
theorem gL_law_X7_mix : GoodIn wsL_law (wsV RL 98 RX7 yX7_mix wsX7_mix) := goodIn_app (goodIn_r _ [275, 276, 277, 5] rfl (by decide +kernel)) ggL_law_X7_mix
set_option maxRecDepth 20000 in
theorem ggL_law_L_open : GoodIn wsL_law wsL_open := goodIn_ca (goodIn_ca (goodIn_ca (goodIn_r _ [311, 102, 166, 167, 312, 313, 314, 2, 315, 107, 108, 172, 173, 174, 175, 32, 21, 17, 316, 317, 318, 179, 180, 181, 16, 182, 131, 319, 320, 321, 322, 31, 204, 117, 111, 118, 323, 265, 266, 267, 268, 324, 270, 271, 272, 113, 114, 115, 116, 325, 326, 327, 328, 329, 132, 133, 134, 135, 36, 136, 137, 138, 139, 37, 330, 331, 332, 333, 20, 334, 53, 124, 125, 126, 734, 735, 736, 737, 738, 739, 783, 784, 785, 786, 787, 788, 789, 790, 791, 792, 793, 794, 795, 796, 797, 779, 780, 781, 782] rfl (by decide +kernel)) (goodIn_sub (fun _ h => List.mem_append_left _ (List.mem_append_left _ (List.mem_append_left _ (List.mem_append_right _ h)))) (by decide +kernel))) (goodIn_sub (fun _ h => List.mem_append_left _ (List.mem_append_left _ (List.mem_append_right _ h))) (by decide +kernel))) (goodIn_sub (fun _ h => List.mem_append_left _ (List.mem_append_right _ h)) (by decide +kernel))
set_option maxRecDepth 20000 in
theorem gL_law_L_open : GoodIn wsL_law (va_wsS RL 99 yL_open wsL_open) := goodIn_app (goodIn_r _ [309, 310, 100] rfl (by decide +kernel)) ggL_law_L_open
set_option maxRecDepth 20000 in
theorem ggL_law_X7_open : GoodIn wsL_law wsX7_open := goodIn_r _ [338, 147, 79, 145, 144, 71, 77, 72, 80, 70, 304, 190, 191, 192, 5, 193, 146, 151, 152, 153, 154, 339, 340, 341, 342, 294, 295, 296, 297, 298, 299, 300, 301, 302, 303, 305, 306, 307, 308, 343, 344, 345, 346, 155, 156, 157, 158, 69, 740, 741, 742, 743, 744, 745, 746, 747, 748, 749, 750, 751, 752, 753, 754, 755, 756, 757, 758, 759, 760, 761, 762, 763, 764, 765, 766, 767, 768, 769, 770, 771, 772, 773, 774, 775, 776, 777, 778] rfl (by decide +kernel)
set_option maxRecDepth 20000 in
theorem gL_law_X7_open : GoodIn wsL_law (wsV RL 101 RX7 yX7_open wsX7_open) := goodIn_app (goodIn_r _ [335, 336, 337, 5] rfl (by decide +kernel)) ggL_law_X7_open
set_option maxRecDepth 20000 in
theorem ggL_law_L_finish : GoodIn wsL_law wsL_finish := goodIn_ca (goodIn_ca (goodIn_r _ [349, 166, 167, 350, 351, 352, 2, 353, 172, 173, 174, 175, 32, 21, 17, 354, 355, 356, 20, 357, 54, 179, 180, 181, 16, 182, 131, 358, 359, 360, 361, 55, 236, 49, 53, 362, 363, 111, 364, 116, 117, 118, 124, 125, 126, 273, 114, 115, 132, 133, 134, 135, 36, 136, 137, 138, 139, 37, 330, 734, 735, 736, 737, 738, 739, 783, 784, 785, 786, 787, 788, 789, 790, 791, 792, 793, 794, 795, 796, 797, 779, 780, 781, 782] rfl (by decide +kernel)) (goodIn_sub (fun _ h => List.mem_append_left _ (List.mem_append_left _ (List.mem_append_right _ h))) (by decide +kernel))) (goodIn_sub (fun _ h => List.mem_append_left _ (List.mem_append_right _ h)) (by decide +kernel))
set_option maxRecDepth 20000 in
theorem gL_law_L_finish : GoodIn wsL_law (va_wsS RL 102 yL_finish wsL_finish) := goodIn_app (goodIn_r _ [347, 348, 100] rfl (by decide +kernel)) ggL_law_L_finish
set_option maxRecDepth 20000 in
theorem ggL_law_X7_finish : GoodIn wsL_law wsX7_finish := goodIn_r _ [368, 147, 79, 144, 81, 145, 78, 80, 70, 190, 191, 192, 5, 193, 146, 369, 370, 371, 218, 219, 220, 154, 151, 152, 153, 372, 373, 374, 155, 156, 157, 158, 69, 740, 741, 742, 743, 744, 745, 746, 747, 748, 749, 750, 751, 752, 753, 754, 755, 756, 757, 758, 759, 760, 761, 762, 763, 764, 765, 766, 767, 768, 769, 770, 771, 772, 773, 774, 775, 776, 777, 778] rfl (by decide +kernel)
set_option maxRecDepth 20000 in
theorem gL_law_X7_finish : GoodIn wsL_law (wsV RL 104 RX7 yX7_finish wsX7_finish) := goodIn_app (goodIn_r _ [365, 366, 367, 5] rfl (by decide +kernel)) ggL_law_X7_finish
set_option maxRecDepth 20000 in
theorem ggL_law_X6_phase : GoodIn wsL_law wsX6_phase := goodIn_r _ [378, 32, 734, 735, 736, 737, 738, 739] rfl (by decide +kernel)
set_option maxRecDepth 20000 in
theorem gL_law_X6_phase : GoodIn wsL_law (wsV RL 105 RX6 yX6_phase wsX6_phase) := goodIn_app (goodIn_r _ [375, 376, 377, 2] rfl (by decide +kernel)) ggL_law_X6_phase
set_option maxRecDepth 20000 in
theorem ggL_law_X7_phase : GoodIn wsL_law wsX7_phase := goodIn_r _ [382, 144, 147, 740, 741, 742, 743, 744, 745, 746, 747, 748, 749, 750, 751, 752, 753, 754, 755, 756, 757, 758, 759, 760, 761, 762, 763, 764, 765, 766, 767, 768, 769, 770, 771, 772, 773, 774, 775, 776, 777, 778] rfl (by decide +kernel)
set_option maxRecDepth 20000 in
theorem gL_law_X7_phase : GoodIn wsL_law (wsV RL 108 RX7 yX7_phase wsX7_phase) := goodIn_app (goodIn_r _ [379, 380, 381, 5] rfl (by decide +kernel)) ggL_law_X7_phase
set_option maxRecDepth 20000 in
theorem ggL_law_L_votes : GoodIn wsL_law wsL_votes := goodIn_ca (goodIn_r _ [385, 102, 386, 387, 388, 2, 389, 107, 108, 32, 21, 201, 202, 203, 734, 735, 736, 737, 738, 739, 783, 784, 785, 786, 787, 788, 789, 790, 791, 792, 793, 794, 795, 796, 797] rfl (by decide +kernel)) (goodIn_sub (fun _ h => List.mem_append_left _ (List.mem_append_left _ (List.mem_append_left _ (List.mem_append_right _ h)))) (by decide +kernel))
set_option maxRecDepth 20000 in
theorem gL_law_L_votes : GoodIn wsL_law (va_wsS RL 109 yL_votes wsL_votes) := goodIn_app (goodIn_r _ [383, 384, 100] rfl (by decide +kernel)) ggL_law_L_votes
set_option maxRecDepth 20000 in
theorem ggL_law_X7_votes : GoodIn wsL_law wsX7_votes := goodIn_r _ [393, 144, 147, 81, 740, 741, 742, 743, 744, 745, 746, 747, 748, 749, 750, 751, 752, 753, 754, 755, 756, 757, 758, 759, 760, 761, 762, 763, 764, 765, 766, 767, 768, 769, 770, 771, 772, 773, 774, 775, 776, 777, 778] rfl (by decide +kernel)
set_option maxRecDepth 20000 in
theorem gL_law_X7_votes : GoodIn wsL_law (wsV RL 112 RX7 yX7_votes wsX7_votes) := goodIn_app (goodIn_r _ [390, 391, 392, 5] rfl (by decide +kernel)) ggL_law_X7_votes
set_option maxRecDepth 20000 in
theorem ggL_law_X6_records : GoodIn wsL_law wsX6_records := goodIn_r _ [397, 17, 734, 735, 736, 737, 738, 739, 779, 780, 781, 782] rfl (by decide +kernel)
set_option maxRecDepth 20000 in
theorem gL_law_X6_records : GoodIn wsL_law (wsV RL 113 RX6 yX6_records wsX6_records) := goodIn_app (goodIn_r _ [394, 395, 396, 2] rfl (by decide +kernel)) ggL_law_X6_records
set_option maxRecDepth 20000 in
theorem ggL_law_X7_records : GoodIn wsL_law wsX7_records := goodIn_r _ [401, 144, 146, 740, 741, 742, 743, 744, 745, 746, 747, 748, 749, 750, 751, 752, 753, 754, 755, 756, 757, 758, 759, 760, 761, 762, 763, 764, 765, 766, 767, 768, 769, 770, 771, 772, 773, 774, 775, 776, 777, 778] rfl (by decide +kernel)
set_option maxRecDepth 20000 in
theorem gL_law_X7_records : GoodIn wsL_law (wsV RL 116 RX7 yX7_records wsX7_records) := goodIn_app (goodIn_r _ [398, 399, 400, 5] rfl (by decide +kernel)) ggL_law_X7_records
set_option maxRecDepth 20000 in
theorem ggL_law_L_field : GoodIn wsL_law wsL_field := goodIn_ca (goodIn_r _ [404, 405, 406, 407, 408, 2, 409, 410, 411, 17, 412, 413, 414, 16, 415, 131, 416, 417, 418, 419, 36, 420, 421, 422, 423, 37, 734, 735, 736, 737, 738, 739, 779, 780, 781, 782] rfl (by decide +kernel)) (goodIn_sub (fun _ h => List.mem_append_right _ h) (by decide +kernel))
set_option maxRecDepth 20000 in
theorem gL_law_L_field : GoodIn wsL_law (va_wsS RL 117 yL_field wsL_field) := goodIn_app (goodIn_r _ [402, 403, 100] rfl (by decide +kernel)) ggL_law_L_field
set_option maxRecDepth 20000 in
theorem ggL_law_X7_field : GoodIn wsL_law wsX7_field := goodIn_r _ [427, 144, 69, 70, 428, 429, 430, 5, 431, 146, 740, 741, 742, 743, 744, 745, 746, 747, 748, 749, 750, 751, 752, 753, 754, 755, 756, 757, 758, 759, 760, 761, 762, 763, 764, 765, 766, 767, 768, 769, 770, 771, 772, 773, 774, 775, 776, 777, 778] rfl (by decide +kernel)
set_option maxRecDepth 20000 in
theorem gL_law_X7_field : GoodIn wsL_law (wsV RL 120 RX7 yX7_field wsX7_field) := goodIn_app (goodIn_r _ [424, 425, 426, 5] rfl (by decide +kernel)) ggL_law_X7_field
set_option maxRecDepth 20000 in
theorem ggL_law_L_forge : GoodIn wsL_law wsL_forge := goodIn_ca (goodIn_r _ [434, 405, 435, 436, 437, 2, 438, 410, 411, 17, 412, 413, 414, 16, 415, 131, 420, 421, 422, 423, 37, 330, 137, 138, 139, 734, 735, 736, 737, 738, 739, 779, 780, 781, 782] rfl (by decide +kernel)) (goodIn_sub (fun _ h => List.mem_append_right _ h) (by decide +kernel))
set_option maxRecDepth 20000 in
theorem gL_law_L_forge : GoodIn wsL_law (va_wsS RL 121 yL_forge wsL_forge) := goodIn_app (goodIn_r _ [432, 433, 100] rfl (by decide +kernel)) ggL_law_L_forge
set_option maxRecDepth 20000 in
theorem ggL_law_X7_forge : GoodIn wsL_law wsX7_forge := goodIn_r _ [442, 144, 70, 428, 429, 430, 5, 431, 146, 740, 741, 742, 743, 744, 745, 746, 747, 748, 749, 750, 751, 752, 753, 754, 755, 756, 757, 758, 759, 760, 761, 762, 763, 764, 765, 766, 767, 768, 769, 770, 771, 772, 773, 774, 775, 776, 777, 778] rfl (by decide +kernel)
set_option maxRecDepth 20000 in
theorem gL_law_X7_forge : GoodIn wsL_law (wsV RL 123 RX7 yX7_forge wsX7_forge) := goodIn_app (goodIn_r _ [439, 440, 441, 5] rfl (by decide +kernel)) ggL_law_X7_forge
set_option maxRecDepth 20000 in
theorem ggL_law_X6_audit : GoodIn wsL_law wsX6_audit := goodIn_r _ [446, 25, 17, 447, 448, 449, 24, 450, 451, 452, 453, 454, 455, 456, 457, 458, 417, 418, 16, 419, 36, 459, 460, 461, 462, 60, 463, 464, 465, 466, 421, 422, 423, 37, 467, 468, 469, 470, 471, 472, 111, 473, 116, 117, 118, 474, 120, 121, 20, 122, 42, 123, 44, 45, 54, 124, 125, 126, 475, 476, 477, 478, 177, 2, 178, 479, 480, 481, 482, 483, 207, 208, 209, 46, 47, 484, 485, 486, 487, 488, 229, 230, 231, 489, 233, 234, 235, 236, 48, 49, 53, 490, 491, 492, 493, 494, 253, 254, 255, 495, 257, 258, 259, 50, 51, 52, 260, 261, 262, 263, 264, 265, 266, 267, 268, 269, 270, 271, 272, 273, 114, 115, 274, 496, 497, 498, 499, 500, 317, 318, 501, 502, 503, 504, 505, 110, 112, 506, 326, 327, 328, 329, 507, 508, 509, 510, 332, 333, 334, 511, 512, 513, 514, 515, 355, 356, 357, 516, 359, 360, 361, 55, 362, 363, 364, 734, 735, 736, 737, 738, 739, 798, 799, 800, 801, 802, 779, 780, 781, 782, 783, 784, 785, 786, 787, 788, 789, 790, 791, 792, 793, 794, 795, 796, 797] rfl (by decide +kernel)
set_option maxRecDepth 20000 in
theorem gL_law_X6_audit : GoodIn wsL_law (wsV RL 124 RX6 yX6_audit wsX6_audit) := goodIn_app (goodIn_r _ [443, 444, 445, 2] rfl (by decide +kernel)) ggL_law_X6_audit
set_option maxRecDepth 20000 in
theorem ggL_law_X7_audit : GoodIn wsL_law wsX7_audit := goodIn_r _ [520, 144, 521, 522, 85, 86, 90, 146, 523, 524, 525, 5, 526, 69, 527, 528, 529, 530, 70, 89, 531, 532, 533, 534, 535, 536, 537, 151, 152, 153, 154, 538, 539, 540, 541, 187, 188, 189, 542, 543, 544, 545, 87, 88, 546, 547, 548, 549, 91, 92, 550, 551, 552, 553, 554, 555, 556, 557, 558, 82, 83, 279, 280, 281, 218, 219, 220, 282, 283, 284, 285, 84, 286, 287, 288, 289, 290, 291, 292, 293, 294, 295, 296, 297, 298, 299, 300, 301, 302, 303, 304, 305, 306, 307, 308, 559, 560, 561, 562, 563, 564, 565, 566, 567, 93, 148, 149, 150, 343, 344, 345, 346, 568, 569, 570, 571, 369, 370, 371, 372, 373, 374, 740, 741, 742, 743, 744, 745, 746, 747, 748, 749, 750, 751, 752, 753, 754, 755, 756, 757, 758, 759, 760, 761, 762, 763, 764, 765, 766, 767, 768, 769, 770, 771, 772, 773, 774, 775, 776, 777, 778] rfl (by decide +kernel)
set_option maxRecDepth 20000 in
theorem gL_law_X7_audit : GoodIn wsL_law (wsV RL 127 RX7 yX7_audit wsX7_audit) := goodIn_app (goodIn_r _ [517, 518, 519, 5] rfl (by decide +kernel)) ggL_law_X7_audit
set_option maxRecDepth 20000 in
theorem ggL_law_L_leaf : GoodIn wsL_law wsL_leaf := goodIn_ca (goodIn_r _ [574, 405, 575, 576, 577, 2, 578, 410, 411, 17, 412, 413, 414, 16, 415, 131, 579, 580, 581, 582, 583, 265, 266, 267, 268, 584, 417, 418, 419, 36, 585, 421, 422, 423, 37, 586, 587, 588, 734, 735, 736, 737, 738, 739, 779, 780, 781, 782] rfl (by decide +kernel)) (goodIn_sub (fun _ h => List.mem_append_right _ h) (by decide +kernel))
set_option maxRecDepth 20000 in
theorem gL_law_L_leaf : GoodIn wsL_law (va_wsS RL 128 yL_leaf wsL_leaf) := goodIn_app (goodIn_r _ [572, 573, 100] rfl (by decide +kernel)) ggL_law_L_leaf
set_option maxRecDepth 20000 in
theorem ggL_law_X7_leaf : GoodIn wsL_law wsX7_leaf := goodIn_r _ [592, 144, 428, 429, 430, 5, 431, 146, 593, 594, 595, 596, 294, 69, 70, 295, 296, 297, 298, 299, 305, 306, 307, 308, 740, 741, 742, 743, 744, 745, 746, 747, 748, 749, 750, 751, 752, 753, 754, 755, 756, 757, 758, 759, 760, 761, 762, 763, 764, 765, 766, 767, 768, 769, 770, 771, 772, 773, 774, 775, 776, 777, 778] rfl (by decide +kernel)
set_option maxRecDepth 20000 in
theorem gL_law_X7_leaf : GoodIn wsL_law (wsV RL 130 RX7 yX7_leaf wsX7_leaf) := goodIn_app (goodIn_r _ [589, 590, 591, 5] rfl (by decide +kernel)) ggL_law_X7_leaf
set_option maxRecDepth 20000 in
theorem ggL_law_L_head : GoodIn wsL_law wsL_head := goodIn_ca (goodIn_r _ [599, 405, 600, 601, 602, 2, 603, 410, 411, 17, 604, 605, 606, 16, 607, 38, 608, 580, 581, 582, 583, 265, 266, 267, 268, 584, 417, 418, 419, 36, 585, 421, 422, 423, 37, 586, 587, 588, 609, 610, 611, 612, 613, 614, 615, 328, 616, 734, 735, 736, 737, 738, 739, 779, 780, 781, 782] rfl (by decide +kernel)) (goodIn_sub (fun _ h => List.mem_append_right _ h) (by decide +kernel))
set_option maxRecDepth 20000 in
theorem gL_law_L_head : GoodIn wsL_law (va_wsS RL 131 yL_head wsL_head) := goodIn_app (goodIn_r _ [597, 598, 100] rfl (by decide +kernel)) ggL_law_L_head
set_option maxRecDepth 20000 in
theorem ggL_law_X7_head : GoodIn wsL_law wsX7_head := goodIn_r _ [620, 146, 144, 621, 622, 623, 5, 624, 94, 593, 594, 595, 596, 294, 69, 70, 295, 296, 297, 298, 299, 305, 306, 307, 308, 625, 626, 627, 628, 740, 741, 742, 743, 744, 745, 746, 747, 748, 749, 750, 751, 752, 753, 754, 755, 756, 757, 758, 759, 760, 761, 762, 763, 764, 765, 766, 767, 768, 769, 770, 771, 772, 773, 774, 775, 776, 777, 778] rfl (by decide +kernel)
set_option maxRecDepth 20000 in
theorem gL_law_X7_head : GoodIn wsL_law (wsV RL 133 RX7 yX7_head wsX7_head) := goodIn_app (goodIn_r _ [617, 618, 619, 5] rfl (by decide +kernel)) ggL_law_X7_head
set_option maxRecDepth 20000 in
theorem ggL_law_L_prove : GoodIn wsL_law wsL_prove := goodIn_ca (goodIn_r _ [631, 405, 632, 633, 634, 2, 635, 410, 411, 17, 29, 636, 637, 638, 28, 639, 640, 641, 642, 643, 644, 645, 646, 647, 648, 649, 650, 651, 652, 653, 654, 655, 656, 657, 64, 658, 659, 660, 661, 662, 605, 606, 16, 607, 38, 608, 580, 581, 582, 583, 265, 266, 267, 268, 584, 417, 418, 419, 36, 585, 421, 422, 423, 37, 586, 587, 588, 609, 610, 611, 612, 613, 614, 615, 328, 616, 734, 735, 736, 737, 738, 739, 779, 780, 781, 782, 803, 804, 805, 806] rfl (by decide +kernel)) (goodIn_sub (fun _ h => List.mem_append_right _ h) (by decide +kernel))
set_option maxRecDepth 20000 in
theorem gL_law_L_prove : GoodIn wsL_law (va_wsS RL 134 yL_prove wsL_prove) := goodIn_app (goodIn_r _ [629, 630, 100] rfl (by decide +kernel)) ggL_law_L_prove
set_option maxRecDepth 20000 in
theorem ggL_law_X7_prove : GoodIn wsL_law wsX7_prove := goodIn_r _ [666, 146, 144, 96, 667, 668, 669, 5, 670, 621, 622, 623, 624, 94, 593, 594, 595, 596, 294, 69, 70, 295, 296, 297, 298, 299, 305, 306, 307, 308, 625, 626, 627, 628, 671, 672, 673, 674, 95, 740, 741, 742, 743, 744, 745, 746, 747, 748, 749, 750, 751, 752, 753, 754, 755, 756, 757, 758, 759, 760, 761, 762, 763, 764, 765, 766, 767, 768, 769, 770, 771, 772, 773, 774, 775, 776, 777, 778] rfl (by decide +kernel)
set_option maxRecDepth 20000 in
theorem gL_law_X7_prove : GoodIn wsL_law (wsV RL 136 RX7 yX7_prove wsX7_prove) := goodIn_app (goodIn_r _ [663, 664, 665, 5] rfl (by decide +kernel)) ggL_law_X7_prove
set_option maxRecDepth 20000 in
theorem ggL_law_L_relate : GoodIn wsL_law wsL_relate := goodIn_ca (goodIn_r _ [677, 405, 678, 679, 680, 2, 681, 410, 411, 17, 29, 682, 683, 684, 28, 685, 640, 686, 687, 688, 689, 645, 646, 647, 648, 649, 650, 651, 652, 653, 690, 691, 692, 693, 654, 655, 656, 657, 64, 658, 659, 660, 661, 662, 605, 606, 16, 607, 38, 608, 580, 581, 582, 583, 265, 266, 267, 268, 584, 417, 418, 419, 36, 585, 421, 422, 423, 37, 586, 587, 588, 609, 610, 611, 612, 613, 614, 615, 328, 616, 734, 735, 736, 737, 738, 739, 779, 780, 781, 782, 803, 804, 805, 806] rfl (by decide +kernel)) (goodIn_sub (fun _ h => List.mem_append_right _ h) (by decide +kernel))
set_option maxRecDepth 20000 in
theorem gL_law_L_relate : GoodIn wsL_law (va_wsS RL 137 yL_relate wsL_relate) := goodIn_app (goodIn_r _ [675, 676, 100] rfl (by decide +kernel)) ggL_law_L_relate
set_option maxRecDepth 20000 in
theorem ggL_law_X7_relate : GoodIn wsL_law wsX7_relate := goodIn_r _ [697, 146, 144, 96, 95, 667, 668, 669, 5, 670, 621, 622, 623, 624, 94, 593, 594, 595, 596, 294, 69, 70, 295, 296, 297, 298, 299, 305, 306, 307, 308, 625, 626, 627, 628, 671, 672, 673, 674, 740, 741, 742, 743, 744, 745, 746, 747, 748, 749, 750, 751, 752, 753, 754, 755, 756, 757, 758, 759, 760, 761, 762, 763, 764, 765, 766, 767, 768, 769, 770, 771, 772, 773, 774, 775, 776, 777, 778] rfl (by decide +kernel)
set_option maxRecDepth 20000 in
theorem gL_law_X7_relate : GoodIn wsL_law (wsV RL 139 RX7 yX7_relate wsX7_relate) := goodIn_app (goodIn_r _ [694, 695, 696, 5] rfl (by decide +kernel)) ggL_law_X7_relate
set_option maxRecDepth 20000 in
theorem ggL_law_L_proof : GoodIn wsL_law wsL_proof := goodIn_ca (goodIn_r _ [700, 405, 701, 702, 703, 2, 704, 410, 411, 29, 734, 735, 736, 737, 738, 739, 803, 804, 805, 806] rfl (by decide +kernel)) (goodIn_sub (fun _ h => List.mem_append_right _ h) (by decide +kernel))
set_option maxRecDepth 20000 in
theorem gL_law_L_proof : GoodIn wsL_law (va_wsS RL 140 yL_proof wsL_proof) := goodIn_app (goodIn_r _ [698, 699, 100] rfl (by decide +kernel)) ggL_law_L_proof
set_option maxRecDepth 20000 in
theorem ggL_law_X7_proof : GoodIn wsL_law wsX7_proof := goodIn_r _ [708, 667, 144, 95, 740, 741, 742, 743, 744, 745, 746, 747, 748, 749, 750, 751, 752, 753, 754, 755, 756, 757, 758, 759, 760, 761, 762, 763, 764, 765, 766, 767, 768, 769, 770, 771, 772, 773, 774, 775, 776, 777, 778] rfl (by decide +kernel)
set_option maxRecDepth 20000 in
theorem gL_law_X7_proof : GoodIn wsL_law (wsV RL 142 RX7 yX7_proof wsX7_proof) := goodIn_app (goodIn_r _ [705, 706, 707, 5] rfl (by decide +kernel)) ggL_law_X7_proof
set_option maxRecDepth 20000 in
theorem ggL_law_X6_shows : GoodIn wsL_law wsX6_shows := goodIn_r _ [712, 29, 713, 714, 715, 28, 716, 640, 645, 64, 641, 642, 643, 644, 646, 647, 648, 649, 650, 651, 652, 653, 658, 659, 660, 661, 717, 614, 266, 615, 328, 265, 267, 268, 616, 587, 588, 734, 735, 736, 737, 738, 739, 803, 804, 805, 806] rfl (by decide +kernel)
set_option maxRecDepth 20000 in
theorem gL_law_X6_shows : GoodIn wsL_law (wsV RL 145 RX6 yX6_shows wsX6_shows) := goodIn_app (goodIn_r _ [709, 710, 711, 2] rfl (by decide +kernel)) ggL_law_X6_shows
set_option maxRecDepth 20000 in
theorem ggL_law_X7_shows : GoodIn wsL_law wsX7_shows := goodIn_r _ [721, 144, 667, 95, 625, 626, 627, 5, 628, 294, 295, 296, 297, 298, 299, 305, 306, 307, 308, 740, 741, 742, 743, 744, 745, 746, 747, 748, 749, 750, 751, 752, 753, 754, 755, 756, 757, 758, 759, 760, 761, 762, 763, 764, 765, 766, 767, 768, 769, 770, 771, 772, 773, 774, 775, 776, 777, 778] rfl (by decide +kernel)
set_option maxRecDepth 20000 in
theorem gL_law_X7_shows : GoodIn wsL_law (wsV RL 149 RX7 yX7_shows wsX7_shows) := goodIn_app (goodIn_r _ [718, 719, 720, 5] rfl (by decide +kernel)) ggL_law_X7_shows
set_option maxRecDepth 20000 in
theorem ggL_law_X6_continues : GoodIn wsL_law wsX6_continues := goodIn_r _ [725, 29, 726, 727, 728, 28, 729, 640, 645, 64, 686, 687, 688, 689, 646, 647, 648, 649, 650, 651, 652, 653, 690, 691, 692, 693, 658, 659, 660, 661, 717, 614, 266, 615, 328, 265, 267, 268, 616, 587, 588, 734, 735, 736, 737, 738, 739, 803, 804, 805, 806] rfl (by decide +kernel)
set_option maxRecDepth 20000 in
theorem gL_law_X6_continues : GoodIn wsL_law (wsV RL 150 RX6 yX6_continues wsX6_continues) := goodIn_app (goodIn_r _ [722, 723, 724, 2] rfl (by decide +kernel)) ggL_law_X6_continues
set_option maxRecDepth 20000 in
theorem ggL_law_X7_continues : GoodIn wsL_law wsX7_continues := goodIn_r _ [733, 144, 97, 667, 95, 668, 669, 5, 670, 625, 626, 627, 628, 294, 295, 296, 297, 298, 299, 305, 306, 307, 308, 740, 741, 742, 743, 744, 745, 746, 747, 748, 749, 750, 751, 752, 753, 754, 755, 756, 757, 758, 759, 760, 761, 762, 763, 764, 765, 766, 767, 768, 769, 770, 771, 772, 773, 774, 775, 776, 777, 778] rfl (by decide +kernel)
set_option maxRecDepth 20000 in
theorem gL_law_X7_continues : GoodIn wsL_law (wsV RL 153 RX7 yX7_continues wsX7_continues) := goodIn_app (goodIn_r _ [730, 731, 732, 5] rfl (by decide +kernel)) ggL_law_X7_continues
