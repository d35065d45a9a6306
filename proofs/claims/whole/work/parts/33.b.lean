theorem dL_needs_1 : decode cL_needs 1 = .ok (.iconst 0, 1) := by decide +kernel
theorem dL_needs_2 : decode cL_needs 2 = .ok (.aload_n 0, 1) := by decide +kernel
theorem dL_needs_3 : decode cL_needs 3 = .ok (.iload_n 1, 1) := by decide +kernel
theorem dL_needs_4 : decode cL_needs 4 = .ok (.invokevirtual 53, 3) := by decide +kernel
theorem dL_needs_7 : decode cL_needs 7 = .ok (.i2l, 1) := by decide +kernel
theorem dL_needs_8 : decode cL_needs 8 = .ok (.lastore, 1) := by decide +kernel
theorem dL_needs_9 : decode cL_needs 9 = .ok (.goto 6, 3) := by decide +kernel
theorem dL_needs_12 : decode cL_needs 12 = .ok (.astore_n 3, 1) := by decide +kernel
theorem dL_needs_13 : decode cL_needs 13 = .ok (.iconst 1, 1) := by decide +kernel
theorem dL_needs_14 : decode cL_needs 14 = .ok (.ireturn, 1) := by decide +kernel
theorem dL_needs_15 : decode cL_needs 15 = .ok (.iconst 0, 1) := by decide +kernel
theorem dL_needs_16 : decode cL_needs 16 = .ok (.ireturn, 1) := by decide +kernel
set_option maxRecDepth 20000 in
theorem ggL_users_X6_users : GoodIn wsL_users wsX6_users := goodIn_ca (goodIn_r _ [6, 7, 8, 9, 10, 11, 12, 13, 14, 15, 16, 17, 18, 19, 20, 21, 22, 23, 24, 25, 26, 27, 28, 29, 30, 31, 32, 33, 34, 35, 36, 37, 38, 39, 40, 41, 42, 43, 44, 45, 46, 47, 48, 49, 50, 51, 52, 53, 54, 55, 56, 57, 58, 59, 60, 61, 62, 63] rfl (by decide +kernel)) (goodIn_sub (fun _ h => List.mem_cons_of_mem _ (List.mem_append_right _ h)) (by decide +kernel))
set_option maxRecDepth 20000 in
theorem gL_users_X6_users : GoodIn wsL_users (wsV RL 56 RX6 yX6_users wsX6_users) := goodIn_app (goodIn_of _ (by decide +kernel)) ggL_users_X6_users
theorem dL_users_0 : decode cL_users 0 = .ok (.aload_n 2, 1) := by decide +kernel
theorem dL_users_1 : decode cL_users 1 = .ok (.iconst 0, 1) := by decide +kernel
theorem dL_users_2 : decode cL_users 2 = .ok (.aload_n 0, 1) := by decide +kernel
theorem dL_users_3 : decode cL_users 3 = .ok (.iload_n 1, 1) := by decide +kernel
theorem dL_users_4 : decode cL_users 4 = .ok (.invokevirtual 56, 3) := by decide +kernel
theorem dL_users_7 : decode cL_users 7 = .ok (.i2l, 1) := by decide +kernel
theorem dL_users_8 : decode cL_users 8 = .ok (.lastore, 1) := by decide +kernel
theorem dL_users_9 : decode cL_users 9 = .ok (.goto 6, 3) := by decide +kernel
theorem dL_users_12 : decode cL_users 12 = .ok (.astore_n 3, 1) := by decide +kernel
theorem dL_users_13 : decode cL_users 13 = .ok (.iconst 1, 1) := by decide +kernel
theorem dL_users_14 : decode cL_users 14 = .ok (.ireturn, 1) := by decide +kernel
theorem dL_users_15 : decode cL_users 15 = .ok (.iconst 0, 1) := by decide +kernel
theorem dL_users_16 : decode cL_users 16 = .ok (.ireturn, 1) := by decide +kernel
set_option maxRecDepth 20000 in
theorem ggL_ring_X6_ring : GoodIn wsL_ring wsX6_ring := goodIn_ca (goodIn_r _ [6, 7, 8, 9, 5, 10, 11, 12, 13, 14, 15, 16, 17, 18, 19, 20, 21, 22, 23, 24, 25, 26, 27, 28, 29, 30, 31, 32, 33, 34, 35, 36, 37, 38, 39, 40, 41, 42, 43, 44, 45, 46, 47, 48, 49, 50, 51, 52, 53, 54, 55, 56, 57, 58, 59, 60, 61, 62] rfl (by decide +kernel)) (goodIn_sub (fun _ h => List.mem_cons_of_mem _ (List.mem_append_right _ h)) (by decide +kernel))
set_option maxRecDepth 20000 in
theorem gL_ring_X6_ring : GoodIn wsL_ring (wsV RL 59 RX6 yX6_ring wsX6_ring) := goodIn_app (goodIn_of _ (by decide +kernel)) ggL_ring_X6_ring
theorem dL_ring_0 : decode cL_ring 0 = .ok (.aload_n 2, 1) := by decide +kernel
theorem dL_ring_1 : decode cL_ring 1 = .ok (.iconst 0, 1) := by decide +kernel
theorem dL_ring_2 : decode cL_ring 2 = .ok (.aload_n 0, 1) := by decide +kernel
theorem dL_ring_3 : decode cL_ring 3 = .ok (.iload_n 1, 1) := by decide +kernel
theorem dL_ring_4 : decode cL_ring 4 = .ok (.invokevirtual 59, 3) := by decide +kernel
theorem dL_ring_7 : decode cL_ring 7 = .ok (.i2l, 1) := by decide +kernel
theorem dL_ring_8 : decode cL_ring 8 = .ok (.lastore, 1) := by decide +kernel
theorem dL_ring_9 : decode cL_ring 9 = .ok (.goto 6, 3) := by decide +kernel
theorem dL_ring_12 : decode cL_ring 12 = .ok (.astore_n 3, 1) := by decide +kernel
theorem dL_ring_13 : decode cL_ring 13 = .ok (.iconst 1, 1) := by decide +kernel
theorem dL_ring_14 : decode cL_ring 14 = .ok (.ireturn, 1) := by decide +kernel
theorem dL_ring_15 : decode cL_ring 15 = .ok (.iconst 0, 1) := by decide +kernel
theorem dL_ring_16 : decode cL_ring 16 = .ok (.ireturn, 1) := by decide +kernel
set_option maxRecDepth 20000 in
theorem ggL_way_X6_way : GoodIn wsL_way wsX6_way := goodIn_ca (goodIn_ca (goodIn_r _ [7, 8, 9, 10, 11, 12, 13, 14, 6, 15, 16, 17, 18, 19, 20, 21, 22, 23, 24, 25, 26, 27, 28, 29, 30, 31, 32, 33, 34, 35, 36, 37, 38, 39, 40, 41, 42, 43, 44, 45, 46, 47, 48, 49, 50, 51, 52, 53, 54, 55, 56, 57, 58, 59, 60, 61, 62, 63, 64, 65, 66, 67, 68, 69] rfl (by decide +kernel)) (goodIn_sub (fun _ h => List.mem_cons_of_mem _ (List.mem_append_left _ (List.mem_append_right _ h))) (by decide +kernel))) (goodIn_sub (fun _ h => List.mem_cons_of_mem _ (List.mem_append_right _ h)) (by decide +kernel))
set_option maxRecDepth 20000 in
theorem gL_way_X6_way : GoodIn wsL_way (wsV RL 62 RX6 yX6_way wsX6_way) := goodIn_app (goodIn_of _ (by decide +kernel)) ggL_way_X6_way
theorem dL_way_0 : decode cL_way 0 = .ok (.aload 4, 2) := by decide +kernel
theorem dL_way_2 : decode cL_way 2 = .ok (.iconst 0, 1) := by decide +kernel
theorem dL_way_3 : decode cL_way 3 = .ok (.aload_n 0, 1) := by decide +kernel
theorem dL_way_4 : decode cL_way 4 = .ok (.iload_n 1, 1) := by decide +kernel
theorem dL_way_5 : decode cL_way 5 = .ok (.iload_n 2, 1) := by decide +kernel
theorem dL_way_6 : decode cL_way 6 = .ok (.iload_n 3, 1) := by decide +kernel
theorem dL_way_7 : decode cL_way 7 = .ok (.invokevirtual 62, 3) := by decide +kernel
theorem dL_way_10 : decode cL_way 10 = .ok (.i2l, 1) := by decide +kernel
theorem dL_way_11 : decode cL_way 11 = .ok (.lastore, 1) := by decide +kernel
theorem dL_way_12 : decode cL_way 12 = .ok (.goto 11, 3) := by decide +kernel
theorem dL_way_15 : decode cL_way 15 = .ok (.astore 5, 2) := by decide +kernel
theorem dL_way_17 : decode cL_way 17 = .ok (.iconst 1, 1) := by decide +kernel
theorem dL_way_18 : decode cL_way 18 = .ok (.ireturn, 1) := by decide +kernel
theorem dL_way_19 : decode cL_way 19 = .ok (.astore 5, 2) := by decide +kernel
theorem dL_way_21 : decode cL_way 21 = .ok (.iconst 2, 1) := by decide +kernel
theorem dL_way_22 : decode cL_way 22 = .ok (.ireturn, 1) := by decide +kernel
theorem dL_way_23 : decode cL_way 23 = .ok (.iconst 0, 1) := by decide +kernel
theorem dL_way_24 : decode cL_way 24 = .ok (.ireturn, 1) := by decide +kernel
set_option maxRecDepth 20000 in
theorem ggL_time_X6_time : GoodIn wsL_time wsX6_time := goodIn_ca (goodIn_ca (goodIn_r _ [7, 8, 9, 10, 11, 12, 13, 6, 14, 15, 16, 17, 18, 19, 20, 21, 22, 23, 24, 25, 26, 27, 28, 29, 30, 31, 32, 33, 34, 35, 36, 37, 38, 39, 40, 41, 42, 43, 44, 45, 46, 47, 48, 49, 50, 51, 52, 53, 54, 55, 56, 57, 58, 59, 60, 61, 62, 63, 64, 65, 66, 67, 68, 69, 70, 71, 72, 73, 74, 75, 76, 77, 78, 79, 80, 81, 82, 83, 84, 85, 86, 87, 88, 89, 90, 91, 92, 93, 94, 95, 96, 97, 98, 99, 100, 101, 102, 103, 104, 105, 106, 107, 108, 109, 110, 111, 112, 113, 114, 115, 116, 117, 118, 119, 120, 121, 122, 123, 124, 125, 126, 127, 128, 129, 130, 131, 132, 133, 134, 135, 136, 137, 138, 139, 140, 141, 142, 143, 144, 145, 146, 147, 148, 149, 150, 151, 152, 153, 154, 155, 156, 157, 158, 159, 160, 161, 162, 163, 164, 165, 166, 167, 168, 169, 170, 171, 172, 173, 174, 175, 176, 177, 178, 179, 180, 181, 182, 183, 184, 185, 186, 187, 188, 189, 190, 191, 192, 193, 194, 195, 196, 197, 198, 199, 200, 201, 202, 203, 204, 205, 206, 207, 208, 209, 210, 211, 212, 213, 214, 215, 216, 217, 218, 219, 220, 221, 222, 223, 224, 225, 226, 227, 228, 229, 230, 231, 232, 233, 234, 235, 236, 237, 238, 239, 240, 241, 242, 243, 244, 245, 246, 247, 248, 249, 250, 251, 252, 253, 254, 255, 256, 257, 258, 259, 260, 261, 262, 263, 264, 265, 266, 267, 268, 269, 270, 271, 272, 273, 274, 275, 276, 277, 278] rfl (by decide +kernel)) (goodIn_sub (fun _ h => List.mem_cons_of_mem _ (List.mem_append_left _ (List.mem_append_right _ h))) (by decide +kernel))) (goodIn_sub (fun _ h => List.mem_cons_of_mem _ (List.mem_append_right _ h)) (by decide +kernel))
set_option maxRecDepth 20000 in
theorem gL_time_X6_time : GoodIn wsL_time (wsV RL 65 RX6 yX6_time wsX6_time) := goodIn_app (goodIn_of _ (by decide +kernel)) ggL_time_X6_time
theorem dL_time_0 : decode cL_time 0 = .ok (.aload 4, 2) := by decide +kernel
theorem dL_time_2 : decode cL_time 2 = .ok (.iconst 0, 1) := by decide +kernel
theorem dL_time_3 : decode cL_time 3 = .ok (.aload_n 0, 1) := by decide +kernel
theorem dL_time_4 : decode cL_time 4 = .ok (.iload_n 1, 1) := by decide +kernel
theorem dL_time_5 : decode cL_time 5 = .ok (.iload_n 2, 1) := by decide +kernel
theorem dL_time_6 : decode cL_time 6 = .ok (.iload_n 3, 1) := by decide +kernel
theorem dL_time_7 : decode cL_time 7 = .ok (.invokevirtual 65, 3) := by decide +kernel
theorem dL_time_10 : decode cL_time 10 = .ok (.i2l, 1) := by decide +kernel
theorem dL_time_11 : decode cL_time 11 = .ok (.lastore, 1) := by decide +kernel
theorem dL_time_12 : decode cL_time 12 = .ok (.goto 11, 3) := by decide +kernel
theorem dL_time_15 : decode cL_time 15 = .ok (.astore 5, 2) := by decide +kernel
theorem dL_time_17 : decode cL_time 17 = .ok (.iconst 1, 1) := by decide +kernel
theorem dL_time_18 : decode cL_time 18 = .ok (.ireturn, 1) := by decide +kernel
theorem dL_time_19 : decode cL_time 19 = .ok (.astore 5, 2) := by decide +kernel
theorem dL_time_21 : decode cL_time 21 = .ok (.iconst 2, 1) := by decide +kernel
theorem dL_time_22 : decode cL_time 22 = .ok (.ireturn, 1) := by decide +kernel
theorem dL_time_23 : decode cL_time 23 = .ok (.iconst 0, 1) := by decide +kernel
theorem dL_time_24 : decode cL_time 24 = .ok (.ireturn, 1) := by decide +kernel
set_option maxRecDepth 20000 in
theorem ggL_law_X6_init : GoodIn wsL_law wsX6_init := goodIn_r _ [9, 10, 11, 12, 13, 14, 15, 16, 17, 18, 19, 20, 21, 22, 23, 24, 25, 26, 27, 28, 29, 30, 31, 32, 33, 34, 35, 36, 37, 38, 39, 40, 41, 42, 43, 44, 45, 46, 47, 48, 49, 50, 51, 52, 53, 54, 55, 56, 57, 58, 59, 60, 61, 62, 63, 64, 65, 66, 67, 68, 69, 70, 71, 72, 73, 74, 75, 76, 77, 78, 79, 80, 81, 82, 83, 84, 85, 86, 87, 88, 89, 90, 91, 858, 859, 860, 861, 801, 802, 803, 804, 805, 806, 807, 808, 809, 862, 863, 864, 865, 866, 867, 868, 869, 870, 871, 872, 873, 874, 875, 876, 877, 878, 879, 880, 881, 882] rfl (by decide +kernel)
set_option maxRecDepth 20000 in
theorem gL_law_X6_init : GoodIn wsL_law (wsX6_init) := ggL_law_X6_init
set_option maxRecDepth 20000 in
theorem ggL_law_X7_init : GoodIn wsL_law wsX7_init := goodIn_r _ [94, 95, 11, 12, 47, 96, 97, 98, 99, 100, 101, 102, 103, 104, 105, 106, 107, 108, 6, 109, 110, 111, 112, 113, 114, 115, 116, 117, 118, 119, 120, 121, 122, 123, 124, 125, 126, 127, 128, 129, 130, 131, 132, 133, 134, 135, 136, 810, 811, 812, 813, 814, 815, 816, 817, 818, 819, 820, 821, 822, 823, 824, 825, 826, 827, 828, 829, 830, 831, 832, 833, 834, 835, 836, 837, 838, 839, 840, 841, 842, 843, 844, 845, 846, 847, 848, 849, 850, 851, 852, 853, 854, 855, 856, 857] rfl (by decide +kernel)
set_option maxRecDepth 20000 in
theorem gL_law_X7_init : GoodIn wsL_law (wsX7_init) := ggL_law_X7_init
set_option maxRecDepth 20000 in
theorem ggL_law_L_write : GoodIn wsL_law wsL_write := goodIn_ca (goodIn_ca (goodIn_r _ [140, 141, 142, 143, 144, 145, 2, 146, 147, 148, 149, 150, 16, 151, 152, 153, 154, 155, 156, 157, 158, 159, 15, 160, 44, 45, 48, 46, 161, 162, 163, 164, 801, 802, 803, 804, 805, 806, 807, 808, 809, 858, 859, 860, 861] rfl (by decide +kernel)) (goodIn_sub (fun _ h => List.mem_append_left _ (List.mem_append_left _ (List.mem_append_right _ h))) (by decide +kernel))) (goodIn_sub (fun _ h => List.mem_append_left _ (List.mem_append_right _ h)) (by decide +kernel))
set_option maxRecDepth 20000 in
theorem gL_law_L_write : GoodIn wsL_law (va_wsS RL 72 yL_write wsL_write) := goodIn_app (goodIn_r _ [137, 138, 139] rfl (by decide +kernel)) ggL_law_L_write
set_option maxRecDepth 20000 in
theorem ggL_law_X7_write : GoodIn wsL_law wsX7_write := goodIn_r _ [168, 96, 169, 170, 5, 171, 172, 173, 174, 175, 176, 810, 811, 812, 813, 814, 815, 816, 817, 818, 819, 820, 821, 822, 823, 824, 825, 826, 827, 828, 829, 830, 831, 832, 833, 834, 835, 836, 837, 838, 839, 840, 841, 842, 843, 844, 845, 846, 847, 848, 849, 850, 851, 852, 853, 854, 855, 856, 857] rfl (by decide +kernel)
set_option maxRecDepth 20000 in
theorem gL_law_X7_write : GoodIn wsL_law (wsV RL 77 RX7 yX7_write wsX7_write) := goodIn_app (goodIn_r _ [165, 166, 167, 5] rfl (by decide +kernel)) ggL_law_X7_write
set_option maxRecDepth 20000 in
theorem ggL_law_X7_thrown : GoodIn wsL_law wsX7_thrown := goodIn_r _ [180, 176, 810, 811, 812, 813, 814, 815, 816, 817, 818, 819, 820, 821, 822, 823, 824, 825, 826, 827, 828, 829, 830, 831, 832, 833, 834, 835, 836, 837, 838, 839, 840, 841, 842, 843, 844, 845, 846, 847, 848, 849, 850, 851, 852, 853, 854, 855, 856, 857] rfl (by decide +kernel)
set_option maxRecDepth 20000 in
theorem gL_law_X7_thrown : GoodIn wsL_law (wsV RL 78 RX7 yX7_thrown wsX7_thrown) := goodIn_app (goodIn_r _ [177, 178, 179, 5] rfl (by decide +kernel)) ggL_law_X7_thrown
set_option maxRecDepth 20000 in
theorem ggL_law_L_rule : GoodIn wsL_law wsL_rule := goodIn_ca (goodIn_ca (goodIn_r _ [183, 141, 142, 184, 185, 186, 2, 187, 149, 150, 17, 188, 189, 190, 147, 148, 151, 152, 153, 157, 158, 159, 15, 160, 44, 45, 48, 46, 191, 192, 193, 194, 161, 162, 163, 164, 801, 802, 803, 804, 805, 806, 807, 808, 809, 858, 859, 860, 861] rfl (by decide +kernel)) (goodIn_sub (fun _ h => List.mem_append_left _ (List.mem_append_right _ h)) (by decide +kernel))) (goodIn_sub (fun _ h => List.mem_append_left _ (List.mem_append_left _ (List.mem_append_right _ h))) (by decide +kernel))
set_option maxRecDepth 20000 in
theorem gL_law_L_rule : GoodIn wsL_law (va_wsS RL 82 yL_rule wsL_rule) := goodIn_app (goodIn_r _ [181, 182, 139] rfl (by decide +kernel)) ggL_law_L_rule
set_option maxRecDepth 20000 in
theorem ggL_law_X7_rule : GoodIn wsL_law wsX7_rule := goodIn_r _ [198, 97, 98, 99, 100, 101, 169, 170, 5, 171, 199, 200, 201, 172, 173, 174, 175, 176, 810, 811, 812, 813, 814, 815, 816, 817, 818, 819, 820, 821, 822, 823, 824, 825, 826, 827, 828, 829, 830, 831, 832, 833, 834, 835, 836, 837, 838, 839, 840, 841, 842, 843, 844, 845, 846, 847, 848, 849, 850, 851, 852, 853, 854, 855, 856, 857] rfl (by decide +kernel)
set_option maxRecDepth 20000 in
theorem gL_law_X7_rule : GoodIn wsL_law (wsV RL 85 RX7 yX7_rule wsX7_rule) := goodIn_app (goodIn_r _ [195, 196, 197, 5] rfl (by decide +kernel)) ggL_law_X7_rule
set_option maxRecDepth 20000 in
theorem ggL_law_L_input : GoodIn wsL_law wsL_input := goodIn_ca (goodIn_ca (goodIn_ca (goodIn_r _ [204, 141, 142, 205, 206, 207, 208, 2, 209, 147, 148, 149, 150, 210, 211, 17, 188, 189, 190, 212, 213, 214, 157, 158, 159, 15, 160, 44, 45, 48, 46, 161, 162, 163, 164, 801, 802, 803, 804, 805, 806, 807, 808, 809, 858, 859, 860, 861] rfl (by decide +kernel)) (goodIn_sub (fun _ h => List.mem_append_left _ (List.mem_append_left _ (List.mem_append_right _ h))) (by decide +kernel))) (goodIn_sub (fun _ h => List.mem_append_left _ (List.mem_append_right _ h)) (by decide +kernel))) (goodIn_sub (fun _ h => List.mem_append_right _ h) (by decide +kernel))
set_option maxRecDepth 20000 in
theorem gL_law_L_input : GoodIn wsL_law (va_wsS RL 86 yL_input wsL_input) := goodIn_app (goodIn_r _ [202, 203, 139] rfl (by decide +kernel)) ggL_law_L_input
set_option maxRecDepth 20000 in
theorem ggL_law_X7_input : GoodIn wsL_law wsX7_input := goodIn_r _ [218, 97, 101, 102, 103, 169, 170, 5, 171, 199, 200, 201, 172, 173, 174, 175, 176, 810, 811, 812, 813, 814, 815, 816, 817, 818, 819, 820, 821, 822, 823, 824, 825, 826, 827, 828, 829, 830, 831, 832, 833, 834, 835, 836, 837, 838, 839, 840, 841, 842, 843, 844, 845, 846, 847, 848, 849, 850, 851, 852, 853, 854, 855, 856, 857] rfl (by decide +kernel)
set_option maxRecDepth 20000 in
theorem gL_law_X7_input : GoodIn wsL_law (wsV RL 89 RX7 yX7_input wsX7_input) := goodIn_app (goodIn_r _ [215, 216, 217, 5] rfl (by decide +kernel)) ggL_law_X7_input
set_option maxRecDepth 20000 in
theorem ggL_law_L_fails : GoodIn wsL_law wsL_fails := goodIn_ca (goodIn_ca (goodIn_r _ [221, 141, 142, 222, 223, 224, 2, 225, 149, 150, 26, 188, 189, 190, 147, 148, 226, 227, 228, 25, 229, 60, 230, 158, 159, 15, 160, 44, 45, 48, 46, 231, 162, 163, 164, 801, 802, 803, 804, 805, 806, 807, 808, 809, 865, 866, 867, 868, 858, 859, 860, 861] rfl (by decide +kernel)) (goodIn_sub (fun _ h => List.mem_append_left _ (List.mem_append_right _ h)) (by decide +kernel))) (goodIn_sub (fun _ h => List.mem_append_left _ (List.mem_append_left _ (List.mem_append_right _ h))) (by decide +kernel))
set_option maxRecDepth 20000 in
theorem gL_law_L_fails : GoodIn wsL_law (va_wsS RL 90 yL_fails wsL_fails) := goodIn_app (goodIn_r _ [219, 220, 139] rfl (by decide +kernel)) ggL_law_L_fails
set_option maxRecDepth 20000 in
theorem ggL_law_X7_fails : GoodIn wsL_law wsX7_fails := goodIn_r _ [235, 104, 199, 200, 5, 201, 169, 170, 171, 172, 173, 174, 175, 176, 810, 811, 812, 813, 814, 815, 816, 817, 818, 819, 820, 821, 822, 823, 824, 825, 826, 827, 828, 829, 830, 831, 832, 833, 834, 835, 836, 837, 838, 839, 840, 841, 842, 843, 844, 845, 846, 847, 848, 849, 850, 851, 852, 853, 854, 855, 856, 857] rfl (by decide +kernel)
set_option maxRecDepth 20000 in
theorem gL_law_X7_fails : GoodIn wsL_law (wsV RL 92 RX7 yX7_fails wsX7_fails) := goodIn_app (goodIn_r _ [232, 233, 234, 5] rfl (by decide +kernel)) ggL_law_X7_fails
set_option maxRecDepth 20000 in
theorem ggL_law_L_poison : GoodIn wsL_law wsL_poison := goodIn_ca (goodIn_r _ [238, 141, 239, 240, 241, 2, 242, 147, 148, 26, 243, 244, 245, 25, 246, 59, 247, 248, 249, 250, 230, 158, 159, 15, 160, 44, 45, 48, 46, 231, 162, 163, 164, 801, 802, 803, 804, 805, 806, 807, 808, 809, 865, 866, 867, 868, 858, 859, 860, 861] rfl (by decide +kernel)) (goodIn_sub (fun _ h => List.mem_append_left _ (List.mem_append_left _ (List.mem_append_right _ h))) (by decide +kernel))
set_option maxRecDepth 20000 in
theorem gL_law_L_poison : GoodIn wsL_law (va_wsS RL 93 yL_poison wsL_poison) := goodIn_app (goodIn_r _ [236, 237, 139] rfl (by decide +kernel)) ggL_law_L_poison
set_option maxRecDepth 20000 in
theorem ggL_law_X7_poison : GoodIn wsL_law wsX7_poison := goodIn_r _ [254, 107, 106, 169, 170, 5, 171, 172, 173, 174, 175, 176, 810, 811, 812, 813, 814, 815, 816, 817, 818, 819, 820, 821, 822, 823, 824, 825, 826, 827, 828, 829, 830, 831, 832, 833, 834, 835, 836, 837, 838, 839, 840, 841, 842, 843, 844, 845, 846, 847, 848, 849, 850, 851, 852, 853, 854, 855, 856, 857] rfl (by decide +kernel)
set_option maxRecDepth 20000 in
theorem gL_law_X7_poison : GoodIn wsL_law (wsV RL 96 RX7 yX7_poison wsX7_poison) := goodIn_app (goodIn_r _ [251, 252, 253, 5] rfl (by decide +kernel)) ggL_law_X7_poison
set_option maxRecDepth 20000 in
theorem ggL_law_X6_checks : GoodIn wsL_law wsX6_checks := goodIn_r _ [258, 26, 801, 802, 803, 804, 805, 806, 807, 808, 809, 865, 866, 867, 868] rfl (by decide +kernel)
set_option maxRecDepth 20000 in
theorem gL_law_X6_checks : GoodIn wsL_law (wsV RL 97 RX6 yX6_checks wsX6_checks) := goodIn_app (goodIn_r _ [255, 256, 257, 2] rfl (by decide +kernel)) ggL_law_X6_checks
set_option maxRecDepth 20000 in
theorem ggL_law_X7_checks : GoodIn wsL_law wsX7_checks := goodIn_r _ [262, 176, 263, 810, 811, 812, 813, 814, 815, 816, 817, 818, 819, 820, 821, 822, 823, 824, 825, 826, 827, 828, 829, 830, 831, 832, 833, 834, 835, 836, 837, 838, 839, 840, 841, 842, 843, 844, 845, 846, 847, 848, 849, 850, 851, 852, 853, 854, 855, 856, 857] rfl (by decide +kernel)
set_option maxRecDepth 20000 in
theorem gL_law_X7_checks : GoodIn wsL_law (wsV RL 101 RX7 yX7_checks wsX7_checks) := goodIn_app (goodIn_r _ [259, 260, 261, 5] rfl (by decide +kernel)) ggL_law_X7_checks
set_option maxRecDepth 20000 in
theorem ggL_law_L_vanish : GoodIn wsL_law wsL_vanish := goodIn_ca (goodIn_r _ [266, 142, 267, 268, 269, 2, 270, 149, 150, 22, 801, 802, 803, 804, 805, 806, 807, 808, 809, 862, 863, 864] rfl (by decide +kernel)) (goodIn_sub (fun _ h => List.mem_append_left _ (List.mem_append_right _ h)) (by decide +kernel))
set_option maxRecDepth 20000 in
theorem gL_law_L_vanish : GoodIn wsL_law (va_wsS RL 102 yL_vanish wsL_vanish) := goodIn_app (goodIn_r _ [264, 265, 139] rfl (by decide +kernel)) ggL_law_L_vanish
set_option maxRecDepth 20000 in
theorem ggL_law_X7_vanish : GoodIn wsL_law wsX7_vanish := goodIn_r _ [274, 275, 169, 170, 5, 171, 172, 173, 174, 175, 176, 810, 811, 812, 813, 814, 815, 816, 817, 818, 819, 820, 821, 822, 823, 824, 825, 826, 827, 828, 829, 830, 831, 832, 833, 834, 835, 836, 837, 838, 839, 840, 841, 842, 843, 844, 845, 846, 847, 848, 849, 850, 851, 852, 853, 854, 855, 856, 857] rfl (by decide +kernel)
set_option maxRecDepth 20000 in
theorem gL_law_X7_vanish : GoodIn wsL_law (wsV RL 105 RX7 yX7_vanish wsX7_vanish) := goodIn_app (goodIn_r _ [271, 272, 273, 5] rfl (by decide +kernel)) ggL_law_X7_vanish
set_option maxRecDepth 20000 in
theorem ggL_law_X6_empty : GoodIn wsL_law wsX6_empty := goodIn_r _ [279, 22, 280, 281, 2, 282, 283, 284, 285, 15, 286, 44, 287, 158, 159, 160, 45, 48, 46, 191, 192, 193, 194, 801, 802, 803, 804, 805, 806, 807, 808, 809, 862, 863, 864, 858, 859, 860, 861] rfl (by decide +kernel)
set_option maxRecDepth 20000 in
theorem gL_law_X6_empty : GoodIn wsL_law (wsV RL 106 RX6 yX6_empty wsX6_empty) := goodIn_app (goodIn_r _ [276, 277, 278, 2] rfl (by decide +kernel)) ggL_law_X6_empty
set_option maxRecDepth 20000 in
theorem ggL_law_X7_empty : GoodIn wsL_law wsX7_empty := goodIn_r _ [291, 176, 292, 810, 811, 812, 813, 814, 815, 816, 817, 818, 819, 820, 821, 822, 823, 824, 825, 826, 827, 828, 829, 830, 831, 832, 833, 834, 835, 836, 837, 838, 839, 840, 841, 842, 843, 844, 845, 846, 847, 848, 849, 850, 851, 852, 853, 854, 855, 856, 857] rfl (by decide +kernel)
set_option maxRecDepth 20000 in
theorem gL_law_X7_empty : GoodIn wsL_law (wsV RL 109 RX7 yX7_empty wsX7_empty) := goodIn_app (goodIn_r _ [288, 289, 290, 5] rfl (by decide +kernel)) ggL_law_X7_empty
set_option maxRecDepth 20000 in
theorem ggL_law_X6_forget : GoodIn wsL_law wsX6_forget := goodIn_r _ [296, 18, 280, 281, 2, 282, 283, 284, 285, 15, 286, 44, 287, 158, 159, 160, 45, 48, 46, 191, 192, 193, 194, 801, 802, 803, 804, 805, 806, 807, 808, 809, 858, 859, 860, 861] rfl (by decide +kernel)
set_option maxRecDepth 20000 in
theorem gL_law_X6_forget : GoodIn wsL_law (wsV RL 110 RX6 yX6_forget wsX6_forget) := goodIn_app (goodIn_r _ [293, 294, 295, 2] rfl (by decide +kernel)) ggL_law_X6_forget
set_option maxRecDepth 20000 in
theorem ggL_law_X7_forget : GoodIn wsL_law wsX7_forget := goodIn_r _ [300, 176, 108, 810, 811, 812, 813, 814, 815, 816, 817, 818, 819, 820, 821, 822, 823, 824, 825, 826, 827, 828, 829, 830, 831, 832, 833, 834, 835, 836, 837, 838, 839, 840, 841, 842, 843, 844, 845, 846, 847, 848, 849, 850, 851, 852, 853, 854, 855, 856, 857] rfl (by decide +kernel)
set_option maxRecDepth 20000 in
theorem gL_law_X7_forget : GoodIn wsL_law (wsV RL 113 RX7 yX7_forget wsX7_forget) := goodIn_app (goodIn_r _ [297, 298, 299, 5] rfl (by decide +kernel)) ggL_law_X7_forget
set_option maxRecDepth 20000 in
theorem ggL_law_L_build : GoodIn wsL_law wsL_build := goodIn_ca (goodIn_r _ [303, 141, 304, 305, 306, 2, 307, 30, 308, 309, 310, 147, 148, 188, 189, 190, 311, 312, 313, 314, 315, 316, 29, 317, 318, 67, 74, 319, 192, 193, 15, 194, 44, 45, 48, 46, 320, 321, 322, 323, 324, 158, 159, 160, 325, 162, 163, 164, 326, 327, 328, 329, 330, 331, 332, 71, 72, 68, 333, 334, 335, 336, 337, 338, 339, 340, 341, 342, 343, 344, 345, 346, 347, 348, 349, 350, 351, 352, 353, 354, 355, 356, 357, 358, 359, 360, 361, 362, 21, 363, 53, 364, 365, 366, 367, 287, 368, 369, 370, 371, 372, 373, 374, 375, 376, 377, 378, 379, 380, 73, 381, 382, 383, 25, 384, 385, 247, 248, 249, 250, 59, 230, 386, 387, 388, 389, 60, 231, 390, 391, 392, 393, 69, 394, 395, 396, 397, 398, 399, 400, 401, 155, 156, 157, 402, 403, 404, 405, 406, 407, 408, 409, 410, 411, 412, 413, 414, 415, 416, 417, 418, 419, 420, 421, 422, 423, 424, 425, 426, 427, 428, 429, 430, 431, 432, 433, 434, 435, 436, 437, 70, 438, 439, 440, 441, 442, 443, 444, 445, 446, 447, 448, 449, 450, 451, 452, 453, 801, 802, 803, 804, 805, 806, 807, 808, 809, 869, 870, 871, 872, 873, 874, 875, 876, 877, 878, 858, 859, 860, 861, 862, 863, 864, 865, 866, 867, 868] rfl (by decide +kernel)) (goodIn_sub (fun _ h => List.mem_append_left _ (List.mem_append_left _ (List.mem_append_right _ h))) (by decide +kernel))
set_option maxRecDepth 20000 in
theorem gL_law_L_build : GoodIn wsL_law (va_wsS RL 114 yL_build wsL_build) := goodIn_app (goodIn_r _ [301, 302, 139] rfl (by decide +kernel)) ggL_law_L_build
set_option maxRecDepth 20000 in
theorem ggL_law_X7_build : GoodIn wsL_law wsX7_build := goodIn_r _ [457, 125, 123, 124, 117, 458, 108, 459, 460, 5, 461, 199, 200, 201, 169, 170, 171, 172, 173, 174, 175, 176, 462, 463, 464, 465, 121, 466, 126, 127, 122, 467, 468, 469, 470, 129, 128, 97, 109, 110, 100, 471, 472, 473, 474, 475, 98, 476, 99, 477, 101, 102, 103, 478, 479, 480, 481, 111, 115, 112, 113, 96, 114, 482, 483, 484, 485, 486, 487, 488, 489, 490, 491, 492, 493, 494, 495, 496, 497, 498, 499, 500, 501, 502, 275, 119, 120, 503, 504, 505, 506, 130, 132, 507, 508, 509, 510, 511, 512, 513, 514, 131, 515, 516, 517, 518, 519, 520, 521, 522, 133, 523, 524, 525, 526, 527, 528, 292, 118, 529, 530, 531, 532, 533, 534, 535, 536, 116, 537, 538, 539, 540, 104, 106, 263, 541, 542, 543, 544, 545, 107, 546, 547, 548, 549, 810, 811, 812, 813, 814, 815, 816, 817, 818, 819, 820, 821, 822, 823, 824, 825, 826, 827, 828, 829, 830, 831, 832, 833, 834, 835, 836, 837, 838, 839, 840, 841, 842, 843, 844, 845, 846, 847, 848, 849, 850, 851, 852, 853, 854, 855, 856, 857] rfl (by decide +kernel)
set_option maxRecDepth 20000 in
theorem gL_law_X7_build : GoodIn wsL_law (wsV RL 116 RX7 yX7_build wsX7_build) := goodIn_app (goodIn_r _ [454, 455, 456, 5] rfl (by decide +kernel)) ggL_law_X7_build
set_option maxRecDepth 20000 in
theorem ggL_law_L_plain : GoodIn wsL_law wsL_plain := goodIn_ca (goodIn_r _ [552, 141, 553, 554, 555, 2, 556, 31, 308, 309, 310, 147, 148, 188, 189, 190, 311, 312, 313, 314, 315, 316, 29, 317, 318, 67, 74, 319, 192, 193, 15, 194, 44, 45, 48, 46, 320, 321, 322, 323, 324, 158, 159, 160, 325, 162, 163, 164, 326, 327, 328, 329, 330, 331, 332, 71, 72, 68, 333, 334, 335, 336, 337, 338, 339, 340, 341, 342, 343, 344, 345, 346, 347, 348, 349, 350, 351, 352, 353, 354, 355, 356, 357, 358, 359, 360, 361, 362, 21, 363, 53, 364, 365, 366, 367, 287, 368, 369, 370, 371, 372, 373, 374, 375, 376, 377, 378, 379, 380, 73, 381, 382, 383, 25, 384, 385, 247, 248, 249, 250, 59, 230, 386, 387, 388, 389, 60, 231, 390, 391, 392, 393, 69, 394, 395, 396, 397, 398, 399, 400, 401, 155, 156, 157, 402, 403, 404, 405, 406, 407, 408, 409, 410, 411, 412, 413, 414, 415, 416, 417, 418, 419, 420, 421, 422, 423, 424, 425, 426, 427, 428, 429, 430, 431, 432, 433, 434, 435, 436, 437, 70, 438, 439, 440, 441, 442, 443, 444, 445, 446, 447, 448, 449, 450, 451, 452, 453, 801, 802, 803, 804, 805, 806, 807, 808, 809, 869, 870, 871, 872, 873, 874, 875, 876, 877, 878, 858, 859, 860, 861, 862, 863, 864, 865, 866, 867, 868] rfl (by decide +kernel)) (goodIn_sub (fun _ h => List.mem_append_left _ (List.mem_append_left _ (List.mem_append_right _ h))) (by decide +kernel))
set_option maxRecDepth 20000 in
theorem gL_law_L_plain : GoodIn wsL_law (va_wsS RL 117 yL_plain wsL_plain) := goodIn_app (goodIn_r _ [550, 551, 139] rfl (by decide +kernel)) ggL_law_L_plain
set_option maxRecDepth 20000 in
theorem ggL_law_X7_plain : GoodIn wsL_law wsX7_plain := goodIn_r _ [560, 459, 460, 5, 461, 199, 200, 201, 169, 170, 171, 172, 173, 174, 175, 176, 561, 562, 563, 564, 125, 502, 135, 123, 136, 124, 458, 462, 463, 464, 465, 121, 466, 126, 127, 122, 467, 468, 469, 470, 129, 128, 108, 97, 109, 110, 100, 471, 472, 473, 474, 475, 98, 476, 99, 477, 101, 102, 103, 478, 479, 480, 481, 111, 115, 112, 113, 96, 114, 482, 483, 484, 485, 486, 487, 488, 489, 490, 491, 492, 493, 494, 495, 496, 497, 498, 499, 500, 501, 275, 119, 120, 503, 504, 505, 506, 130, 132, 507, 508, 509, 510, 511, 512, 513, 514, 131, 515, 516, 517, 518, 519, 520, 521, 522, 133, 523, 524, 525, 526, 527, 528, 292, 118, 529, 530, 531, 532, 533, 534, 535, 536, 117, 116, 537, 538, 539, 540, 104, 106, 263, 541, 542, 543, 544, 545, 107, 546, 547, 548, 549, 810, 811, 812, 813, 814, 815, 816, 817, 818, 819, 820, 821, 822, 823, 824, 825, 826, 827, 828, 829, 830, 831, 832, 833, 834, 835, 836, 837, 838, 839, 840, 841, 842, 843, 844, 845, 846, 847, 848, 849, 850, 851, 852, 853, 854, 855, 856, 857] rfl (by decide +kernel)
set_option maxRecDepth 20000 in
theorem gL_law_X7_plain : GoodIn wsL_law (wsV RL 119 RX7 yX7_plain wsX7_plain) := goodIn_app (goodIn_r _ [557, 558, 559, 5] rfl (by decide +kernel)) ggL_law_X7_plain
set_option maxRecDepth 20000 in
theorem ggL_law_L_done : GoodIn wsL_law wsL_done := goodIn_ca (goodIn_r _ [567, 141, 568, 569, 570, 2, 571, 30, 308, 309, 310, 147, 148, 188, 189, 190, 311, 312, 313, 157, 158, 159, 15, 160, 44, 45, 48, 46, 801, 802, 803, 804, 805, 806, 807, 808, 809, 869, 870, 871, 872, 873, 874, 875, 876, 877, 878, 858, 859, 860, 861] rfl (by decide +kernel)) (goodIn_sub (fun _ h => List.mem_append_left _ (List.mem_append_left _ (List.mem_append_right _ h))) (by decide +kernel))
set_option maxRecDepth 20000 in
theorem gL_law_L_done : GoodIn wsL_law (va_wsS RL 120 yL_done wsL_done) := goodIn_app (goodIn_r _ [565, 566, 139] rfl (by decide +kernel)) ggL_law_L_done
set_option maxRecDepth 20000 in
theorem ggL_law_X7_done : GoodIn wsL_law wsX7_done := goodIn_r _ [575, 123, 459, 460, 5, 461, 199, 200, 201, 169, 170, 171, 172, 173, 174, 175, 176, 810, 811, 812, 813, 814, 815, 816, 817, 818, 819, 820, 821, 822, 823, 824, 825, 826, 827, 828, 829, 830, 831, 832, 833, 834, 835, 836, 837, 838, 839, 840, 841, 842, 843, 844, 845, 846, 847, 848, 849, 850, 851, 852, 853, 854, 855, 856, 857] rfl (by decide +kernel)
set_option maxRecDepth 20000 in
theorem gL_law_X7_done : GoodIn wsL_law (wsV RL 122 RX7 yX7_done wsX7_done) := goodIn_app (goodIn_r _ [572, 573, 574, 5] rfl (by decide +kernel)) ggL_law_X7_done
set_option maxRecDepth 20000 in
theorem ggL_law_L_why : GoodIn wsL_law wsL_why := goodIn_ca (goodIn_r _ [578, 141, 579, 580, 581, 2, 582, 30, 308, 309, 310, 147, 148, 188, 189, 190, 311, 312, 313, 157, 158, 159, 15, 160, 44, 45, 48, 46, 801, 802, 803, 804, 805, 806, 807, 808, 809, 869, 870, 871, 872, 873, 874, 875, 876, 877, 878, 858, 859, 860, 861] rfl (by decide +kernel)) (goodIn_sub (fun _ h => List.mem_append_left _ (List.mem_append_left _ (List.mem_append_right _ h))) (by decide +kernel))
set_option maxRecDepth 20000 in
theorem gL_law_L_why : GoodIn wsL_law (va_wsS RL 123 yL_why wsL_why) := goodIn_app (goodIn_r _ [576, 577, 139] rfl (by decide +kernel)) ggL_law_L_why
set_option maxRecDepth 20000 in
theorem ggL_law_X7_why : GoodIn wsL_law wsX7_why := goodIn_r _ [586, 124, 459, 460, 5, 461, 199, 200, 201, 169, 170, 171, 172, 173, 174, 175, 176, 810, 811, 812, 813, 814, 815, 816, 817, 818, 819, 820, 821, 822, 823, 824, 825, 826, 827, 828, 829, 830, 831, 832, 833, 834, 835, 836, 837, 838, 839, 840, 841, 842, 843, 844, 845, 846, 847, 848, 849, 850, 851, 852, 853, 854, 855, 856, 857] rfl (by decide +kernel)
set_option maxRecDepth 20000 in
theorem gL_law_X7_why : GoodIn wsL_law (wsV RL 125 RX7 yX7_why wsX7_why) := goodIn_app (goodIn_r _ [583, 584, 585, 5] rfl (by decide +kernel)) ggL_law_X7_why
set_option maxRecDepth 20000 in
theorem ggL_law_L_counts : GoodIn wsL_law wsL_counts := goodIn_ca (goodIn_r _ [589, 142, 590, 591, 592, 2, 593, 149, 150, 30, 594, 595, 596, 29, 597, 67, 324, 158, 159, 15, 160, 44, 45, 48, 46, 801, 802, 803, 804, 805, 806, 807, 808, 809, 869, 870, 871, 872, 873, 874, 875, 876, 877, 878, 858, 859, 860, 861] rfl (by decide +kernel)) (goodIn_sub (fun _ h => List.mem_append_left _ (List.mem_append_right _ h)) (by decide +kernel))
set_option maxRecDepth 20000 in
theorem gL_law_L_counts : GoodIn wsL_law (va_wsS RL 126 yL_counts wsL_counts) := goodIn_app (goodIn_r _ [587, 588, 139] rfl (by decide +kernel)) ggL_law_L_counts
set_option maxRecDepth 20000 in
theorem ggL_law_X7_counts : GoodIn wsL_law wsX7_counts := goodIn_r _ [601, 125, 169, 170, 5, 171, 172, 173, 174, 175, 176, 810, 811, 812, 813, 814, 815, 816, 817, 818, 819, 820, 821, 822, 823, 824, 825, 826, 827, 828, 829, 830, 831, 832, 833, 834, 835, 836, 837, 838, 839, 840, 841, 842, 843, 844, 845, 846, 847, 848, 849, 850, 851, 852, 853, 854, 855, 856, 857] rfl (by decide +kernel)
set_option maxRecDepth 20000 in
theorem gL_law_X7_counts : GoodIn wsL_law (wsV RL 128 RX7 yX7_counts wsX7_counts) := goodIn_app (goodIn_r _ [598, 599, 600, 5] rfl (by decide +kernel)) ggL_law_X7_counts
set_option maxRecDepth 20000 in
theorem ggL_law_X6_entries : GoodIn wsL_law wsX6_entries := goodIn_r _ [605, 22, 283, 284, 285, 15, 286, 44, 287, 158, 159, 160, 45, 48, 46, 801, 802, 803, 804, 805, 806, 807, 808, 809, 862, 863, 864, 858, 859, 860, 861] rfl (by decide +kernel)
set_option maxRecDepth 20000 in
theorem gL_law_X6_entries : GoodIn wsL_law (wsV RL 129 RX6 yX6_entries wsX6_entries) := goodIn_app (goodIn_r _ [602, 603, 604, 2] rfl (by decide +kernel)) ggL_law_X6_entries
set_option maxRecDepth 20000 in
theorem ggL_law_X7_entries : GoodIn wsL_law wsX7_entries := goodIn_r _ [609, 176, 292, 810, 811, 812, 813, 814, 815, 816, 817, 818, 819, 820, 821, 822, 823, 824, 825, 826, 827, 828, 829, 830, 831, 832, 833, 834, 835, 836, 837, 838, 839, 840, 841, 842, 843, 844, 845, 846, 847, 848, 849, 850, 851, 852, 853, 854, 855, 856, 857] rfl (by decide +kernel)
set_option maxRecDepth 20000 in
theorem gL_law_X7_entries : GoodIn wsL_law (wsV RL 132 RX7 yX7_entries wsX7_entries) := goodIn_app (goodIn_r _ [606, 607, 608, 5] rfl (by decide +kernel)) ggL_law_X7_entries
set_option maxRecDepth 20000 in
theorem ggL_law_X6_away : GoodIn wsL_law wsX6_away := goodIn_r _ [613, 26, 614, 615, 616, 25, 617, 247, 248, 249, 250, 59, 230, 158, 159, 15, 160, 44, 45, 48, 46, 801, 802, 803, 804, 805, 806, 807, 808, 809, 865, 866, 867, 868, 858, 859, 860, 861] rfl (by decide +kernel)
set_option maxRecDepth 20000 in
theorem gL_law_X6_away : GoodIn wsL_law (wsV RL 133 RX6 yX6_away wsX6_away) := goodIn_app (goodIn_r _ [610, 611, 612, 2] rfl (by decide +kernel)) ggL_law_X6_away
set_option maxRecDepth 20000 in
theorem ggL_law_X7_away : GoodIn wsL_law wsX7_away := goodIn_r _ [621, 176, 107, 810, 811, 812, 813, 814, 815, 816, 817, 818, 819, 820, 821, 822, 823, 824, 825, 826, 827, 828, 829, 830, 831, 832, 833, 834, 835, 836, 837, 838, 839, 840, 841, 842, 843, 844, 845, 846, 847, 848, 849, 850, 851, 852, 853, 854, 855, 856, 857] rfl (by decide +kernel)
set_option maxRecDepth 20000 in
theorem gL_law_X7_away : GoodIn wsL_law (wsV RL 136 RX7 yX7_away wsX7_away) := goodIn_app (goodIn_r _ [618, 619, 620, 5] rfl (by decide +kernel)) ggL_law_X7_away
set_option maxRecDepth 20000 in
theorem ggL_law_X6_leaks : GoodIn wsL_law wsX6_leaks := goodIn_r _ [625, 30, 801, 802, 803, 804, 805, 806, 807, 808, 809, 869, 870, 871, 872, 873, 874, 875, 876, 877, 878] rfl (by decide +kernel)
set_option maxRecDepth 20000 in
theorem gL_law_X6_leaks : GoodIn wsL_law (wsV RL 137 RX6 yX6_leaks wsX6_leaks) := goodIn_app (goodIn_r _ [622, 623, 624, 2] rfl (by decide +kernel)) ggL_law_X6_leaks
set_option maxRecDepth 20000 in
theorem ggL_law_X7_leaks : GoodIn wsL_law wsX7_leaks := goodIn_r _ [629, 176, 502, 810, 811, 812, 813, 814, 815, 816, 817, 818, 819, 820, 821, 822, 823, 824, 825, 826, 827, 828, 829, 830, 831, 832, 833, 834, 835, 836, 837, 838, 839, 840, 841, 842, 843, 844, 845, 846, 847, 848, 849, 850, 851, 852, 853, 854, 855, 856, 857] rfl (by decide +kernel)
set_option maxRecDepth 20000 in
theorem gL_law_X7_leaks : GoodIn wsL_law (wsV RL 140 RX7 yX7_leaks wsX7_leaks) := goodIn_app (goodIn_r _ [626, 627, 628, 5] rfl (by decide +kernel)) ggL_law_X7_leaks
set_option maxRecDepth 20000 in
theorem ggL_law_L_needs : GoodIn wsL_law wsL_needs := goodIn_ca (goodIn_r _ [632, 141, 633, 634, 635, 2, 636, 35, 188, 189, 190, 147, 148, 637, 638, 639, 34, 640, 81, 641, 642, 643, 644, 82, 645, 158, 159, 15, 160, 44, 45, 48, 46, 646, 162, 163, 164, 647, 648, 649, 650, 651, 652, 653, 801, 802, 803, 804, 805, 806, 807, 808, 809, 879, 880, 858, 859, 860, 861] rfl (by decide +kernel)) (goodIn_sub (fun _ h => List.mem_append_left _ (List.mem_append_left _ (List.mem_append_right _ h))) (by decide +kernel))
set_option maxRecDepth 20000 in
theorem gL_law_L_needs : GoodIn wsL_law (va_wsS RL 141 yL_needs wsL_needs) := goodIn_app (goodIn_r _ [630, 631, 139] rfl (by decide +kernel)) ggL_law_L_needs
set_option maxRecDepth 20000 in
theorem ggL_law_X7_needs : GoodIn wsL_law wsX7_needs := goodIn_r _ [657, 199, 200, 5, 201, 169, 170, 171, 172, 173, 174, 175, 176, 658, 659, 660, 661, 662, 663, 664, 665, 101, 97, 102, 103, 666, 667, 668, 810, 811, 812, 813, 814, 815, 816, 817, 818, 819, 820, 821, 822, 823, 824, 825, 826, 827, 828, 829, 830, 831, 832, 833, 834, 835, 836, 837, 838, 839, 840, 841, 842, 843, 844, 845, 846, 847, 848, 849, 850, 851, 852, 853, 854, 855, 856, 857] rfl (by decide +kernel)
set_option maxRecDepth 20000 in
theorem gL_law_X7_needs : GoodIn wsL_law (wsV RL 143 RX7 yX7_needs wsX7_needs) := goodIn_app (goodIn_r _ [654, 655, 656, 5] rfl (by decide +kernel)) ggL_law_X7_needs
set_option maxRecDepth 20000 in
theorem ggL_law_L_users : GoodIn wsL_law wsL_users := goodIn_ca (goodIn_r _ [671, 141, 672, 673, 674, 2, 675, 147, 148, 35, 637, 638, 639, 34, 640, 81, 641, 642, 643, 644, 82, 645, 158, 159, 15, 160, 44, 45, 48, 46, 646, 162, 163, 164, 676, 677, 678, 679, 680, 648, 649, 650, 651, 652, 653, 681, 682, 683, 684, 801, 802, 803, 804, 805, 806, 807, 808, 809, 879, 880, 858, 859, 860, 861] rfl (by decide +kernel)) (goodIn_sub (fun _ h => List.mem_append_left _ (List.mem_append_left _ (List.mem_append_right _ h))) (by decide +kernel))
set_option maxRecDepth 20000 in
theorem gL_law_L_users : GoodIn wsL_law (va_wsS RL 144 yL_users wsL_users) := goodIn_app (goodIn_r _ [669, 670, 139] rfl (by decide +kernel)) ggL_law_L_users
set_option maxRecDepth 20000 in
theorem ggL_law_X7_users : GoodIn wsL_law wsX7_users := goodIn_r _ [688, 97, 199, 200, 5, 201, 169, 170, 171, 172, 173, 174, 175, 176, 658, 659, 660, 661, 662, 663, 664, 665, 101, 102, 103, 666, 667, 668, 515, 516, 517, 518, 810, 811, 812, 813, 814, 815, 816, 817, 818, 819, 820, 821, 822, 823, 824, 825, 826, 827, 828, 829, 830, 831, 832, 833, 834, 835, 836, 837, 838, 839, 840, 841, 842, 843, 844, 845, 846, 847, 848, 849, 850, 851, 852, 853, 854, 855, 856, 857] rfl (by decide +kernel)
set_option maxRecDepth 20000 in
theorem gL_law_X7_users : GoodIn wsL_law (wsV RL 146 RX7 yX7_users wsX7_users) := goodIn_app (goodIn_r _ [685, 686, 687, 5] rfl (by decide +kernel)) ggL_law_X7_users
set_option maxRecDepth 20000 in
theorem ggL_law_L_ring : GoodIn wsL_law wsL_ring := goodIn_ca (goodIn_r _ [691, 141, 692, 693, 694, 2, 695, 35, 188, 189, 190, 147, 148, 637, 638, 639, 34, 640, 81, 641, 642, 643, 644, 82, 645, 158, 159, 15, 160, 44, 45, 48, 46, 646, 162, 163, 164, 696, 697, 698, 699, 700, 701, 702, 703, 651, 652, 653, 801, 802, 803, 804, 805, 806, 807, 808, 809, 879, 880, 858, 859, 860, 861] rfl (by decide +kernel)) (goodIn_sub (fun _ h => List.mem_append_left _ (List.mem_append_left _ (List.mem_append_right _ h))) (by decide +kernel))
set_option maxRecDepth 20000 in
theorem gL_law_L_ring : GoodIn wsL_law (va_wsS RL 147 yL_ring wsL_ring) := goodIn_app (goodIn_r _ [689, 690, 139] rfl (by decide +kernel)) ggL_law_L_ring
set_option maxRecDepth 20000 in
theorem ggL_law_X7_ring : GoodIn wsL_law wsX7_ring := goodIn_r _ [707, 199, 200, 5, 201, 169, 170, 171, 172, 173, 174, 175, 176, 708, 709, 710, 711, 662, 663, 664, 665, 101, 97, 102, 103, 666, 667, 668, 810, 811, 812, 813, 814, 815, 816, 817, 818, 819, 820, 821, 822, 823, 824, 825, 826, 827, 828, 829, 830, 831, 832, 833, 834, 835, 836, 837, 838, 839, 840, 841, 842, 843, 844, 845, 846, 847, 848, 849, 850, 851, 852, 853, 854, 855, 856, 857] rfl (by decide +kernel)
set_option maxRecDepth 20000 in
theorem gL_law_X7_ring : GoodIn wsL_law (wsV RL 149 RX7 yX7_ring wsX7_ring) := goodIn_app (goodIn_r _ [704, 705, 706, 5] rfl (by decide +kernel)) ggL_law_X7_ring
set_option maxRecDepth 20000 in
theorem ggL_law_L_way : GoodIn wsL_law wsL_way := goodIn_ca (goodIn_ca (goodIn_r _ [714, 141, 142, 715, 716, 717, 2, 718, 147, 148, 149, 150, 35, 188, 189, 190, 637, 638, 639, 34, 640, 81, 641, 642, 643, 644, 82, 645, 158, 159, 15, 160, 44, 45, 48, 46, 646, 162, 163, 164, 719, 720, 721, 722, 700, 701, 702, 703, 651, 652, 653, 723, 724, 725, 726, 801, 802, 803, 804, 805, 806, 807, 808, 809, 879, 880, 858, 859, 860, 861] rfl (by decide +kernel)) (goodIn_sub (fun _ h => List.mem_append_left _ (List.mem_append_left _ (List.mem_append_right _ h))) (by decide +kernel))) (goodIn_sub (fun _ h => List.mem_append_left _ (List.mem_append_right _ h)) (by decide +kernel))
set_option maxRecDepth 20000 in
theorem gL_law_L_way : GoodIn wsL_law (va_wsS RL 150 yL_way wsL_way) := goodIn_app (goodIn_r _ [712, 713, 139] rfl (by decide +kernel)) ggL_law_L_way
set_option maxRecDepth 20000 in
theorem ggL_law_X7_way : GoodIn wsL_law wsX7_way := goodIn_r _ [730, 199, 200, 5, 201, 169, 170, 171, 172, 173, 174, 175, 176, 708, 709, 710, 711, 662, 663, 664, 665, 101, 97, 102, 103, 666, 667, 668, 810, 811, 812, 813, 814, 815, 816, 817, 818, 819, 820, 821, 822, 823, 824, 825, 826, 827, 828, 829, 830, 831, 832, 833, 834, 835, 836, 837, 838, 839, 840, 841, 842, 843, 844, 845, 846, 847, 848, 849, 850, 851, 852, 853, 854, 855, 856, 857] rfl (by decide +kernel)
set_option maxRecDepth 20000 in
theorem gL_law_X7_way : GoodIn wsL_law (wsV RL 152 RX7 yX7_way wsX7_way) := goodIn_app (goodIn_r _ [727, 728, 729, 5] rfl (by decide +kernel)) ggL_law_X7_way
set_option maxRecDepth 20000 in
theorem ggL_law_L_time : GoodIn wsL_law wsL_time := goodIn_ca (goodIn_ca (goodIn_r _ [733, 141, 142, 734, 735, 736, 2, 737, 149, 150, 31, 39, 308, 309, 310, 147, 148, 188, 189, 190, 311, 312, 313, 314, 315, 316, 29, 317, 318, 67, 74, 319, 192, 193, 15, 194, 44, 45, 48, 46, 320, 321, 322, 323, 324, 158, 159, 160, 325, 162, 163, 164, 326, 327, 328, 329, 330, 331, 332, 71, 72, 68, 333, 334, 335, 336, 337, 338, 339, 340, 341, 342, 343, 344, 345, 346, 347, 348, 349, 350, 351, 352, 353, 354, 355, 356, 357, 358, 359, 360, 361, 362, 21, 363, 53, 364, 365, 366, 367, 287, 368, 369, 370, 371, 372, 373, 374, 375, 376, 377, 378, 379, 380, 73, 381, 382, 383, 25, 384, 385, 247, 248, 249, 250, 59, 230, 386, 387, 388, 389, 60, 231, 390, 391, 392, 393, 69, 394, 395, 396, 397, 398, 399, 400, 401, 155, 156, 157, 402, 403, 404, 405, 406, 407, 408, 409, 410, 411, 412, 413, 414, 415, 416, 417, 418, 419, 420, 421, 422, 423, 424, 425, 426, 427, 428, 429, 430, 431, 432, 433, 434, 435, 436, 437, 70, 438, 439, 440, 441, 442, 443, 444, 445, 446, 447, 448, 449, 450, 451, 452, 453, 738, 739, 740, 38, 741, 89, 742, 743, 744, 745, 746, 747, 748, 749, 750, 90, 751, 752, 753, 754, 755, 756, 757, 758, 759, 760, 761, 762, 763, 764, 765, 766, 767, 768, 769, 770, 771, 772, 773, 774, 775, 776, 777, 778, 779, 780, 801, 802, 803, 804, 805, 806, 807, 808, 809, 869, 870, 871, 872, 873, 874, 875, 876, 877, 878, 858, 859, 860, 861, 862, 863, 864, 865, 866, 867, 868, 881, 882] rfl (by decide +kernel)) (goodIn_sub (fun _ h => List.mem_append_left _ (List.mem_append_right _ h)) (by decide +kernel))) (goodIn_sub (fun _ h => List.mem_append_left _ (List.mem_append_left _ (List.mem_append_right _ h))) (by decide +kernel))
set_option maxRecDepth 20000 in
theorem gL_law_L_time : GoodIn wsL_law (va_wsS RL 153 yL_time wsL_time) := goodIn_app (goodIn_r _ [731, 732, 139] rfl (by decide +kernel)) ggL_law_L_time
set_option maxRecDepth 20000 in
theorem ggL_law_X7_time : GoodIn wsL_law wsX7_time := goodIn_r _ [784, 136, 100, 459, 460, 5, 461, 199, 200, 201, 169, 170, 171, 172, 173, 174, 175, 176, 561, 562, 563, 564, 125, 502, 135, 123, 124, 458, 462, 463, 464, 465, 121, 466, 126, 127, 122, 467, 468, 469, 470, 129, 128, 108, 97, 109, 110, 471, 472, 473, 474, 475, 98, 476, 99, 477, 101, 102, 103, 478, 479, 480, 481, 111, 115, 112, 113, 96, 114, 482, 483, 484, 485, 486, 487, 488, 489, 490, 491, 492, 493, 494, 495, 496, 497, 498, 499, 500, 501, 275, 119, 120, 503, 504, 505, 506, 130, 132, 507, 508, 509, 510, 511, 512, 513, 514, 131, 515, 516, 517, 518, 519, 520, 521, 522, 133, 523, 524, 525, 526, 527, 528, 292, 118, 529, 530, 531, 532, 533, 534, 535, 536, 117, 116, 537, 538, 539, 540, 104, 106, 263, 541, 542, 543, 544, 545, 107, 546, 547, 548, 549, 785, 786, 787, 788, 134, 789, 790, 791, 792, 666, 667, 668, 793, 794, 795, 796, 797, 798, 799, 800, 810, 811, 812, 813, 814, 815, 816, 817, 818, 819, 820, 821, 822, 823, 824, 825, 826, 827, 828, 829, 830, 831, 832, 833, 834, 835, 836, 837, 838, 839, 840, 841, 842, 843, 844, 845, 846, 847, 848, 849, 850, 851, 852, 853, 854, 855, 856, 857] rfl (by decide +kernel)
set_option maxRecDepth 20000 in
theorem gL_law_X7_time : GoodIn wsL_law (wsV RL 155 RX7 yX7_time wsX7_time) := goodIn_app (goodIn_r _ [781, 782, 783, 5] rfl (by decide +kernel)) ggL_law_X7_time
